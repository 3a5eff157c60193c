set_option maxHeartbeats 4000000 in
set_option maxRecDepth 100000 in
theorem st_begin {p : Program} {l : Launch} {e : Env} {s : State} {m : MethodId} {below : List Frame} {meth : Method} {c : Code} {b L : Nat} {xs : Nat → Int32} {dC : Nat → ClassId} {dI : Nat → Nat → Nat} {ck : Nat → ClassId} {AD : Nat → Nat} {Q : State → Prop} {i k : Nat} {w5 w6 tl : va_W} {H : Heap} {locs : List Loc} {ls : Array Slot} (X : LC p s m c b L xs) (hK : K2 (dC, dI) ck s) (hi : i + 6 ≤ L) (hk : k ≤ 512) (hI : INV ck AD w5 w6 tl) (hP : va_P (dC, dI) vwCl (w5 ++ (w6 ++ tl)) H) (hD : va_D (fun q => s.heap.size ≤ q) (w5 ++ (w6 ++ tl))) (hS : va_S (fun q => s.heap.size ≤ q) s.heap H locs) (hl : lv_has ls 4 (LL b AD i)) (kk : NX p l e s m below meth c b (dC, dI) ck AD Q i k) : W p l e room_1 s m #[Value.ref b] below meth c H locs (CE k) (CS k) Q (F0 m 132 ls []) := by
  obtain ⟨pl, to, ks, os, cs, ys, cy, oy, yr, ns, cn, on, nr, rd, sy, sc, so, syr, sn_, sd, son, snr, srd, ad, len, st, tx, tln, z, past, sl, isv, pm, pd, ty, b1, b2, b3, b4, b5, b6, b7, b8, b9, b10, ords, a1, a2, a3, a, mm, L9, l9, x0, x1, rfl, rfl, rfl, hC, hPR, hz1, hz2, hSR⟩ := hI
  obtain ⟨hx, hb, hml, hown, hts, hX, hbl, hL⟩ := X
  have hA : ∀ q : Nat, s.heap.size ≤ q → (fun q : Nat => s.heap.size ≤ q) q := fun _ h => h
  have hbA : ¬ (fun q : Nat => s.heap.size ≤ q) b := Nat.not_le.mpr hbl
  have hf : CE k ≤ room_1.cells ∧ CS k ≤ room_1.slots := by
    unfold CE CS
    exact ⟨show _ ≤ 600000 by omega, show _ ≤ 7302250 by omega⟩
  have hw1 : CE k ≤ CE (k + 1) := by unfold CE; omega
  have hw2 : CS k ≤ CS (k + 1) := by unfold CS; omega
  have hin1 : vp_in (nI i + 1) L := lwin 1 hL hi (by decide)
  obtain ⟨r_n, pl_n, to_n, ys_n, cy_n, oy_n, yr_n, ns_n, cn_n, on_n, nr_n, rd_n, ad_n, len_n, st_n, z_n, past_n, pm_n, a_n, m_n, L_n, q5, q6, hC_n⟩ := begin_ok hC yr nr ad (xs (nI i + 1).toNatClampNeg)
  refine lv_aload_n hx hb dL_law_132 rfl (lv_at hl 1 rfl) ?_
  refine lv_aload_n hx hb dL_law_133 rfl (lv_at hl 0 rfl) ?_
  refine lv_iload_n hx hb dL_law_134 rfl (lv_at hl 3 rfl) ?_
  refine lv_iconst (v := (1 : Int32)) hx hb dL_law_135 rfl ?_
  refine lv_iadd hx hb dL_law_136 ?_
  refine va_sld hx hb hX hbl hbA hS hin1 dL_law_137 ?_
  refine lawMI (As := [.int (xs (nI i + 1).toNatClampNeg)]) (rest := []) (wk := W5 ck AD pl to ks os cs ys cy oy yr ns cn on nr rd sy sc so syr sn_ sd son snr srd ad len st tx tln) (wx := W6 ck AD z past sl isv pm pd ty b1 b2 b3 b4 b5 b6 b7 b8 b9 b10 ords a1 a2 a3 ++ wSl ck (AD 27) x0 x1) (wc := [(AD 0, .inr (5, [.ref (AD 1), .ref (AD 5), .ref (AD 14), .ref (AD 23), .ref (AD 27), .ref (AD 25)]))] ++ wX0 ck (AD 1) (AD 2) (AD 3) (AD 4) pl to ks os cs ++ wX2 ck (AD 5) (AD 6) (AD 7) (AD 8) (AD 9) (AD 10) (AD 11) (AD 12) (AD 13) ys cy oy yr ns cn on nr rd ++ wX1 ck (AD 23) (AD 24) ad len st) (wr := wX2 ck (AD 14) (AD 15) (AD 16) (AD 17) (AD 18) (AD 19) (AD 20) (AD 21) (AD 22) sy sc so syr sn_ sd son snr srd ++ wX3 ck (AD 25) (AD 26) tx tln) (w1 := [(AD 0, .inr (5, [.ref (AD 1), .ref (AD 5), .ref (AD 14), .ref (AD 23), .ref (AD 27), .ref (AD 25)]))] ++ wX0 ck (AD 1) (AD 2) (AD 3) (AD 4) pl_n to_n ks os cs ++ wX2 ck (AD 5) (AD 6) (AD 7) (AD 8) (AD 9) (AD 10) (AD 11) (AD 12) (AD 13) ys_n cy_n oy_n yr_n ns_n cn_n on_n nr_n rd_n ++ wX1 ck (AD 23) (AD 24) ad_n len_n st_n) (wn := W5 ck AD pl_n to_n ks os cs ys_n cy_n oy_n yr_n ns_n cn_n on_n nr_n rd_n sy sc so syr sn_ sd son snr srd ad_n len_n st_n tx tln) ⟨hx, hb, hml, hown, hts⟩ hK.1 hP hD hS hA [0, 1, 2, 3, 4, 5, 6, 7, 8, 9, 10, 11, 12, 13, 23, 24, 25, 26, 27, 28, 29, 30, 31, 32, 33, 34, 35, 36, 37, 38, 39, 40, 41, 42, 43, 44, 45, 46, 47, 48] [14, 15, 16, 17, 18, 19, 20, 21, 22, 49, 50] [11, 12, 13, 14, 15, 16, 17, 18, 19, 20, 21, 22, 23, 24, 0, 1, 2, 3, 4, 5, 6, 7, 8, 25, 26, 27, 28, 29, 30, 31, 32, 33, 34, 35, 36, 37, 38, 39, 40, 41, 42, 43, 44, 45, 46, 47, 48, 49, 50, 9, 10] rfl (by decide) rfl (by decide) (by decide) rfl (by decide) (c_X5_begin l dC dI ck (AD 0) (AD 1) (AD 2) (AD 3) (AD 4) (AD 5) (AD 6) (AD 7) (AD 8) (AD 9) (AD 10) (AD 11) (AD 12) (AD 13) (AD 14) (AD 23) (AD 24) (AD 27) (AD 25) (AD 1) (AD 2) (AD 3) (AD 4) (AD 5) (AD 6) (AD 7) (AD 8) (AD 9) (AD 10) (AD 11) (AD 12) (AD 13) (AD 23) (AD 24) pl to ks os cs ys cy oy yr ns cn on nr rd ad len st (xs (nI i + 1).toNatClampNeg) r_n pl_n to_n ys_n cy_n oy_n yr_n ns_n cn_n on_n nr_n rd_n ad_n len_n st_n q5) (cwV 1 hts gL_law_X5_begin rfl rfl rfl (by decide +kernel) ⟨(Nat.le_of_ble_eq_true rfl), (Nat.le_of_ble_eq_true rfl)⟩) 0 rfl rfl rfl hl.1 rfl (Nat.le_of_ble_eq_true rfl) dL_law_138 hf (fun H locs hP hD hS => ?_)
  refine lv_aload_n hx hb dL_law_141 rfl (lv_at hl 2 rfl) ?_
  refine lv_aload_n hx hb dL_law_142 rfl (lv_at hl 0 rfl) ?_
  refine lv_iload_n hx hb dL_law_143 rfl (lv_at hl 3 rfl) ?_
  refine lv_iconst (v := (1 : Int32)) hx hb dL_law_144 rfl ?_
  refine lv_iadd hx hb dL_law_145 ?_
  refine va_sld hx hb hX hbl hbA hS hin1 dL_law_146 ?_
  have hP := jw_rotP hP
  have hD := jw_rotD hD
  refine lawMI (As := [.int (xs (nI i + 1).toNatClampNeg)]) (rest := [.int r_n]) (wk := W6 ck AD z past sl isv pm pd ty b1 b2 b3 b4 b5 b6 b7 b8 b9 b10 ords a1 a2 a3) (wx := W5 ck AD pl_n to_n ks os cs ys_n cy_n oy_n yr_n ns_n cn_n on_n nr_n rd_n sy sc so syr sn_ sd son snr srd ad_n len_n st_n tx tln ++ wSl ck (AD 27) x0 x1) (wc := wX6 ck (AD 28) (AD 29) (AD 30) (AD 31) (AD 32) (AD 33) (AD 34) (AD 35) (AD 36) (AD 37) (AD 38) (AD 39) (AD 40) (AD 41) (AD 42) z past sl isv pm pd ty b1 b2 b3 b4 b5 b6 b7 b8 b9 b10 ords a1 a2 a3) (wr := []) (w1 := wX6 ck (AD 28) (AD 29) (AD 30) (AD 31) (AD 32) (AD 33) (AD 34) (AD 35) (AD 36) (AD 37) (AD 38) (AD 39) (AD 40) (AD 41) (AD 42) z_n past_n sl isv pm_n pd ty b1 b2 b3 b4 b5 b6 b7 b8 b9 b10 ords a1 a2 a3) (wn := W6 ck AD z_n past_n sl isv pm_n pd ty b1 b2 b3 b4 b5 b6 b7 b8 b9 b10 ords a1 a2 a3) ⟨hx, hb, hml, hown, hts⟩ hK.1 hP hD hS hA [0, 1, 2, 3, 4, 5, 6, 7, 8, 9, 10, 11, 12, 13, 14] [] [0, 1, 2, 3, 4, 5, 6, 7, 8, 9, 10, 11, 12, 13, 14] rfl (by decide) rfl (by decide) (by decide) rfl (by decide) (c_X6_begin l dC dI ck (AD 28) (AD 29) (AD 30) (AD 31) (AD 32) (AD 33) (AD 34) (AD 35) (AD 36) (AD 37) (AD 38) (AD 39) (AD 40) (AD 41) (AD 42) z past sl isv pm pd ty b1 b2 b3 b4 b5 b6 b7 b8 b9 b10 ords a1 a2 a3 (xs (nI i + 1).toNatClampNeg) r_n z_n past_n pm_n q6) (cwV 1 hts gL_law_X6_begin rfl rfl rfl (by decide +kernel) ⟨(Nat.le_of_ble_eq_true rfl), (Nat.le_of_ble_eq_true rfl)⟩) 0 rfl rfl rfl hl.1 rfl (Nat.le_of_ble_eq_true rfl) dL_law_147 hf (fun H locs hP hD hS => ?_)
  have hP := jw_rotP hP
  have hD := jw_rotD hD
  refine lv_icmp_eq (tgt := 775) hx hb dL_law_150 (by decide) (fun _ => ?_) (fun q => absurd rfl q)
  refine W.widen hw1 hw2 ?_
  exact kk _ _ _ H locs ls ⟨pl_n, to_n, ks, os, cs, ys_n, cy_n, oy_n, yr_n, ns_n, cn_n, on_n, nr_n, rd_n, sy, sc, so, syr, sn_, sd, son, snr, srd, ad_n, len_n, st_n, tx, tln, z_n, past_n, sl, isv, pm_n, pd, ty, b1, b2, b3, b4, b5, b6, b7, b8, b9, b10, ords, a1, a2, a3, _, _, _, _, x0, x1, rfl, rfl, rfl, hC_n, hPR, hz1, hz2, hSR⟩ hP hD hS hl
