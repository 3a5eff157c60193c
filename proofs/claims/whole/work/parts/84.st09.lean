set_option maxHeartbeats 4000000 in
set_option maxRecDepth 100000 in
theorem st_save {p : Program} {l : Launch} {e : Env} {s : State} {m : MethodId} {below : List Frame} {meth : Method} {c : Code} {b L : Nat} {xs : Nat → Int32} {dC : Nat → ClassId} {dI : Nat → Nat → Nat} {ck : Nat → ClassId} {AD : Nat → Nat} {Q : State → Prop} {i k : Nat} {w5 w6 tl : va_W} {H : Heap} {locs : List Loc} {ls : Array Slot} (X : LC p s m c b L xs) (hK : K2 (dC, dI) ck s) (hi : i + 6 ≤ L) (hk : k ≤ 512) (hI : INV ck AD w5 w6 tl) (hP : va_P (dC, dI) vwCl (w5 ++ (w6 ++ tl)) H) (hD : va_D (fun q => s.heap.size ≤ q) (w5 ++ (w6 ++ tl))) (hS : va_S (fun q => s.heap.size ≤ q) s.heap H locs) (hl : lv_has ls 4 (LL b AD i)) (kk : NX p l e s m below meth c b (dC, dI) ck AD Q i k) : W p l e room_1 s m #[Value.ref b] below meth c H locs (CE k) (CS k) Q (F0 m 729 ls []) := by
  obtain ⟨pl, to, ks, os, cs, ys, cy, oy, yr, ns, cn, on, nr, rd, sy, sc, so, syr, sn_, sd, son, snr, srd, ad, len, st, tx, tln, z, past, sl, isv, pm, pd, ty, b1, b2, b3, b4, b5, b6, b7, b8, b9, b10, ords, a1, a2, a3, a, mm, L9, l9, x0, x1, rfl, rfl, rfl, hC, hPR, hz1, hz2, hSR⟩ := hI
  obtain ⟨hx, hb, hml, hown, hts, hX, hbl, hL⟩ := X
  have hA : ∀ q : Nat, s.heap.size ≤ q → (fun q : Nat => s.heap.size ≤ q) q := fun _ h => h
  have hbA : ¬ (fun q : Nat => s.heap.size ≤ q) b := Nat.not_le.mpr hbl
  have hf : CE k ≤ room_1.cells ∧ CS k ≤ room_1.slots := by
    unfold CE CS
    exact ⟨show _ ≤ 600000 by omega, show _ ≤ 7302250 by omega⟩
  have hw1 : CE k ≤ CE (k + 1) := by unfold CE; omega
  have hw2 : CS k ≤ CS (k + 1) := by unfold CS; omega
  have hin1 : vp_in (nI i + 1) L := lwin 1 hL hi (by decide)
  refine lv_aload_n hx hb dL_law_729 rfl (lv_at hl 1 rfl) ?_
  refine lv_aload_n hx hb dL_law_730 rfl (lv_at hl 0 rfl) ?_
  refine lv_iload_n hx hb dL_law_731 rfl (lv_at hl 3 rfl) ?_
  refine lv_iconst (v := (1 : Int32)) hx hb dL_law_732 rfl ?_
  refine lv_iadd hx hb dL_law_733 ?_
  refine va_sld hx hb hX hbl hbA hS hin1 dL_law_734 ?_
  rw [← List.append_assoc] at hP hD
  have hf4 : CE k + 4 ≤ room_1.cells ∧ CS k + 128 ≤ room_1.slots := by
    unfold CE CS
    exact ⟨show _ ≤ 600000 by omega, show _ ≤ 7302250 by omega⟩
  refine lawNI (As := [.int (xs (nI i + 1).toNatClampNeg)]) (rest := []) (wk := W5 ck AD pl to ks os cs ys cy oy yr ns cn on nr rd sy sc so syr sn_ sd son snr srd ad len st tx tln ++ W6 ck AD z past sl isv pm pd ty b1 b2 b3 b4 b5 b6 b7 b8 b9 b10 ords a1 a2 a3) (tl := wSl ck (AD 27) x0 x1) (wc := [(AD 0, .inr (5, [.ref (AD 1), .ref (AD 5), .ref (AD 14), .ref (AD 23), .ref (AD 27), .ref (AD 25)]))] ++ wX0 ck (AD 1) (AD 2) (AD 3) (AD 4) pl to ks os cs) (wr := wX2 ck (AD 5) (AD 6) (AD 7) (AD 8) (AD 9) (AD 10) (AD 11) (AD 12) (AD 13) ys cy oy yr ns cn on nr rd ++ wX2 ck (AD 14) (AD 15) (AD 16) (AD 17) (AD 18) (AD 19) (AD 20) (AD 21) (AD 22) sy sc so syr sn_ sd son snr srd ++ wX1 ck (AD 23) (AD 24) ad len st ++ wX3 ck (AD 25) (AD 26) tx tln ++ wX6 ck (AD 28) (AD 29) (AD 30) (AD 31) (AD 32) (AD 33) (AD 34) (AD 35) (AD 36) (AD 37) (AD 38) (AD 39) (AD 40) (AD 41) (AD 42) z past sl isv pm pd ty b1 b2 b3 b4 b5 b6 b7 b8 b9 b10 ords a1 a2 a3) (w1 := [(AD 0, .inr (5, [.ref (AD 1), .ref (AD 5), .ref (AD 14), .ref (AD 23), .ref (AD 27), .ref (AD 25)]))] ++ wX0 ck (AD 1) (AD 2) (AD 3) (AD 4) pl to ks os cs) (wn := W5 ck AD pl to ks os cs ys cy oy yr ns cn on nr rd sy sc so syr sn_ sd son snr srd ad len st tx tln ++ W6 ck AD z past sl isv pm pd ty b1 b2 b3 b4 b5 b6 b7 b8 b9 b10 ords a1 a2 a3) (P' := fun r t => ∃ y0 y1, t = wSl ck (AD 27) y0 y1 ∧ SV pl to ks os cs x0 x1 (xs (nI i + 1).toNatClampNeg) r y0 y1) ⟨hx, hb, hml, hown, hts⟩ hK hP hD hS hA [0, 1, 2, 3, 4] [5, 6, 7, 8, 9, 10, 11, 12, 13, 14, 15, 16, 17, 18, 19, 20, 21, 22, 23, 24, 25, 26, 27, 28, 29, 30, 31, 32, 33, 34, 35, 36, 37, 38, 39, 40, 41, 42, 43, 44, 45, 46, 47, 48, 49, 50, 51, 52, 53, 54, 55, 56, 57, 58, 59, 60, 61, 62, 63, 64, 65] [61, 62, 63, 64, 65, 0, 1, 2, 3, 4, 5, 6, 7, 8, 9, 10, 11, 12, 13, 14, 15, 16, 17, 18, 19, 20, 21, 22, 23, 24, 25, 26, 27, 28, 29, 30, 31, 32, 33, 34, 35, 36, 37, 38, 39, 40, 41, 42, 43, 44, 45, 46, 47, 48, 49, 50, 51, 52, 53, 54, 55, 56, 57, 58, 59, 60] rfl (by decide) rfl (by decide) (by decide) rfl (by decide) (c_X5_save l dC dI ck (AD 0) (AD 1) (AD 2) (AD 3) (AD 4) (AD 5) (AD 14) (AD 23) (AD 27) (AD 25) pl to ks os cs x0 x1 (xs (nI i + 1).toNatClampNeg)) (fun r w h => ?_) (cwV 1 hts gL_law_X5_save rfl rfl rfl (by decide +kernel) ⟨(Nat.le_of_ble_eq_true rfl), (Nat.le_of_ble_eq_true rfl)⟩) 0 rfl rfl rfl hl.1 rfl (Nat.le_of_ble_eq_true rfl) dL_law_735 hf4 (fun r_n tl_n H locs hv hP hD hS => ?_)
  · obtain ⟨y0, y1, rfl, h2⟩ := h
    exact ⟨wSl ck (AD 27) y0 y1, rfl, y0, y1, rfl, h2⟩
  obtain ⟨y0, y1, rfl, hv⟩ := hv
  obtain ⟨sl_n, isv_n, q6, hSR_n⟩ := save_ok hC.1 hSR hv
  rw [List.append_assoc] at hP hD
  refine lv_aload_n hx hb dL_law_738 rfl (lv_at hl 2 rfl) ?_
  refine lv_aload_n hx hb dL_law_739 rfl (lv_at hl 0 rfl) ?_
  refine lv_iload_n hx hb dL_law_740 rfl (lv_at hl 3 rfl) ?_
  refine lv_iconst (v := (1 : Int32)) hx hb dL_law_741 rfl ?_
  refine lv_iadd hx hb dL_law_742 ?_
  refine va_sld hx hb hX hbl hbA hS hin1 dL_law_743 ?_
  have hP := jw_rotP hP
  have hD := jw_rotD hD
  refine lawMI (As := [.int (xs (nI i + 1).toNatClampNeg)]) (rest := [.int r_n]) (wk := W6 ck AD z past sl isv pm pd ty b1 b2 b3 b4 b5 b6 b7 b8 b9 b10 ords a1 a2 a3) (wx := W5 ck AD pl to ks os cs ys cy oy yr ns cn on nr rd sy sc so syr sn_ sd son snr srd ad len st tx tln ++ wSl ck (AD 27) y0 y1) (wc := wX6 ck (AD 28) (AD 29) (AD 30) (AD 31) (AD 32) (AD 33) (AD 34) (AD 35) (AD 36) (AD 37) (AD 38) (AD 39) (AD 40) (AD 41) (AD 42) z past sl isv pm pd ty b1 b2 b3 b4 b5 b6 b7 b8 b9 b10 ords a1 a2 a3) (wr := []) (w1 := wX6 ck (AD 28) (AD 29) (AD 30) (AD 31) (AD 32) (AD 33) (AD 34) (AD 35) (AD 36) (AD 37) (AD 38) (AD 39) (AD 40) (AD 41) (AD 42) z past sl_n isv_n pm pd ty b1 b2 b3 b4 b5 b6 b7 b8 b9 b10 ords a1 a2 a3) (wn := W6 ck AD z past sl_n isv_n pm pd ty b1 b2 b3 b4 b5 b6 b7 b8 b9 b10 ords a1 a2 a3) ⟨hx, hb, hml, hown, hts⟩ hK.1 hP hD hS hA [0, 1, 2, 3, 4, 5, 6, 7, 8, 9, 10, 11, 12, 13, 14] [] [0, 1, 2, 3, 4, 5, 6, 7, 8, 9, 10, 11, 12, 13, 14] rfl (by decide) rfl (by decide) (by decide) rfl (by decide) (c_X6_save l dC dI ck (AD 28) (AD 29) (AD 30) (AD 31) (AD 32) (AD 33) (AD 34) (AD 35) (AD 36) (AD 37) (AD 38) (AD 39) (AD 40) (AD 41) (AD 42) z past sl isv pm pd ty b1 b2 b3 b4 b5 b6 b7 b8 b9 b10 ords a1 a2 a3 (xs (nI i + 1).toNatClampNeg) r_n sl_n isv_n q6) (cwV 1 hts gL_law_X6_save rfl rfl rfl (by decide +kernel) ⟨(Nat.le_of_ble_eq_true rfl), (Nat.le_of_ble_eq_true rfl)⟩) 0 rfl rfl rfl hl.1 rfl (Nat.le_of_ble_eq_true rfl) dL_law_744 hf4 (fun H locs hP hD hS => ?_)
  have hP := jw_rotP hP
  have hD := jw_rotD hD
  refine lv_icmp_eq (tgt := 775) hx hb dL_law_747 (by decide) (fun _ => ?_) (fun q => absurd rfl q)
  refine W.widen (show CE k + 4 ≤ CE (k + 1) from by unfold CE; omega) (show CS k + 128 ≤ CS (k + 1) from by unfold CS; omega) ?_
  exact kk _ _ _ H locs ls ⟨pl, to, ks, os, cs, ys, cy, oy, yr, ns, cn, on, nr, rd, sy, sc, so, syr, sn_, sd, son, snr, srd, ad, len, st, tx, tln, z, past, sl_n, isv_n, pm, pd, ty, b1, b2, b3, b4, b5, b6, b7, b8, b9, b10, ords, a1, a2, a3, _, _, _, _, y0, y1, rfl, rfl, rfl, hC, hPR, hz1, hz2, hSR_n⟩ hP hD hS hl
set_option maxHeartbeats 4000000 in
set_option maxRecDepth 100000 in
theorem st_restore {p : Program} {l : Launch} {e : Env} {s : State} {m : MethodId} {below : List Frame} {meth : Method} {c : Code} {b L : Nat} {xs : Nat → Int32} {dC : Nat → ClassId} {dI : Nat → Nat → Nat} {ck : Nat → ClassId} {AD : Nat → Nat} {Q : State → Prop} {i k : Nat} {w5 w6 tl : va_W} {H : Heap} {locs : List Loc} {ls : Array Slot} (X : LC p s m c b L xs) (hK : K2 (dC, dI) ck s) (hi : i + 6 ≤ L) (hk : k ≤ 512) (hI : INV ck AD w5 w6 tl) (hP : va_P (dC, dI) vwCl (w5 ++ (w6 ++ tl)) H) (hD : va_D (fun q => s.heap.size ≤ q) (w5 ++ (w6 ++ tl))) (hS : va_S (fun q => s.heap.size ≤ q) s.heap H locs) (hl : lv_has ls 4 (LL b AD i)) (kk : NX p l e s m below meth c b (dC, dI) ck AD Q i k) : W p l e room_1 s m #[Value.ref b] below meth c H locs (CE k) (CS k) Q (F0 m 752 ls []) := by
  obtain ⟨pl, to, ks, os, cs, ys, cy, oy, yr, ns, cn, on, nr, rd, sy, sc, so, syr, sn_, sd, son, snr, srd, ad, len, st, tx, tln, z, past, sl, isv, pm, pd, ty, b1, b2, b3, b4, b5, b6, b7, b8, b9, b10, ords, a1, a2, a3, a, mm, L9, l9, x0, x1, rfl, rfl, rfl, hC, hPR, hz1, hz2, hSR⟩ := hI
  obtain ⟨hx, hb, hml, hown, hts, hX, hbl, hL⟩ := X
  have hA : ∀ q : Nat, s.heap.size ≤ q → (fun q : Nat => s.heap.size ≤ q) q := fun _ h => h
  have hbA : ¬ (fun q : Nat => s.heap.size ≤ q) b := Nat.not_le.mpr hbl
  have hf : CE k ≤ room_1.cells ∧ CS k ≤ room_1.slots := by
    unfold CE CS
    exact ⟨show _ ≤ 600000 by omega, show _ ≤ 7302250 by omega⟩
  have hw1 : CE k ≤ CE (k + 1) := by unfold CE; omega
  have hw2 : CS k ≤ CS (k + 1) := by unfold CS; omega
  have hin1 : vp_in (nI i + 1) L := lwin 1 hL hi (by decide)
  obtain ⟨r_n, pl_n, to_n, ks_n, os_n, cs_n, ys_n, cy_n, oy_n, yr_n, ns_n, cn_n, on_n, nr_n, rd_n, ad_n, len_n, st_n, z_n, past_n, pm_n, a_n, m_n, L_n, q5, q6, hC_n⟩ := restore_ok hC yr nr ad hSR (xs (nI i + 1).toNatClampNeg)
  refine lv_aload_n hx hb dL_law_752 rfl (lv_at hl 1 rfl) ?_
  refine lv_aload_n hx hb dL_law_753 rfl (lv_at hl 0 rfl) ?_
  refine lv_iload_n hx hb dL_law_754 rfl (lv_at hl 3 rfl) ?_
  refine lv_iconst (v := (1 : Int32)) hx hb dL_law_755 rfl ?_
  refine lv_iadd hx hb dL_law_756 ?_
  refine va_sld hx hb hX hbl hbA hS hin1 dL_law_757 ?_
  rw [← List.append_assoc] at hP hD
  refine lawTI (As := [.int (xs (nI i + 1).toNatClampNeg)]) (rest := []) (wk := W5 ck AD pl to ks os cs ys cy oy yr ns cn on nr rd sy sc so syr sn_ sd son snr srd ad len st tx tln ++ W6 ck AD z past sl isv pm pd ty b1 b2 b3 b4 b5 b6 b7 b8 b9 b10 ords a1 a2 a3) (tl := wSl ck (AD 27) x0 x1) (tl2 := wSl ck (AD 27) x0 x1) (wc := [(AD 0, .inr (5, [.ref (AD 1), .ref (AD 5), .ref (AD 14), .ref (AD 23), .ref (AD 27), .ref (AD 25)]))] ++ wX0 ck (AD 1) (AD 2) (AD 3) (AD 4) pl to ks os cs ++ wX2 ck (AD 5) (AD 6) (AD 7) (AD 8) (AD 9) (AD 10) (AD 11) (AD 12) (AD 13) ys cy oy yr ns cn on nr rd ++ wX1 ck (AD 23) (AD 24) ad len st) (wr := wX2 ck (AD 14) (AD 15) (AD 16) (AD 17) (AD 18) (AD 19) (AD 20) (AD 21) (AD 22) sy sc so syr sn_ sd son snr srd ++ wX3 ck (AD 25) (AD 26) tx tln ++ wX6 ck (AD 28) (AD 29) (AD 30) (AD 31) (AD 32) (AD 33) (AD 34) (AD 35) (AD 36) (AD 37) (AD 38) (AD 39) (AD 40) (AD 41) (AD 42) z past sl isv pm pd ty b1 b2 b3 b4 b5 b6 b7 b8 b9 b10 ords a1 a2 a3) (w1 := [(AD 0, .inr (5, [.ref (AD 1), .ref (AD 5), .ref (AD 14), .ref (AD 23), .ref (AD 27), .ref (AD 25)]))] ++ wX0 ck (AD 1) (AD 2) (AD 3) (AD 4) pl_n to_n ks_n os_n cs_n ++ wX2 ck (AD 5) (AD 6) (AD 7) (AD 8) (AD 9) (AD 10) (AD 11) (AD 12) (AD 13) ys_n cy_n oy_n yr_n ns_n cn_n on_n nr_n rd_n ++ wX1 ck (AD 23) (AD 24) ad_n len_n st_n) (wn := W5 ck AD pl_n to_n ks_n os_n cs_n ys_n cy_n oy_n yr_n ns_n cn_n on_n nr_n rd_n sy sc so syr sn_ sd son snr srd ad_n len_n st_n tx tln ++ W6 ck AD z past sl isv pm pd ty b1 b2 b3 b4 b5 b6 b7 b8 b9 b10 ords a1 a2 a3) ⟨hx, hb, hml, hown, hts⟩ hK.1 hP hD hS hA [0, 1, 2, 3, 4, 5, 6, 7, 8, 9, 10, 11, 12, 13, 23, 24, 25, 26, 27, 28, 29, 30, 31, 32, 33, 34, 35, 36, 37, 38, 39, 40, 41, 42, 43, 44, 45, 46, 47, 48] [14, 15, 16, 17, 18, 19, 20, 21, 22, 49, 50, 51, 52, 53, 54, 55, 56, 57, 58, 59, 60, 61, 62, 63, 64, 65] [26, 27, 28, 29, 30, 31, 32, 33, 34, 35, 36, 37, 38, 39, 0, 1, 2, 3, 4, 5, 6, 7, 8, 40, 41, 42, 43, 44, 45, 46, 47, 48, 49, 50, 51, 52, 53, 54, 55, 56, 57, 58, 59, 60, 61, 62, 63, 64, 65, 9, 10, 11, 12, 13, 14, 15, 16, 17, 18, 19, 20, 21, 22, 23, 24, 25] rfl (by decide) rfl (by decide) (by decide) rfl (by decide) (c_X5_restore l dC dI ck (AD 0) (AD 1) (AD 2) (AD 3) (AD 4) (AD 5) (AD 6) (AD 7) (AD 8) (AD 9) (AD 10) (AD 11) (AD 12) (AD 13) (AD 23) (AD 24) (AD 14) (AD 27) (AD 25) pl to ks os cs ys cy oy yr ns cn on nr rd ad len st x0 x1 (xs (nI i + 1).toNatClampNeg) r_n pl_n to_n ks_n os_n cs_n ys_n cy_n oy_n yr_n ns_n cn_n on_n nr_n rd_n ad_n len_n st_n q5) (cwV 1 hts gL_law_X5_restore rfl rfl rfl (by decide +kernel) ⟨(Nat.le_of_ble_eq_true rfl), (Nat.le_of_ble_eq_true rfl)⟩) 0 rfl rfl rfl hl.1 rfl (Nat.le_of_ble_eq_true rfl) dL_law_758 hf (fun H locs hP hD hS => ?_)
  rw [List.append_assoc] at hP hD
  refine lv_aload_n hx hb dL_law_761 rfl (lv_at hl 2 rfl) ?_
  refine lv_aload_n hx hb dL_law_762 rfl (lv_at hl 0 rfl) ?_
  refine lv_iload_n hx hb dL_law_763 rfl (lv_at hl 3 rfl) ?_
  refine lv_iconst (v := (1 : Int32)) hx hb dL_law_764 rfl ?_
  refine lv_iadd hx hb dL_law_765 ?_
  refine va_sld hx hb hX hbl hbA hS hin1 dL_law_766 ?_
  have hP := jw_rotP hP
  have hD := jw_rotD hD
  refine lawMI (As := [.int (xs (nI i + 1).toNatClampNeg)]) (rest := [.int r_n]) (wk := W6 ck AD z past sl isv pm pd ty b1 b2 b3 b4 b5 b6 b7 b8 b9 b10 ords a1 a2 a3) (wx := W5 ck AD pl_n to_n ks_n os_n cs_n ys_n cy_n oy_n yr_n ns_n cn_n on_n nr_n rd_n sy sc so syr sn_ sd son snr srd ad_n len_n st_n tx tln ++ wSl ck (AD 27) x0 x1) (wc := wX6 ck (AD 28) (AD 29) (AD 30) (AD 31) (AD 32) (AD 33) (AD 34) (AD 35) (AD 36) (AD 37) (AD 38) (AD 39) (AD 40) (AD 41) (AD 42) z past sl isv pm pd ty b1 b2 b3 b4 b5 b6 b7 b8 b9 b10 ords a1 a2 a3) (wr := []) (w1 := wX6 ck (AD 28) (AD 29) (AD 30) (AD 31) (AD 32) (AD 33) (AD 34) (AD 35) (AD 36) (AD 37) (AD 38) (AD 39) (AD 40) (AD 41) (AD 42) z_n past_n sl isv pm_n pd ty b1 b2 b3 b4 b5 b6 b7 b8 b9 b10 ords a1 a2 a3) (wn := W6 ck AD z_n past_n sl isv pm_n pd ty b1 b2 b3 b4 b5 b6 b7 b8 b9 b10 ords a1 a2 a3) ⟨hx, hb, hml, hown, hts⟩ hK.1 hP hD hS hA [0, 1, 2, 3, 4, 5, 6, 7, 8, 9, 10, 11, 12, 13, 14] [] [0, 1, 2, 3, 4, 5, 6, 7, 8, 9, 10, 11, 12, 13, 14] rfl (by decide) rfl (by decide) (by decide) rfl (by decide) (c_X6_restore l dC dI ck (AD 28) (AD 29) (AD 30) (AD 31) (AD 32) (AD 33) (AD 34) (AD 35) (AD 36) (AD 37) (AD 38) (AD 39) (AD 40) (AD 41) (AD 42) z past sl isv pm pd ty b1 b2 b3 b4 b5 b6 b7 b8 b9 b10 ords a1 a2 a3 (xs (nI i + 1).toNatClampNeg) r_n z_n past_n pm_n q6) (cwV 1 hts gL_law_X6_restore rfl rfl rfl (by decide +kernel) ⟨(Nat.le_of_ble_eq_true rfl), (Nat.le_of_ble_eq_true rfl)⟩) 0 rfl rfl rfl hl.1 rfl (Nat.le_of_ble_eq_true rfl) dL_law_767 hf (fun H locs hP hD hS => ?_)
  have hP := jw_rotP hP
  have hD := jw_rotD hD
  refine lv_icmp_eq (tgt := 775) hx hb dL_law_770 (by decide) (fun _ => ?_) (fun q => absurd rfl q)
  refine W.widen hw1 hw2 ?_
  exact kk _ _ _ H locs ls ⟨pl_n, to_n, ks_n, os_n, cs_n, ys_n, cy_n, oy_n, yr_n, ns_n, cn_n, on_n, nr_n, rd_n, sy, sc, so, syr, sn_, sd, son, snr, srd, ad_n, len_n, st_n, tx, tln, z_n, past_n, sl, isv, pm_n, pd, ty, b1, b2, b3, b4, b5, b6, b7, b8, b9, b10, ords, a1, a2, a3, _, _, _, _, x0, x1, rfl, rfl, rfl, hC_n, hPR, hz1, hz2, hSR⟩ hP hD hS hl
