set_option maxHeartbeats 4000000 in
set_option maxRecDepth 100000 in
theorem st_put {p : Program} {l : Launch} {e : Env} {s : State} {m : MethodId} {below : List Frame} {meth : Method} {c : Code} {b L : Nat} {xs : Nat → Int32} {dC : Nat → ClassId} {dI : Nat → Nat → Nat} {ck : Nat → ClassId} {AD : Nat → Nat} {Q : State → Prop} {i k : Nat} {w5 w6 tl : va_W} {H : Heap} {locs : List Loc} {ls : Array Slot} (X : LC p s m c b L xs) (hK : K2 (dC, dI) ck s) (hi : i + 6 ≤ L) (hk : k ≤ 512) (hI : INV ck AD w5 w6 tl) (hP : va_P (dC, dI) vwCl (w5 ++ (w6 ++ tl)) H) (hD : va_D (fun q => s.heap.size ≤ q) (w5 ++ (w6 ++ tl))) (hS : va_S (fun q => s.heap.size ≤ q) s.heap H locs) (hl : lv_has ls 4 (LL b AD i)) (kk : NX p l e s m below meth c b (dC, dI) ck AD Q i k) : W p l e room_1 s m #[Value.ref b] below meth c H locs (CE k) (CS k) Q (F0 m 624 ls []) := by
  obtain ⟨pl, to, ks, os, cs, ys, cy, oy, yr, ns, cn, on, nr, rd, sy, sc, so, syr, sn_, sd, son, snr, srd, ad, len, st, tx, tln, z, past, sl, isv, pm, pd, ty, b1, b2, b3, b4, b5, b6, b7, b8, b9, b10, ords, a1, a2, a3, a, mm, L9, l9, x0, x1, rfl, rfl, rfl, hC, hPR, hz1, hz2, hSR⟩ := hI
  obtain ⟨hx, hb, hml, hown, hts, hX, hbl, hL⟩ := X
  have hA : ∀ q : Nat, s.heap.size ≤ q → (fun q : Nat => s.heap.size ≤ q) q := fun _ h => h
  have hbA : ¬ (fun q : Nat => s.heap.size ≤ q) b := Nat.not_le.mpr hbl
  have hf : CE k ≤ room_1.cells ∧ CS k ≤ room_1.slots := by
    unfold CE CS
    exact ⟨show _ ≤ 600000 by omega, show _ ≤ 7302250 by omega⟩
  have hw1 : CE k ≤ CE (k + 1) := by unfold CE; omega
  have hw2 : CS k ≤ CS (k + 1) := by unfold CS; omega
  have hin1 : vp_in (nI i + 1) L := lwin 1 hL hi (by decide)
  have hin2 : vp_in (nI i + 2) L := lwin 2 hL hi (by decide)
  obtain ⟨r_n, tx_n, pd_n, tl_n, ty_n, l_n, q5, q6, hPR_n⟩ := put_ok hPR ((((xs (nI i + 1).toNatClampNeg).toInt64) <<< ((32 : Int32).toInt64 &&& 63)) ||| (((xs (nI i + 2).toNatClampNeg).toInt64) &&& (4294967295 : Int64)))
  refine lv_aload_n hx hb dL_law_624 rfl (lv_at hl 1 rfl) ?_
  refine lv_aload_n hx hb dL_law_625 rfl (lv_at hl 0 rfl) ?_
  refine lv_iload_n hx hb dL_law_626 rfl (lv_at hl 3 rfl) ?_
  refine lv_iconst (v := (1 : Int32)) hx hb dL_law_627 rfl ?_
  refine lv_iadd hx hb dL_law_628 ?_
  refine va_sld hx hb hX hbl hbA hS hin1 dL_law_629 ?_
  refine lv_i2l hx hb dL_law_630 rfl ?_
  refine lv_bipush (v := (32 : Int32)) hx hb dL_law_631 rfl ?_
  refine lv_lshl hx hb dL_law_633 rfl ?_
  refine lv_aload_n hx hb dL_law_634 rfl (lv_at hl 0 rfl) ?_
  refine lv_iload_n hx hb dL_law_635 rfl (lv_at hl 3 rfl) ?_
  refine lv_iconst (v := (2 : Int32)) hx hb dL_law_636 rfl ?_
  refine lv_iadd hx hb dL_law_637 ?_
  refine va_sld hx hb hX hbl hbA hS hin2 dL_law_638 ?_
  refine lv_i2l hx hb dL_law_639 rfl ?_
  refine lv_ldc2 hx hb hown (hts (.constantLong RL 74 (4294967295)) (List.mem_of_getElem? (i := 6) rfl)) dL_law_640 ?_
  refine lv_land hx hb dL_law_643 ?_
  refine lv_lor hx hb dL_law_644 ?_
  refine lawMI (As := [.long ((((xs (nI i + 1).toNatClampNeg).toInt64) <<< ((32 : Int32).toInt64 &&& 63)) ||| (((xs (nI i + 2).toNatClampNeg).toInt64) &&& (4294967295 : Int64)))]) (rest := []) (wk := W5 ck AD pl to ks os cs ys cy oy yr ns cn on nr rd sy sc so syr sn_ sd son snr srd ad len st tx tln) (wx := W6 ck AD z past sl isv pm pd ty b1 b2 b3 b4 b5 b6 b7 b8 b9 b10 ords a1 a2 a3 ++ wSl ck (AD 27) x0 x1) (wc := [(AD 0, .inr (5, [.ref (AD 1), .ref (AD 5), .ref (AD 14), .ref (AD 23), .ref (AD 27), .ref (AD 25)]))] ++ wX3 ck (AD 25) (AD 26) tx tln) (wr := wX0 ck (AD 1) (AD 2) (AD 3) (AD 4) pl to ks os cs ++ wX2 ck (AD 5) (AD 6) (AD 7) (AD 8) (AD 9) (AD 10) (AD 11) (AD 12) (AD 13) ys cy oy yr ns cn on nr rd ++ wX2 ck (AD 14) (AD 15) (AD 16) (AD 17) (AD 18) (AD 19) (AD 20) (AD 21) (AD 22) sy sc so syr sn_ sd son snr srd ++ wX1 ck (AD 23) (AD 24) ad len st) (w1 := [(AD 0, .inr (5, [.ref (AD 1), .ref (AD 5), .ref (AD 14), .ref (AD 23), .ref (AD 27), .ref (AD 25)]))] ++ wX3 ck (AD 25) (AD 26) tx_n tl_n) (wn := W5 ck AD pl to ks os cs ys cy oy yr ns cn on nr rd sy sc so syr sn_ sd son snr srd ad len st tx_n tl_n) ⟨hx, hb, hml, hown, hts⟩ hK.1 hP hD hS hA [0, 49, 50] [1, 2, 3, 4, 5, 6, 7, 8, 9, 10, 11, 12, 13, 14, 15, 16, 17, 18, 19, 20, 21, 22, 23, 24, 25, 26, 27, 28, 29, 30, 31, 32, 33, 34, 35, 36, 37, 38, 39, 40, 41, 42, 43, 44, 45, 46, 47, 48] [48, 0, 1, 2, 3, 4, 5, 6, 7, 8, 9, 10, 11, 12, 13, 14, 15, 16, 17, 18, 19, 20, 21, 22, 23, 24, 25, 26, 27, 28, 29, 30, 31, 32, 33, 34, 35, 36, 37, 38, 39, 40, 41, 42, 43, 44, 45, 46, 47, 49, 50] rfl (by decide) rfl (by decide) (by decide) rfl (by decide) (c_X5_put l dC dI ck (AD 0) (AD 1) (AD 5) (AD 14) (AD 23) (AD 27) (AD 25) (AD 26) (AD 25) (AD 26) tx tln ((((xs (nI i + 1).toNatClampNeg).toInt64) <<< ((32 : Int32).toInt64 &&& 63)) ||| (((xs (nI i + 2).toNatClampNeg).toInt64) &&& (4294967295 : Int64))) r_n tx_n tl_n q5) (cwV 1 hts gL_law_X5_put rfl rfl rfl (by decide +kernel) ⟨(Nat.le_of_ble_eq_true rfl), (Nat.le_of_ble_eq_true rfl)⟩) 0 rfl rfl rfl hl.1 rfl (Nat.le_of_ble_eq_true rfl) dL_law_645 hf (fun H locs hP hD hS => ?_)
  refine lv_aload_n hx hb dL_law_648 rfl (lv_at hl 2 rfl) ?_
  refine lv_aload_n hx hb dL_law_649 rfl (lv_at hl 0 rfl) ?_
  refine lv_iload_n hx hb dL_law_650 rfl (lv_at hl 3 rfl) ?_
  refine lv_iconst (v := (1 : Int32)) hx hb dL_law_651 rfl ?_
  refine lv_iadd hx hb dL_law_652 ?_
  refine va_sld hx hb hX hbl hbA hS hin1 dL_law_653 ?_
  refine lv_i2l hx hb dL_law_654 rfl ?_
  refine lv_bipush (v := (32 : Int32)) hx hb dL_law_655 rfl ?_
  refine lv_lshl hx hb dL_law_657 rfl ?_
  refine lv_aload_n hx hb dL_law_658 rfl (lv_at hl 0 rfl) ?_
  refine lv_iload_n hx hb dL_law_659 rfl (lv_at hl 3 rfl) ?_
  refine lv_iconst (v := (2 : Int32)) hx hb dL_law_660 rfl ?_
  refine lv_iadd hx hb dL_law_661 ?_
  refine va_sld hx hb hX hbl hbA hS hin2 dL_law_662 ?_
  refine lv_i2l hx hb dL_law_663 rfl ?_
  refine lv_ldc2 hx hb hown (hts (.constantLong RL 74 (4294967295)) (List.mem_of_getElem? (i := 6) rfl)) dL_law_664 ?_
  refine lv_land hx hb dL_law_667 ?_
  refine lv_lor hx hb dL_law_668 ?_
  have hP := jw_rotP hP
  have hD := jw_rotD hD
  refine lawMI (As := [.long ((((xs (nI i + 1).toNatClampNeg).toInt64) <<< ((32 : Int32).toInt64 &&& 63)) ||| (((xs (nI i + 2).toNatClampNeg).toInt64) &&& (4294967295 : Int64)))]) (rest := [.int r_n]) (wk := W6 ck AD z past sl isv pm pd ty b1 b2 b3 b4 b5 b6 b7 b8 b9 b10 ords a1 a2 a3) (wx := W5 ck AD pl to ks os cs ys cy oy yr ns cn on nr rd sy sc so syr sn_ sd son snr srd ad len st tx_n tl_n ++ wSl ck (AD 27) x0 x1) (wc := wX6 ck (AD 28) (AD 29) (AD 30) (AD 31) (AD 32) (AD 33) (AD 34) (AD 35) (AD 36) (AD 37) (AD 38) (AD 39) (AD 40) (AD 41) (AD 42) z past sl isv pm pd ty b1 b2 b3 b4 b5 b6 b7 b8 b9 b10 ords a1 a2 a3) (wr := []) (w1 := wX6 ck (AD 28) (AD 29) (AD 30) (AD 31) (AD 32) (AD 33) (AD 34) (AD 35) (AD 36) (AD 37) (AD 38) (AD 39) (AD 40) (AD 41) (AD 42) z past sl isv pm pd_n ty_n b1 b2 b3 b4 b5 b6 b7 b8 b9 b10 ords a1 a2 a3) (wn := W6 ck AD z past sl isv pm pd_n ty_n b1 b2 b3 b4 b5 b6 b7 b8 b9 b10 ords a1 a2 a3) ⟨hx, hb, hml, hown, hts⟩ hK.1 hP hD hS hA [0, 1, 2, 3, 4, 5, 6, 7, 8, 9, 10, 11, 12, 13, 14] [] [0, 1, 2, 3, 4, 5, 6, 7, 8, 9, 10, 11, 12, 13, 14] rfl (by decide) rfl (by decide) (by decide) rfl (by decide) (c_X6_put l dC dI ck (AD 28) (AD 29) (AD 30) (AD 31) (AD 32) (AD 33) (AD 34) (AD 35) (AD 36) (AD 37) (AD 38) (AD 39) (AD 40) (AD 41) (AD 42) z past sl isv pm pd ty b1 b2 b3 b4 b5 b6 b7 b8 b9 b10 ords a1 a2 a3 ((((xs (nI i + 1).toNatClampNeg).toInt64) <<< ((32 : Int32).toInt64 &&& 63)) ||| (((xs (nI i + 2).toNatClampNeg).toInt64) &&& (4294967295 : Int64))) r_n pd_n ty_n q6) (cwV 1 hts gL_law_X6_put rfl rfl rfl (by decide +kernel) ⟨(Nat.le_of_ble_eq_true rfl), (Nat.le_of_ble_eq_true rfl)⟩) 0 rfl rfl rfl hl.1 rfl (Nat.le_of_ble_eq_true rfl) dL_law_669 hf (fun H locs hP hD hS => ?_)
  have hP := jw_rotP hP
  have hD := jw_rotD hD
  refine lv_icmp_eq (tgt := 775) hx hb dL_law_672 (by decide) (fun _ => ?_) (fun q => absurd rfl q)
  refine W.widen hw1 hw2 ?_
  exact kk _ _ _ H locs ls ⟨pl, to, ks, os, cs, ys, cy, oy, yr, ns, cn, on, nr, rd, sy, sc, so, syr, sn_, sd, son, snr, srd, ad, len, st, tx_n, tl_n, z, past, sl, isv, pm, pd_n, ty_n, b1, b2, b3, b4, b5, b6, b7, b8, b9, b10, ords, a1, a2, a3, _, _, _, _, x0, x1, rfl, rfl, rfl, hC, hPR_n, hz1, hz2, hSR⟩ hP hD hS hl
set_option maxHeartbeats 4000000 in
set_option maxRecDepth 100000 in
theorem st_wipe {p : Program} {l : Launch} {e : Env} {s : State} {m : MethodId} {below : List Frame} {meth : Method} {c : Code} {b L : Nat} {xs : Nat → Int32} {dC : Nat → ClassId} {dI : Nat → Nat → Nat} {ck : Nat → ClassId} {AD : Nat → Nat} {Q : State → Prop} {i k : Nat} {w5 w6 tl : va_W} {H : Heap} {locs : List Loc} {ls : Array Slot} (X : LC p s m c b L xs) (hK : K2 (dC, dI) ck s) (hi : i + 6 ≤ L) (hk : k ≤ 512) (hI : INV ck AD w5 w6 tl) (hP : va_P (dC, dI) vwCl (w5 ++ (w6 ++ tl)) H) (hD : va_D (fun q => s.heap.size ≤ q) (w5 ++ (w6 ++ tl))) (hS : va_S (fun q => s.heap.size ≤ q) s.heap H locs) (hl : lv_has ls 4 (LL b AD i)) (kk : NX p l e s m below meth c b (dC, dI) ck AD Q i k) : W p l e room_1 s m #[Value.ref b] below meth c H locs (CE k) (CS k) Q (F0 m 677 ls []) := by
  obtain ⟨pl, to, ks, os, cs, ys, cy, oy, yr, ns, cn, on, nr, rd, sy, sc, so, syr, sn_, sd, son, snr, srd, ad, len, st, tx, tln, z, past, sl, isv, pm, pd, ty, b1, b2, b3, b4, b5, b6, b7, b8, b9, b10, ords, a1, a2, a3, a, mm, L9, l9, x0, x1, rfl, rfl, rfl, hC, hPR, hz1, hz2, hSR⟩ := hI
  obtain ⟨hx, hb, hml, hown, hts, hX, hbl, hL⟩ := X
  have hA : ∀ q : Nat, s.heap.size ≤ q → (fun q : Nat => s.heap.size ≤ q) q := fun _ h => h
  have hbA : ¬ (fun q : Nat => s.heap.size ≤ q) b := Nat.not_le.mpr hbl
  have hf : CE k ≤ room_1.cells ∧ CS k ≤ room_1.slots := by
    unfold CE CS
    exact ⟨show _ ≤ 600000 by omega, show _ ≤ 7302250 by omega⟩
  have hw1 : CE k ≤ CE (k + 1) := by unfold CE; omega
  have hw2 : CS k ≤ CS (k + 1) := by unfold CS; omega
  obtain ⟨r_n, q5, q6, hPR_n⟩ := wipe_ok hPR
  refine lv_aload_n hx hb dL_law_677 rfl (lv_at hl 1 rfl) ?_
  refine lawMI (As := []) (rest := []) (wk := W5 ck AD pl to ks os cs ys cy oy yr ns cn on nr rd sy sc so syr sn_ sd son snr srd ad len st tx tln) (wx := W6 ck AD z past sl isv pm pd ty b1 b2 b3 b4 b5 b6 b7 b8 b9 b10 ords a1 a2 a3 ++ wSl ck (AD 27) x0 x1) (wc := [(AD 0, .inr (5, [.ref (AD 1), .ref (AD 5), .ref (AD 14), .ref (AD 23), .ref (AD 27), .ref (AD 25)]))] ++ wX3 ck (AD 25) (AD 26) tx tln) (wr := wX0 ck (AD 1) (AD 2) (AD 3) (AD 4) pl to ks os cs ++ wX2 ck (AD 5) (AD 6) (AD 7) (AD 8) (AD 9) (AD 10) (AD 11) (AD 12) (AD 13) ys cy oy yr ns cn on nr rd ++ wX2 ck (AD 14) (AD 15) (AD 16) (AD 17) (AD 18) (AD 19) (AD 20) (AD 21) (AD 22) sy sc so syr sn_ sd son snr srd ++ wX1 ck (AD 23) (AD 24) ad len st) (w1 := [(AD 0, .inr (5, [.ref (AD 1), .ref (AD 5), .ref (AD 14), .ref (AD 23), .ref (AD 27), .ref (AD 25)]))] ++ wX3 ck (AD 25) (AD 26) tx 0) (wn := W5 ck AD pl to ks os cs ys cy oy yr ns cn on nr rd sy sc so syr sn_ sd son snr srd ad len st tx 0) ⟨hx, hb, hml, hown, hts⟩ hK.1 hP hD hS hA [0, 49, 50] [1, 2, 3, 4, 5, 6, 7, 8, 9, 10, 11, 12, 13, 14, 15, 16, 17, 18, 19, 20, 21, 22, 23, 24, 25, 26, 27, 28, 29, 30, 31, 32, 33, 34, 35, 36, 37, 38, 39, 40, 41, 42, 43, 44, 45, 46, 47, 48] [48, 0, 1, 2, 3, 4, 5, 6, 7, 8, 9, 10, 11, 12, 13, 14, 15, 16, 17, 18, 19, 20, 21, 22, 23, 24, 25, 26, 27, 28, 29, 30, 31, 32, 33, 34, 35, 36, 37, 38, 39, 40, 41, 42, 43, 44, 45, 46, 47, 49, 50] rfl (by decide) rfl (by decide) (by decide) rfl (by decide) (c_X5_wipe l dC dI ck (AD 0) (AD 1) (AD 5) (AD 14) (AD 23) (AD 27) (AD 25) (AD 26) (AD 25) (AD 26) tx tln r_n 0 q5) (cwV 0 hts gL_law_X5_wipe rfl rfl rfl (by decide +kernel) ⟨(Nat.le_of_ble_eq_true rfl), (Nat.le_of_ble_eq_true rfl)⟩) 0 rfl rfl rfl hl.1 rfl (Nat.le_of_ble_eq_true rfl) dL_law_678 hf (fun H locs hP hD hS => ?_)
  refine lv_aload_n hx hb dL_law_681 rfl (lv_at hl 2 rfl) ?_
  have hP := jw_rotP hP
  have hD := jw_rotD hD
  refine lawMI (As := []) (rest := [.int r_n]) (wk := W6 ck AD z past sl isv pm pd ty b1 b2 b3 b4 b5 b6 b7 b8 b9 b10 ords a1 a2 a3) (wx := W5 ck AD pl to ks os cs ys cy oy yr ns cn on nr rd sy sc so syr sn_ sd son snr srd ad len st tx 0 ++ wSl ck (AD 27) x0 x1) (wc := wX6 ck (AD 28) (AD 29) (AD 30) (AD 31) (AD 32) (AD 33) (AD 34) (AD 35) (AD 36) (AD 37) (AD 38) (AD 39) (AD 40) (AD 41) (AD 42) z past sl isv pm pd ty b1 b2 b3 b4 b5 b6 b7 b8 b9 b10 ords a1 a2 a3) (wr := []) (w1 := wX6 ck (AD 28) (AD 29) (AD 30) (AD 31) (AD 32) (AD 33) (AD 34) (AD 35) (AD 36) (AD 37) (AD 38) (AD 39) (AD 40) (AD 41) (AD 42) z past sl isv pm pd 0 b1 b2 b3 b4 b5 b6 b7 b8 b9 b10 ords a1 a2 a3) (wn := W6 ck AD z past sl isv pm pd 0 b1 b2 b3 b4 b5 b6 b7 b8 b9 b10 ords a1 a2 a3) ⟨hx, hb, hml, hown, hts⟩ hK.1 hP hD hS hA [0, 1, 2, 3, 4, 5, 6, 7, 8, 9, 10, 11, 12, 13, 14] [] [0, 1, 2, 3, 4, 5, 6, 7, 8, 9, 10, 11, 12, 13, 14] rfl (by decide) rfl (by decide) (by decide) rfl (by decide) (c_X6_wipe l dC dI ck (AD 28) (AD 29) (AD 30) (AD 31) (AD 32) (AD 33) (AD 34) (AD 35) (AD 36) (AD 37) (AD 38) (AD 39) (AD 40) (AD 41) (AD 42) z past sl isv pm pd ty b1 b2 b3 b4 b5 b6 b7 b8 b9 b10 ords a1 a2 a3 r_n 0 q6) (cwV 0 hts gL_law_X6_wipe rfl rfl rfl (by decide +kernel) ⟨(Nat.le_of_ble_eq_true rfl), (Nat.le_of_ble_eq_true rfl)⟩) 0 rfl rfl rfl hl.1 rfl (Nat.le_of_ble_eq_true rfl) dL_law_682 hf (fun H locs hP hD hS => ?_)
  have hP := jw_rotP hP
  have hD := jw_rotD hD
  refine lv_icmp_eq (tgt := 775) hx hb dL_law_685 (by decide) (fun _ => ?_) (fun q => absurd rfl q)
  refine W.widen hw1 hw2 ?_
  exact kk _ _ _ H locs ls ⟨pl, to, ks, os, cs, ys, cy, oy, yr, ns, cn, on, nr, rd, sy, sc, so, syr, sn_, sd, son, snr, srd, ad, len, st, tx, 0, z, past, sl, isv, pm, pd, 0, b1, b2, b3, b4, b5, b6, b7, b8, b9, b10, ords, a1, a2, a3, _, _, _, _, x0, x1, rfl, rfl, rfl, hC, hPR_n, hz1, hz2, hSR⟩ hP hD hS hl
set_option maxHeartbeats 4000000 in
set_option maxRecDepth 100000 in
theorem st_fault {p : Program} {l : Launch} {e : Env} {s : State} {m : MethodId} {below : List Frame} {meth : Method} {c : Code} {b L : Nat} {xs : Nat → Int32} {dC : Nat → ClassId} {dI : Nat → Nat → Nat} {ck : Nat → ClassId} {AD : Nat → Nat} {Q : State → Prop} {i k : Nat} {w5 w6 tl : va_W} {H : Heap} {locs : List Loc} {ls : Array Slot} (X : LC p s m c b L xs) (hK : K2 (dC, dI) ck s) (hi : i + 6 ≤ L) (hk : k ≤ 512) (hI : INV ck AD w5 w6 tl) (hP : va_P (dC, dI) vwCl (w5 ++ (w6 ++ tl)) H) (hD : va_D (fun q => s.heap.size ≤ q) (w5 ++ (w6 ++ tl))) (hS : va_S (fun q => s.heap.size ≤ q) s.heap H locs) (hl : lv_has ls 4 (LL b AD i)) (kk : NX p l e s m below meth c b (dC, dI) ck AD Q i k) : W p l e room_1 s m #[Value.ref b] below meth c H locs (CE k) (CS k) Q (F0 m 690 ls []) := by
  obtain ⟨pl, to, ks, os, cs, ys, cy, oy, yr, ns, cn, on, nr, rd, sy, sc, so, syr, sn_, sd, son, snr, srd, ad, len, st, tx, tln, z, past, sl, isv, pm, pd, ty, b1, b2, b3, b4, b5, b6, b7, b8, b9, b10, ords, a1, a2, a3, a, mm, L9, l9, x0, x1, rfl, rfl, rfl, hC, hPR, hz1, hz2, hSR⟩ := hI
  obtain ⟨hx, hb, hml, hown, hts, hX, hbl, hL⟩ := X
  have hA : ∀ q : Nat, s.heap.size ≤ q → (fun q : Nat => s.heap.size ≤ q) q := fun _ h => h
  have hbA : ¬ (fun q : Nat => s.heap.size ≤ q) b := Nat.not_le.mpr hbl
  have hf : CE k ≤ room_1.cells ∧ CS k ≤ room_1.slots := by
    unfold CE CS
    exact ⟨show _ ≤ 600000 by omega, show _ ≤ 7302250 by omega⟩
  have hw1 : CE k ≤ CE (k + 1) := by unfold CE; omega
  have hw2 : CS k ≤ CS (k + 1) := by unfold CS; omega
  obtain ⟨r_n, d1_n, d2_n, d3_n, d4_n, q5, q6⟩ := fault_ok hPR ords a1 a2 a3
  refine lv_aload_n hx hb dL_law_690 rfl (lv_at hl 1 rfl) ?_
  refine cRV (As := []) (rest := []) (wc := [(AD 0, .inr (5, [.ref (AD 1), .ref (AD 5), .ref (AD 14), .ref (AD 23), .ref (AD 27), .ref (AD 25)]))] ++ wX3 ck (AD 25) (AD 26) tx tln) ⟨hx, hb, hml, hown, hts⟩ hK.1 hP [0, 49, 50] rfl (c_X5_fault l dC dI ck (AD 0) (AD 1) (AD 5) (AD 14) (AD 23) (AD 27) (AD 25) (AD 26) (AD 25) (AD 26) tx tln r_n q5) (cwV 0 hts gL_law_X5_fault rfl rfl rfl (by decide +kernel) ⟨(Nat.le_of_ble_eq_true rfl), (Nat.le_of_ble_eq_true rfl)⟩) 0 rfl rfl rfl hl.1 rfl (Nat.le_of_ble_eq_true rfl) dL_law_691 hf ?_
  refine lv_aload_n hx hb dL_law_694 rfl (lv_at hl 2 rfl) ?_
  have hP := jw_rotP hP
  have hD := jw_rotD hD
  refine lawMI (As := []) (rest := [.int r_n]) (wk := W6 ck AD z past sl isv pm pd ty b1 b2 b3 b4 b5 b6 b7 b8 b9 b10 ords a1 a2 a3) (wx := W5 ck AD pl to ks os cs ys cy oy yr ns cn on nr rd sy sc so syr sn_ sd son snr srd ad len st tx tln ++ wSl ck (AD 27) x0 x1) (wc := wX6 ck (AD 28) (AD 29) (AD 30) (AD 31) (AD 32) (AD 33) (AD 34) (AD 35) (AD 36) (AD 37) (AD 38) (AD 39) (AD 40) (AD 41) (AD 42) z past sl isv pm pd ty b1 b2 b3 b4 b5 b6 b7 b8 b9 b10 ords a1 a2 a3) (wr := []) (w1 := wX6 ck (AD 28) (AD 29) (AD 30) (AD 31) (AD 32) (AD 33) (AD 34) (AD 35) (AD 36) (AD 37) (AD 38) (AD 39) (AD 40) (AD 41) (AD 42) z past sl isv pm pd ty b1 b2 b3 b4 b5 b6 b7 b8 b9 b10 d1_n d2_n d3_n d4_n) (wn := W6 ck AD z past sl isv pm pd ty b1 b2 b3 b4 b5 b6 b7 b8 b9 b10 d1_n d2_n d3_n d4_n) ⟨hx, hb, hml, hown, hts⟩ hK.1 hP hD hS hA [0, 1, 2, 3, 4, 5, 6, 7, 8, 9, 10, 11, 12, 13, 14] [] [0, 1, 2, 3, 4, 5, 6, 7, 8, 9, 10, 11, 12, 13, 14] rfl (by decide) rfl (by decide) (by decide) rfl (by decide) (c_X6_fault l dC dI ck (AD 28) (AD 29) (AD 30) (AD 31) (AD 32) (AD 33) (AD 34) (AD 35) (AD 36) (AD 37) (AD 38) (AD 39) (AD 40) (AD 41) (AD 42) z past sl isv pm pd ty b1 b2 b3 b4 b5 b6 b7 b8 b9 b10 ords a1 a2 a3 r_n d1_n d2_n d3_n d4_n q6) (cwV 0 hts gL_law_X6_fault rfl rfl rfl (by decide +kernel) ⟨(Nat.le_of_ble_eq_true rfl), (Nat.le_of_ble_eq_true rfl)⟩) 0 rfl rfl rfl hl.1 rfl (Nat.le_of_ble_eq_true rfl) dL_law_695 hf (fun H locs hP hD hS => ?_)
  have hP := jw_rotP hP
  have hD := jw_rotD hD
  refine lv_icmp_eq (tgt := 775) hx hb dL_law_698 (by decide) (fun _ => ?_) (fun q => absurd rfl q)
  refine W.widen hw1 hw2 ?_
  exact kk _ _ _ H locs ls ⟨pl, to, ks, os, cs, ys, cy, oy, yr, ns, cn, on, nr, rd, sy, sc, so, syr, sn_, sd, son, snr, srd, ad, len, st, tx, tln, z, past, sl, isv, pm, pd, ty, b1, b2, b3, b4, b5, b6, b7, b8, b9, b10, d1_n, d2_n, d3_n, d4_n, _, _, _, _, x0, x1, rfl, rfl, rfl, hC, hPR, hz1, hz2, hSR⟩ hP hD hS hl
