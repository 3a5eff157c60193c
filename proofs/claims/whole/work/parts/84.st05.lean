set_option maxHeartbeats 4000000 in
set_option maxRecDepth 100000 in
theorem st_gain {p : Program} {l : Launch} {e : Env} {s : State} {m : MethodId} {below : List Frame} {meth : Method} {c : Code} {b L : Nat} {xs : Nat → Int32} {dC : Nat → ClassId} {dI : Nat → Nat → Nat} {ck : Nat → ClassId} {AD : Nat → Nat} {Q : State → Prop} {i k : Nat} {w5 w6 tl : va_W} {H : Heap} {locs : List Loc} {ls : Array Slot} (X : LC p s m c b L xs) (hK : K2 (dC, dI) ck s) (hi : i + 6 ≤ L) (hk : k ≤ 512) (hI : INV ck AD w5 w6 tl) (hP : va_P (dC, dI) vwCl (w5 ++ (w6 ++ tl)) H) (hD : va_D (fun q => s.heap.size ≤ q) (w5 ++ (w6 ++ tl))) (hS : va_S (fun q => s.heap.size ≤ q) s.heap H locs) (hl : lv_has ls 4 (LL b AD i)) (kk : NX p l e s m below meth c b (dC, dI) ck AD Q i k) : W p l e room_1 s m #[Value.ref b] below meth c H locs (CE k) (CS k) Q (F0 m 482 ls []) := by
  obtain ⟨pl, to, ks, os, cs, ys, cy, oy, yr, ns, cn, on, nr, rd, sy, sc, so, syr, sn_, sd, son, snr, srd, ad, len, st, tx, tln, z, past, sl, isv, pm, pd, ty, b1, b2, b3, b4, b5, b6, b7, b8, b9, b10, ords, a1, a2, a3, a, mm, L9, l9, x0, x1, rfl, rfl, rfl, hC, hPR, hz1, hz2, hSR⟩ := hI
  obtain ⟨hx, hb, hml, hown, hts, hX, hbl, hL⟩ := X
  have hA : ∀ q : Nat, s.heap.size ≤ q → (fun q : Nat => s.heap.size ≤ q) q := fun _ h => h
  have hbA : ¬ (fun q : Nat => s.heap.size ≤ q) b := Nat.not_le.mpr hbl
  have hf : CE k ≤ room_1.cells ∧ CS k ≤ room_1.slots := by
    unfold CE CS
    exact ⟨show _ ≤ 600000 by omega, show _ ≤ 7302250 by omega⟩
  have hw1 : CE k ≤ CE (k + 1) := by unfold CE; omega
  have hw2 : CS k ≤ CS (k + 1) := by unfold CS; omega
  have hin1 : vp_in (nI i + 1) L := lwin 1 hL hi (by decide)
  have hin2 : vp_in (nI i + 2) L := lwin 2 hL hi (by decide)
  have hin3 : vp_in (nI i + 3) L := lwin 3 hL hi (by decide)
  have hin4 : vp_in (nI i + 4) L := lwin 4 hL hi (by decide)
  have hin5 : vp_in (nI i + 5) L := lwin 5 hL hi (by decide)
  obtain ⟨r_n, to_n, ks_n, os_n, cs_n, e1_n, e2_n, e3_n, e4_n, e5_n, e6_n, e7_n, e8_n, e9_n, z_n, d1_n, d2_n, d3_n, d4_n, d5_n, d6_n, d7_n, d8_n, d9_n, d10_n, q5, q6, hC_n, hz1_n, hz2_n⟩ := gain_ok hC hz1 hz2 sy so sn_ son syr snr srd b1 b2 b3 b4 b5 b6 b7 b8 b9 b10 (xs (nI i + 1).toNatClampNeg) (xs (nI i + 2).toNatClampNeg) (xs (nI i + 3).toNatClampNeg) (xs (nI i + 4).toNatClampNeg) (xs (nI i + 5).toNatClampNeg)
  refine lv_aload_n hx hb dL_law_482 rfl (lv_at hl 1 rfl) ?_
  refine lv_aload_n hx hb dL_law_483 rfl (lv_at hl 0 rfl) ?_
  refine lv_iload_n hx hb dL_law_484 rfl (lv_at hl 3 rfl) ?_
  refine lv_iconst (v := (1 : Int32)) hx hb dL_law_485 rfl ?_
  refine lv_iadd hx hb dL_law_486 ?_
  refine va_sld hx hb hX hbl hbA hS hin1 dL_law_487 ?_
  refine lv_aload_n hx hb dL_law_488 rfl (lv_at hl 0 rfl) ?_
  refine lv_iload_n hx hb dL_law_489 rfl (lv_at hl 3 rfl) ?_
  refine lv_iconst (v := (2 : Int32)) hx hb dL_law_490 rfl ?_
  refine lv_iadd hx hb dL_law_491 ?_
  refine va_sld hx hb hX hbl hbA hS hin2 dL_law_492 ?_
  refine lv_aload_n hx hb dL_law_493 rfl (lv_at hl 0 rfl) ?_
  refine lv_iload_n hx hb dL_law_494 rfl (lv_at hl 3 rfl) ?_
  refine lv_iconst (v := (3 : Int32)) hx hb dL_law_495 rfl ?_
  refine lv_iadd hx hb dL_law_496 ?_
  refine va_sld hx hb hX hbl hbA hS hin3 dL_law_497 ?_
  refine lv_aload_n hx hb dL_law_498 rfl (lv_at hl 0 rfl) ?_
  refine lv_iload_n hx hb dL_law_499 rfl (lv_at hl 3 rfl) ?_
  refine lv_iconst (v := (4 : Int32)) hx hb dL_law_500 rfl ?_
  refine lv_iadd hx hb dL_law_501 ?_
  refine va_sld hx hb hX hbl hbA hS hin4 dL_law_502 ?_
  refine lv_aload_n hx hb dL_law_503 rfl (lv_at hl 0 rfl) ?_
  refine lv_iload_n hx hb dL_law_504 rfl (lv_at hl 3 rfl) ?_
  refine lv_iconst (v := (5 : Int32)) hx hb dL_law_505 rfl ?_
  refine lv_iadd hx hb dL_law_506 ?_
  refine va_sld hx hb hX hbl hbA hS hin5 dL_law_507 ?_
  refine lawMI (As := [.int (xs (nI i + 1).toNatClampNeg), .int (xs (nI i + 2).toNatClampNeg), .int (xs (nI i + 3).toNatClampNeg), .int (xs (nI i + 4).toNatClampNeg), .int (xs (nI i + 5).toNatClampNeg)]) (rest := []) (wk := W5 ck AD pl to ks os cs ys cy oy yr ns cn on nr rd sy sc so syr sn_ sd son snr srd ad len st tx tln) (wx := W6 ck AD z past sl isv pm pd ty b1 b2 b3 b4 b5 b6 b7 b8 b9 b10 ords a1 a2 a3 ++ wSl ck (AD 27) x0 x1) (wc := [(AD 0, .inr (5, [.ref (AD 1), .ref (AD 5), .ref (AD 14), .ref (AD 23), .ref (AD 27), .ref (AD 25)]))] ++ wX0 ck (AD 1) (AD 2) (AD 3) (AD 4) pl to ks os cs ++ wX2 ck (AD 5) (AD 6) (AD 7) (AD 8) (AD 9) (AD 10) (AD 11) (AD 12) (AD 13) ys cy oy yr ns cn on nr rd ++ wX2 ck (AD 14) (AD 15) (AD 16) (AD 17) (AD 18) (AD 19) (AD 20) (AD 21) (AD 22) sy sc so syr sn_ sd son snr srd) (wr := wX1 ck (AD 23) (AD 24) ad len st ++ wX3 ck (AD 25) (AD 26) tx tln) (w1 := [(AD 0, .inr (5, [.ref (AD 1), .ref (AD 5), .ref (AD 14), .ref (AD 23), .ref (AD 27), .ref (AD 25)]))] ++ wX0 ck (AD 1) (AD 2) (AD 3) (AD 4) pl to_n ks_n os_n cs_n ++ wX2 ck (AD 5) (AD 6) (AD 7) (AD 8) (AD 9) (AD 10) (AD 11) (AD 12) (AD 13) ys cy oy yr ns cn on nr rd ++ wX2 ck (AD 14) (AD 15) (AD 16) (AD 17) (AD 18) (AD 19) (AD 20) (AD 21) (AD 22) e1_n e2_n e3_n e4_n e5_n e6_n e7_n e8_n e9_n) (wn := W5 ck AD pl to_n ks_n os_n cs_n ys cy oy yr ns cn on nr rd e1_n e2_n e3_n e4_n e5_n e6_n e7_n e8_n e9_n ad len st tx tln) ⟨hx, hb, hml, hown, hts⟩ hK.1 hP hD hS hA [0, 1, 2, 3, 4, 5, 6, 7, 8, 9, 10, 11, 12, 13, 14, 15, 16, 17, 18, 19, 20, 21, 22] [23, 24, 25, 26, 27, 28, 29, 30, 31, 32, 33, 34, 35, 36, 37, 38, 39, 40, 41, 42, 43, 44, 45, 46, 47, 48, 49, 50] [28, 29, 30, 31, 32, 33, 34, 35, 36, 37, 38, 39, 40, 41, 42, 43, 44, 45, 46, 47, 48, 49, 50, 0, 1, 2, 3, 4, 5, 6, 7, 8, 9, 10, 11, 12, 13, 14, 15, 16, 17, 18, 19, 20, 21, 22, 23, 24, 25, 26, 27] rfl (by decide) rfl (by decide) (by decide) rfl (by decide) (c_X5_gain l dC dI ck (AD 0) (AD 1) (AD 2) (AD 3) (AD 4) (AD 5) (AD 6) (AD 7) (AD 8) (AD 9) (AD 10) (AD 11) (AD 12) (AD 13) (AD 14) (AD 15) (AD 16) (AD 17) (AD 18) (AD 19) (AD 20) (AD 21) (AD 22) (AD 23) (AD 27) (AD 25) (AD 1) (AD 2) (AD 3) (AD 4) (AD 5) (AD 6) (AD 7) (AD 8) (AD 9) (AD 10) (AD 11) (AD 12) (AD 13) (AD 14) (AD 15) (AD 16) (AD 17) (AD 18) (AD 19) (AD 20) (AD 21) (AD 22) pl to ks os cs ys cy oy yr ns cn on nr rd sy sc so syr sn_ sd son snr srd (xs (nI i + 1).toNatClampNeg) (xs (nI i + 2).toNatClampNeg) (xs (nI i + 3).toNatClampNeg) (xs (nI i + 4).toNatClampNeg) (xs (nI i + 5).toNatClampNeg) r_n to_n ks_n os_n cs_n e1_n e2_n e3_n e4_n e5_n e6_n e7_n e8_n e9_n q5) (cwV 5 hts gL_law_X5_gain rfl rfl rfl (by decide +kernel) ⟨(Nat.le_of_ble_eq_true rfl), (Nat.le_of_ble_eq_true rfl)⟩) 0 rfl rfl rfl hl.1 rfl (Nat.le_of_ble_eq_true rfl) dL_law_508 hf (fun H locs hP hD hS => ?_)
  refine lv_aload_n hx hb dL_law_511 rfl (lv_at hl 2 rfl) ?_
  refine lv_aload_n hx hb dL_law_512 rfl (lv_at hl 0 rfl) ?_
  refine lv_iload_n hx hb dL_law_513 rfl (lv_at hl 3 rfl) ?_
  refine lv_iconst (v := (1 : Int32)) hx hb dL_law_514 rfl ?_
  refine lv_iadd hx hb dL_law_515 ?_
  refine va_sld hx hb hX hbl hbA hS hin1 dL_law_516 ?_
  refine lv_aload_n hx hb dL_law_517 rfl (lv_at hl 0 rfl) ?_
  refine lv_iload_n hx hb dL_law_518 rfl (lv_at hl 3 rfl) ?_
  refine lv_iconst (v := (2 : Int32)) hx hb dL_law_519 rfl ?_
  refine lv_iadd hx hb dL_law_520 ?_
  refine va_sld hx hb hX hbl hbA hS hin2 dL_law_521 ?_
  refine lv_aload_n hx hb dL_law_522 rfl (lv_at hl 0 rfl) ?_
  refine lv_iload_n hx hb dL_law_523 rfl (lv_at hl 3 rfl) ?_
  refine lv_iconst (v := (3 : Int32)) hx hb dL_law_524 rfl ?_
  refine lv_iadd hx hb dL_law_525 ?_
  refine va_sld hx hb hX hbl hbA hS hin3 dL_law_526 ?_
  refine lv_aload_n hx hb dL_law_527 rfl (lv_at hl 0 rfl) ?_
  refine lv_iload_n hx hb dL_law_528 rfl (lv_at hl 3 rfl) ?_
  refine lv_iconst (v := (4 : Int32)) hx hb dL_law_529 rfl ?_
  refine lv_iadd hx hb dL_law_530 ?_
  refine va_sld hx hb hX hbl hbA hS hin4 dL_law_531 ?_
  refine lv_aload_n hx hb dL_law_532 rfl (lv_at hl 0 rfl) ?_
  refine lv_iload_n hx hb dL_law_533 rfl (lv_at hl 3 rfl) ?_
  refine lv_iconst (v := (5 : Int32)) hx hb dL_law_534 rfl ?_
  refine lv_iadd hx hb dL_law_535 ?_
  refine va_sld hx hb hX hbl hbA hS hin5 dL_law_536 ?_
  have hP := jw_rotP hP
  have hD := jw_rotD hD
  refine lawMI (As := [.int (xs (nI i + 1).toNatClampNeg), .int (xs (nI i + 2).toNatClampNeg), .int (xs (nI i + 3).toNatClampNeg), .int (xs (nI i + 4).toNatClampNeg), .int (xs (nI i + 5).toNatClampNeg)]) (rest := [.int r_n]) (wk := W6 ck AD z past sl isv pm pd ty b1 b2 b3 b4 b5 b6 b7 b8 b9 b10 ords a1 a2 a3) (wx := W5 ck AD pl to_n ks_n os_n cs_n ys cy oy yr ns cn on nr rd e1_n e2_n e3_n e4_n e5_n e6_n e7_n e8_n e9_n ad len st tx tln ++ wSl ck (AD 27) x0 x1) (wc := wX6 ck (AD 28) (AD 29) (AD 30) (AD 31) (AD 32) (AD 33) (AD 34) (AD 35) (AD 36) (AD 37) (AD 38) (AD 39) (AD 40) (AD 41) (AD 42) z past sl isv pm pd ty b1 b2 b3 b4 b5 b6 b7 b8 b9 b10 ords a1 a2 a3) (wr := []) (w1 := wX6 ck (AD 28) (AD 29) (AD 30) (AD 31) (AD 32) (AD 33) (AD 34) (AD 35) (AD 36) (AD 37) (AD 38) (AD 39) (AD 40) (AD 41) (AD 42) z_n past sl isv pm pd ty d1_n d2_n d3_n d4_n d5_n d6_n d7_n d8_n d9_n d10_n ords a1 a2 a3) (wn := W6 ck AD z_n past sl isv pm pd ty d1_n d2_n d3_n d4_n d5_n d6_n d7_n d8_n d9_n d10_n ords a1 a2 a3) ⟨hx, hb, hml, hown, hts⟩ hK.1 hP hD hS hA [0, 1, 2, 3, 4, 5, 6, 7, 8, 9, 10, 11, 12, 13, 14] [] [0, 1, 2, 3, 4, 5, 6, 7, 8, 9, 10, 11, 12, 13, 14] rfl (by decide) rfl (by decide) (by decide) rfl (by decide) (c_X6_gain l dC dI ck (AD 28) (AD 29) (AD 30) (AD 31) (AD 32) (AD 33) (AD 34) (AD 35) (AD 36) (AD 37) (AD 38) (AD 39) (AD 40) (AD 41) (AD 42) z past sl isv pm pd ty b1 b2 b3 b4 b5 b6 b7 b8 b9 b10 ords a1 a2 a3 (xs (nI i + 1).toNatClampNeg) (xs (nI i + 2).toNatClampNeg) (xs (nI i + 3).toNatClampNeg) (xs (nI i + 4).toNatClampNeg) (xs (nI i + 5).toNatClampNeg) r_n z_n d1_n d2_n d3_n d4_n d5_n d6_n d7_n d8_n d9_n d10_n q6) (cwV 5 hts gL_law_X6_gain rfl rfl rfl (by decide +kernel) ⟨(Nat.le_of_ble_eq_true rfl), (Nat.le_of_ble_eq_true rfl)⟩) 0 rfl rfl rfl hl.1 rfl (Nat.le_of_ble_eq_true rfl) dL_law_537 hf (fun H locs hP hD hS => ?_)
  have hP := jw_rotP hP
  have hD := jw_rotD hD
  refine lv_icmp_eq (tgt := 775) hx hb dL_law_540 (by decide) (fun _ => ?_) (fun q => absurd rfl q)
  refine W.widen hw1 hw2 ?_
  exact kk _ _ _ H locs ls ⟨pl, to_n, ks_n, os_n, cs_n, ys, cy, oy, yr, ns, cn, on, nr, rd, e1_n, e2_n, e3_n, e4_n, e5_n, e6_n, e7_n, e8_n, e9_n, ad, len, st, tx, tln, z_n, past, sl, isv, pm, pd, ty, d1_n, d2_n, d3_n, d4_n, d5_n, d6_n, d7_n, d8_n, d9_n, d10_n, ords, a1, a2, a3, _, _, _, _, x0, x1, rfl, rfl, rfl, hC_n, hPR, hz1_n, hz2_n, hSR⟩ hP hD hS hl
set_option maxHeartbeats 4000000 in
set_option maxRecDepth 100000 in
theorem st_must {p : Program} {l : Launch} {e : Env} {s : State} {m : MethodId} {below : List Frame} {meth : Method} {c : Code} {b L : Nat} {xs : Nat → Int32} {dC : Nat → ClassId} {dI : Nat → Nat → Nat} {ck : Nat → ClassId} {AD : Nat → Nat} {Q : State → Prop} {i k : Nat} {w5 w6 tl : va_W} {H : Heap} {locs : List Loc} {ls : Array Slot} (X : LC p s m c b L xs) (hK : K2 (dC, dI) ck s) (hi : i + 6 ≤ L) (hk : k ≤ 512) (hI : INV ck AD w5 w6 tl) (hP : va_P (dC, dI) vwCl (w5 ++ (w6 ++ tl)) H) (hD : va_D (fun q => s.heap.size ≤ q) (w5 ++ (w6 ++ tl))) (hS : va_S (fun q => s.heap.size ≤ q) s.heap H locs) (hl : lv_has ls 4 (LL b AD i)) (kk : NX p l e s m below meth c b (dC, dI) ck AD Q i k) : W p l e room_1 s m #[Value.ref b] below meth c H locs (CE k) (CS k) Q (F0 m 545 ls []) := by
  obtain ⟨pl, to, ks, os, cs, ys, cy, oy, yr, ns, cn, on, nr, rd, sy, sc, so, syr, sn_, sd, son, snr, srd, ad, len, st, tx, tln, z, past, sl, isv, pm, pd, ty, b1, b2, b3, b4, b5, b6, b7, b8, b9, b10, ords, a1, a2, a3, a, mm, L9, l9, x0, x1, rfl, rfl, rfl, hC, hPR, hz1, hz2, hSR⟩ := hI
  obtain ⟨hx, hb, hml, hown, hts, hX, hbl, hL⟩ := X
  have hA : ∀ q : Nat, s.heap.size ≤ q → (fun q : Nat => s.heap.size ≤ q) q := fun _ h => h
  have hbA : ¬ (fun q : Nat => s.heap.size ≤ q) b := Nat.not_le.mpr hbl
  have hf : CE k ≤ room_1.cells ∧ CS k ≤ room_1.slots := by
    unfold CE CS
    exact ⟨show _ ≤ 600000 by omega, show _ ≤ 7302250 by omega⟩
  have hw1 : CE k ≤ CE (k + 1) := by unfold CE; omega
  have hw2 : CS k ≤ CS (k + 1) := by unfold CS; omega
  have hin1 : vp_in (nI i + 1) L := lwin 1 hL hi (by decide)
  have hin2 : vp_in (nI i + 2) L := lwin 2 hL hi (by decide)
  obtain ⟨r_n, e1_n, e2_n, e3_n, e4_n, e5_n, e6_n, e7_n, e8_n, e9_n, d1_n, d2_n, d3_n, d4_n, d5_n, d6_n, d7_n, d8_n, d9_n, d10_n, q5, q6, hz1_n, hz2_n⟩ := must_ok hC hz1 hz2 sy so sn_ son syr snr srd b1 b2 b3 b4 b5 b6 b7 b8 b9 b10 (xs (nI i + 1).toNatClampNeg) (xs (nI i + 2).toNatClampNeg)
  refine lv_aload_n hx hb dL_law_545 rfl (lv_at hl 1 rfl) ?_
  refine lv_aload_n hx hb dL_law_546 rfl (lv_at hl 0 rfl) ?_
  refine lv_iload_n hx hb dL_law_547 rfl (lv_at hl 3 rfl) ?_
  refine lv_iconst (v := (1 : Int32)) hx hb dL_law_548 rfl ?_
  refine lv_iadd hx hb dL_law_549 ?_
  refine va_sld hx hb hX hbl hbA hS hin1 dL_law_550 ?_
  refine lv_aload_n hx hb dL_law_551 rfl (lv_at hl 0 rfl) ?_
  refine lv_iload_n hx hb dL_law_552 rfl (lv_at hl 3 rfl) ?_
  refine lv_iconst (v := (2 : Int32)) hx hb dL_law_553 rfl ?_
  refine lv_iadd hx hb dL_law_554 ?_
  refine va_sld hx hb hX hbl hbA hS hin2 dL_law_555 ?_
  refine lawMI (As := [.int (xs (nI i + 1).toNatClampNeg), .int (xs (nI i + 2).toNatClampNeg)]) (rest := []) (wk := W5 ck AD pl to ks os cs ys cy oy yr ns cn on nr rd sy sc so syr sn_ sd son snr srd ad len st tx tln) (wx := W6 ck AD z past sl isv pm pd ty b1 b2 b3 b4 b5 b6 b7 b8 b9 b10 ords a1 a2 a3 ++ wSl ck (AD 27) x0 x1) (wc := [(AD 0, .inr (5, [.ref (AD 1), .ref (AD 5), .ref (AD 14), .ref (AD 23), .ref (AD 27), .ref (AD 25)]))] ++ wX0 ck (AD 1) (AD 2) (AD 3) (AD 4) pl to ks os cs ++ wX2 ck (AD 5) (AD 6) (AD 7) (AD 8) (AD 9) (AD 10) (AD 11) (AD 12) (AD 13) ys cy oy yr ns cn on nr rd ++ wX2 ck (AD 14) (AD 15) (AD 16) (AD 17) (AD 18) (AD 19) (AD 20) (AD 21) (AD 22) sy sc so syr sn_ sd son snr srd) (wr := wX1 ck (AD 23) (AD 24) ad len st ++ wX3 ck (AD 25) (AD 26) tx tln) (w1 := [(AD 0, .inr (5, [.ref (AD 1), .ref (AD 5), .ref (AD 14), .ref (AD 23), .ref (AD 27), .ref (AD 25)]))] ++ wX0 ck (AD 1) (AD 2) (AD 3) (AD 4) pl to ks os cs ++ wX2 ck (AD 5) (AD 6) (AD 7) (AD 8) (AD 9) (AD 10) (AD 11) (AD 12) (AD 13) ys cy oy yr ns cn on nr rd ++ wX2 ck (AD 14) (AD 15) (AD 16) (AD 17) (AD 18) (AD 19) (AD 20) (AD 21) (AD 22) e1_n e2_n e3_n e4_n e5_n e6_n e7_n e8_n e9_n) (wn := W5 ck AD pl to ks os cs ys cy oy yr ns cn on nr rd e1_n e2_n e3_n e4_n e5_n e6_n e7_n e8_n e9_n ad len st tx tln) ⟨hx, hb, hml, hown, hts⟩ hK.1 hP hD hS hA [0, 1, 2, 3, 4, 5, 6, 7, 8, 9, 10, 11, 12, 13, 14, 15, 16, 17, 18, 19, 20, 21, 22] [23, 24, 25, 26, 27, 28, 29, 30, 31, 32, 33, 34, 35, 36, 37, 38, 39, 40, 41, 42, 43, 44, 45, 46, 47, 48, 49, 50] [28, 29, 30, 31, 32, 33, 34, 35, 36, 37, 38, 39, 40, 41, 42, 43, 44, 45, 46, 47, 48, 49, 50, 0, 1, 2, 3, 4, 5, 6, 7, 8, 9, 10, 11, 12, 13, 14, 15, 16, 17, 18, 19, 20, 21, 22, 23, 24, 25, 26, 27] rfl (by decide) rfl (by decide) (by decide) rfl (by decide) (c_X5_must l dC dI ck (AD 0) (AD 1) (AD 2) (AD 3) (AD 4) (AD 5) (AD 6) (AD 7) (AD 8) (AD 9) (AD 10) (AD 11) (AD 12) (AD 13) (AD 14) (AD 15) (AD 16) (AD 17) (AD 18) (AD 19) (AD 20) (AD 21) (AD 22) (AD 23) (AD 27) (AD 25) (AD 1) (AD 2) (AD 3) (AD 4) (AD 5) (AD 6) (AD 7) (AD 8) (AD 9) (AD 10) (AD 11) (AD 12) (AD 13) (AD 14) (AD 15) (AD 16) (AD 17) (AD 18) (AD 19) (AD 20) (AD 21) (AD 22) pl to ks os cs ys cy oy yr ns cn on nr rd sy sc so syr sn_ sd son snr srd (xs (nI i + 1).toNatClampNeg) (xs (nI i + 2).toNatClampNeg) r_n e1_n e2_n e3_n e4_n e5_n e6_n e7_n e8_n e9_n q5) (cwV 2 hts gL_law_X5_must rfl rfl rfl (by decide +kernel) ⟨(Nat.le_of_ble_eq_true rfl), (Nat.le_of_ble_eq_true rfl)⟩) 0 rfl rfl rfl hl.1 rfl (Nat.le_of_ble_eq_true rfl) dL_law_556 hf (fun H locs hP hD hS => ?_)
  refine lv_aload_n hx hb dL_law_559 rfl (lv_at hl 2 rfl) ?_
  refine lv_aload_n hx hb dL_law_560 rfl (lv_at hl 0 rfl) ?_
  refine lv_iload_n hx hb dL_law_561 rfl (lv_at hl 3 rfl) ?_
  refine lv_iconst (v := (1 : Int32)) hx hb dL_law_562 rfl ?_
  refine lv_iadd hx hb dL_law_563 ?_
  refine va_sld hx hb hX hbl hbA hS hin1 dL_law_564 ?_
  refine lv_aload_n hx hb dL_law_565 rfl (lv_at hl 0 rfl) ?_
  refine lv_iload_n hx hb dL_law_566 rfl (lv_at hl 3 rfl) ?_
  refine lv_iconst (v := (2 : Int32)) hx hb dL_law_567 rfl ?_
  refine lv_iadd hx hb dL_law_568 ?_
  refine va_sld hx hb hX hbl hbA hS hin2 dL_law_569 ?_
  have hP := jw_rotP hP
  have hD := jw_rotD hD
  refine lawMI (As := [.int (xs (nI i + 1).toNatClampNeg), .int (xs (nI i + 2).toNatClampNeg)]) (rest := [.int r_n]) (wk := W6 ck AD z past sl isv pm pd ty b1 b2 b3 b4 b5 b6 b7 b8 b9 b10 ords a1 a2 a3) (wx := W5 ck AD pl to ks os cs ys cy oy yr ns cn on nr rd e1_n e2_n e3_n e4_n e5_n e6_n e7_n e8_n e9_n ad len st tx tln ++ wSl ck (AD 27) x0 x1) (wc := wX6 ck (AD 28) (AD 29) (AD 30) (AD 31) (AD 32) (AD 33) (AD 34) (AD 35) (AD 36) (AD 37) (AD 38) (AD 39) (AD 40) (AD 41) (AD 42) z past sl isv pm pd ty b1 b2 b3 b4 b5 b6 b7 b8 b9 b10 ords a1 a2 a3) (wr := []) (w1 := wX6 ck (AD 28) (AD 29) (AD 30) (AD 31) (AD 32) (AD 33) (AD 34) (AD 35) (AD 36) (AD 37) (AD 38) (AD 39) (AD 40) (AD 41) (AD 42) z past sl isv pm pd ty d1_n d2_n d3_n d4_n d5_n d6_n d7_n d8_n d9_n d10_n ords a1 a2 a3) (wn := W6 ck AD z past sl isv pm pd ty d1_n d2_n d3_n d4_n d5_n d6_n d7_n d8_n d9_n d10_n ords a1 a2 a3) ⟨hx, hb, hml, hown, hts⟩ hK.1 hP hD hS hA [0, 1, 2, 3, 4, 5, 6, 7, 8, 9, 10, 11, 12, 13, 14] [] [0, 1, 2, 3, 4, 5, 6, 7, 8, 9, 10, 11, 12, 13, 14] rfl (by decide) rfl (by decide) (by decide) rfl (by decide) (c_X6_must l dC dI ck (AD 28) (AD 29) (AD 30) (AD 31) (AD 32) (AD 33) (AD 34) (AD 35) (AD 36) (AD 37) (AD 38) (AD 39) (AD 40) (AD 41) (AD 42) z past sl isv pm pd ty b1 b2 b3 b4 b5 b6 b7 b8 b9 b10 ords a1 a2 a3 (xs (nI i + 1).toNatClampNeg) (xs (nI i + 2).toNatClampNeg) r_n d1_n d2_n d3_n d4_n d5_n d6_n d7_n d8_n d9_n d10_n q6) (cwV 2 hts gL_law_X6_must rfl rfl rfl (by decide +kernel) ⟨(Nat.le_of_ble_eq_true rfl), (Nat.le_of_ble_eq_true rfl)⟩) 0 rfl rfl rfl hl.1 rfl (Nat.le_of_ble_eq_true rfl) dL_law_570 hf (fun H locs hP hD hS => ?_)
  have hP := jw_rotP hP
  have hD := jw_rotD hD
  refine lv_icmp_eq (tgt := 775) hx hb dL_law_573 (by decide) (fun _ => ?_) (fun q => absurd rfl q)
  refine W.widen hw1 hw2 ?_
  exact kk _ _ _ H locs ls ⟨pl, to, ks, os, cs, ys, cy, oy, yr, ns, cn, on, nr, rd, e1_n, e2_n, e3_n, e4_n, e5_n, e6_n, e7_n, e8_n, e9_n, ad, len, st, tx, tln, z, past, sl, isv, pm, pd, ty, d1_n, d2_n, d3_n, d4_n, d5_n, d6_n, d7_n, d8_n, d9_n, d10_n, ords, a1, a2, a3, _, _, _, _, x0, x1, rfl, rfl, rfl, hC, hPR, hz1_n, hz2_n, hSR⟩ hP hD hS hl
