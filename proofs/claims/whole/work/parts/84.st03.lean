set_option maxHeartbeats 4000000 in
set_option maxRecDepth 100000 in
theorem st_mark {p : Program} {l : Launch} {e : Env} {s : State} {m : MethodId} {below : List Frame} {meth : Method} {c : Code} {b L : Nat} {xs : Nat → Int32} {dC : Nat → ClassId} {dI : Nat → Nat → Nat} {ck : Nat → ClassId} {AD : Nat → Nat} {Q : State → Prop} {i k : Nat} {w5 w6 tl : va_W} {H : Heap} {locs : List Loc} {ls : Array Slot} (X : LC p s m c b L xs) (hK : K2 (dC, dI) ck s) (hi : i + 6 ≤ L) (hk : k ≤ 512) (hI : INV ck AD w5 w6 tl) (hP : va_P (dC, dI) vwCl (w5 ++ (w6 ++ tl)) H) (hD : va_D (fun q => s.heap.size ≤ q) (w5 ++ (w6 ++ tl))) (hS : va_S (fun q => s.heap.size ≤ q) s.heap H locs) (hl : lv_has ls 4 (LL b AD i)) (kk : NX p l e s m below meth c b (dC, dI) ck AD Q i k) : W p l e room_1 s m #[Value.ref b] below meth c H locs (CE k) (CS k) Q (F0 m 317 ls []) := by
  obtain ⟨pl, to, ks, os, cs, ys, cy, oy, yr, ns, cn, on, nr, rd, sy, sc, so, syr, sn_, sd, son, snr, srd, ad, len, st, tx, tln, z, past, sl, isv, pm, pd, ty, b1, b2, b3, b4, b5, b6, b7, b8, b9, b10, ords, a1, a2, a3, a, mm, L9, l9, x0, x1, rfl, rfl, rfl, hC, hPR, hz1, hz2, hSR⟩ := hI
  obtain ⟨hx, hb, hml, hown, hts, hX, hbl, hL⟩ := X
  have hA : ∀ q : Nat, s.heap.size ≤ q → (fun q : Nat => s.heap.size ≤ q) q := fun _ h => h
  have hbA : ¬ (fun q : Nat => s.heap.size ≤ q) b := Nat.not_le.mpr hbl
  have hf : CE k ≤ room_1.cells ∧ CS k ≤ room_1.slots := by
    unfold CE CS
    exact ⟨show _ ≤ 600000 by omega, show _ ≤ 7302250 by omega⟩
  have hw1 : CE k ≤ CE (k + 1) := by unfold CE; omega
  have hw2 : CS k ≤ CS (k + 1) := by unfold CS; omega
  have hin1 : vp_in (nI i + 1) L := lwin 1 hL hi (by decide)
  have hin2 : vp_in (nI i + 2) L := lwin 2 hL hi (by decide)
  have hin3 : vp_in (nI i + 3) L := lwin 3 hL hi (by decide)
  obtain ⟨r_n, d1_n, d2_n, d3_n, d4_n, d5_n, d6_n, d7_n, d8_n, d9_n, d10_n, q5, q6⟩ := mark_ok hC b1 b2 b3 b4 b5 b6 b7 b8 b9 b10 (xs (nI i + 1).toNatClampNeg) (xs (nI i + 2).toNatClampNeg) (xs (nI i + 3).toNatClampNeg)
  refine lv_aload_n hx hb dL_law_317 rfl (lv_at hl 1 rfl) ?_
  refine lv_aload_n hx hb dL_law_318 rfl (lv_at hl 0 rfl) ?_
  refine lv_iload_n hx hb dL_law_319 rfl (lv_at hl 3 rfl) ?_
  refine lv_iconst (v := (1 : Int32)) hx hb dL_law_320 rfl ?_
  refine lv_iadd hx hb dL_law_321 ?_
  refine va_sld hx hb hX hbl hbA hS hin1 dL_law_322 ?_
  refine lv_aload_n hx hb dL_law_323 rfl (lv_at hl 0 rfl) ?_
  refine lv_iload_n hx hb dL_law_324 rfl (lv_at hl 3 rfl) ?_
  refine lv_iconst (v := (2 : Int32)) hx hb dL_law_325 rfl ?_
  refine lv_iadd hx hb dL_law_326 ?_
  refine va_sld hx hb hX hbl hbA hS hin2 dL_law_327 ?_
  refine lv_aload_n hx hb dL_law_328 rfl (lv_at hl 0 rfl) ?_
  refine lv_iload_n hx hb dL_law_329 rfl (lv_at hl 3 rfl) ?_
  refine lv_iconst (v := (3 : Int32)) hx hb dL_law_330 rfl ?_
  refine lv_iadd hx hb dL_law_331 ?_
  refine va_sld hx hb hX hbl hbA hS hin3 dL_law_332 ?_
  refine cRV (As := [.int (xs (nI i + 1).toNatClampNeg), .int (xs (nI i + 2).toNatClampNeg), .int (xs (nI i + 3).toNatClampNeg)]) (rest := []) (wc := [(AD 0, .inr (5, [.ref (AD 1), .ref (AD 5), .ref (AD 14), .ref (AD 23), .ref (AD 27), .ref (AD 25)]))] ++ wX0 ck (AD 1) (AD 2) (AD 3) (AD 4) pl to ks os cs ++ wX2 ck (AD 5) (AD 6) (AD 7) (AD 8) (AD 9) (AD 10) (AD 11) (AD 12) (AD 13) ys cy oy yr ns cn on nr rd) ⟨hx, hb, hml, hown, hts⟩ hK.1 hP [0, 1, 2, 3, 4, 5, 6, 7, 8, 9, 10, 11, 12, 13] rfl (c_X5_mark l dC dI ck (AD 0) (AD 1) (AD 2) (AD 3) (AD 4) (AD 5) (AD 6) (AD 7) (AD 8) (AD 9) (AD 10) (AD 11) (AD 12) (AD 13) (AD 14) (AD 23) (AD 27) (AD 25) (AD 1) (AD 2) (AD 3) (AD 4) (AD 5) (AD 6) (AD 7) (AD 8) (AD 9) (AD 10) (AD 11) (AD 12) (AD 13) pl to ks os cs ys cy oy yr ns cn on nr rd (xs (nI i + 1).toNatClampNeg) (xs (nI i + 2).toNatClampNeg) (xs (nI i + 3).toNatClampNeg) r_n q5) (cwV 3 hts gL_law_X5_mark rfl rfl rfl (by decide +kernel) ⟨(Nat.le_of_ble_eq_true rfl), (Nat.le_of_ble_eq_true rfl)⟩) 0 rfl rfl rfl hl.1 rfl (Nat.le_of_ble_eq_true rfl) dL_law_333 hf ?_
  refine lv_aload_n hx hb dL_law_336 rfl (lv_at hl 2 rfl) ?_
  refine lv_aload_n hx hb dL_law_337 rfl (lv_at hl 0 rfl) ?_
  refine lv_iload_n hx hb dL_law_338 rfl (lv_at hl 3 rfl) ?_
  refine lv_iconst (v := (1 : Int32)) hx hb dL_law_339 rfl ?_
  refine lv_iadd hx hb dL_law_340 ?_
  refine va_sld hx hb hX hbl hbA hS hin1 dL_law_341 ?_
  refine lv_aload_n hx hb dL_law_342 rfl (lv_at hl 0 rfl) ?_
  refine lv_iload_n hx hb dL_law_343 rfl (lv_at hl 3 rfl) ?_
  refine lv_iconst (v := (2 : Int32)) hx hb dL_law_344 rfl ?_
  refine lv_iadd hx hb dL_law_345 ?_
  refine va_sld hx hb hX hbl hbA hS hin2 dL_law_346 ?_
  refine lv_aload_n hx hb dL_law_347 rfl (lv_at hl 0 rfl) ?_
  refine lv_iload_n hx hb dL_law_348 rfl (lv_at hl 3 rfl) ?_
  refine lv_iconst (v := (3 : Int32)) hx hb dL_law_349 rfl ?_
  refine lv_iadd hx hb dL_law_350 ?_
  refine va_sld hx hb hX hbl hbA hS hin3 dL_law_351 ?_
  have hP := jw_rotP hP
  have hD := jw_rotD hD
  refine lawMI (As := [.int (xs (nI i + 1).toNatClampNeg), .int (xs (nI i + 2).toNatClampNeg), .int (xs (nI i + 3).toNatClampNeg)]) (rest := [.int r_n]) (wk := W6 ck AD z past sl isv pm pd ty b1 b2 b3 b4 b5 b6 b7 b8 b9 b10 ords a1 a2 a3) (wx := W5 ck AD pl to ks os cs ys cy oy yr ns cn on nr rd sy sc so syr sn_ sd son snr srd ad len st tx tln ++ wSl ck (AD 27) x0 x1) (wc := wX6 ck (AD 28) (AD 29) (AD 30) (AD 31) (AD 32) (AD 33) (AD 34) (AD 35) (AD 36) (AD 37) (AD 38) (AD 39) (AD 40) (AD 41) (AD 42) z past sl isv pm pd ty b1 b2 b3 b4 b5 b6 b7 b8 b9 b10 ords a1 a2 a3) (wr := []) (w1 := wX6 ck (AD 28) (AD 29) (AD 30) (AD 31) (AD 32) (AD 33) (AD 34) (AD 35) (AD 36) (AD 37) (AD 38) (AD 39) (AD 40) (AD 41) (AD 42) z past sl isv pm pd ty d1_n d2_n d3_n d4_n d5_n d6_n d7_n d8_n d9_n d10_n ords a1 a2 a3) (wn := W6 ck AD z past sl isv pm pd ty d1_n d2_n d3_n d4_n d5_n d6_n d7_n d8_n d9_n d10_n ords a1 a2 a3) ⟨hx, hb, hml, hown, hts⟩ hK.1 hP hD hS hA [0, 1, 2, 3, 4, 5, 6, 7, 8, 9, 10, 11, 12, 13, 14] [] [0, 1, 2, 3, 4, 5, 6, 7, 8, 9, 10, 11, 12, 13, 14] rfl (by decide) rfl (by decide) (by decide) rfl (by decide) (c_X6_mark l dC dI ck (AD 28) (AD 29) (AD 30) (AD 31) (AD 32) (AD 33) (AD 34) (AD 35) (AD 36) (AD 37) (AD 38) (AD 39) (AD 40) (AD 41) (AD 42) z past sl isv pm pd ty b1 b2 b3 b4 b5 b6 b7 b8 b9 b10 ords a1 a2 a3 (xs (nI i + 1).toNatClampNeg) (xs (nI i + 2).toNatClampNeg) (xs (nI i + 3).toNatClampNeg) r_n d1_n d2_n d3_n d4_n d5_n d6_n d7_n d8_n d9_n d10_n q6) (cwV 3 hts gL_law_X6_mark rfl rfl rfl (by decide +kernel) ⟨(Nat.le_of_ble_eq_true rfl), (Nat.le_of_ble_eq_true rfl)⟩) 0 rfl rfl rfl hl.1 rfl (Nat.le_of_ble_eq_true rfl) dL_law_352 hf (fun H locs hP hD hS => ?_)
  have hP := jw_rotP hP
  have hD := jw_rotD hD
  refine lv_icmp_eq (tgt := 775) hx hb dL_law_355 (by decide) (fun _ => ?_) (fun q => absurd rfl q)
  refine W.widen hw1 hw2 ?_
  exact kk _ _ _ H locs ls ⟨pl, to, ks, os, cs, ys, cy, oy, yr, ns, cn, on, nr, rd, sy, sc, so, syr, sn_, sd, son, snr, srd, ad, len, st, tx, tln, z, past, sl, isv, pm, pd, ty, d1_n, d2_n, d3_n, d4_n, d5_n, d6_n, d7_n, d8_n, d9_n, d10_n, ords, a1, a2, a3, _, _, _, _, x0, x1, rfl, rfl, rfl, hC, hPR, hz1, hz2, hSR⟩ hP hD hS hl
set_option maxHeartbeats 4000000 in
set_option maxRecDepth 100000 in
theorem st_ofOwner {p : Program} {l : Launch} {e : Env} {s : State} {m : MethodId} {below : List Frame} {meth : Method} {c : Code} {b L : Nat} {xs : Nat → Int32} {dC : Nat → ClassId} {dI : Nat → Nat → Nat} {ck : Nat → ClassId} {AD : Nat → Nat} {Q : State → Prop} {i k : Nat} {w5 w6 tl : va_W} {H : Heap} {locs : List Loc} {ls : Array Slot} (X : LC p s m c b L xs) (hK : K2 (dC, dI) ck s) (hi : i + 6 ≤ L) (hk : k ≤ 512) (hI : INV ck AD w5 w6 tl) (hP : va_P (dC, dI) vwCl (w5 ++ (w6 ++ tl)) H) (hD : va_D (fun q => s.heap.size ≤ q) (w5 ++ (w6 ++ tl))) (hS : va_S (fun q => s.heap.size ≤ q) s.heap H locs) (hl : lv_has ls 4 (LL b AD i)) (kk : NX p l e s m below meth c b (dC, dI) ck AD Q i k) : W p l e room_1 s m #[Value.ref b] below meth c H locs (CE k) (CS k) Q (F0 m 360 ls []) := by
  obtain ⟨pl, to, ks, os, cs, ys, cy, oy, yr, ns, cn, on, nr, rd, sy, sc, so, syr, sn_, sd, son, snr, srd, ad, len, st, tx, tln, z, past, sl, isv, pm, pd, ty, b1, b2, b3, b4, b5, b6, b7, b8, b9, b10, ords, a1, a2, a3, a, mm, L9, l9, x0, x1, rfl, rfl, rfl, hC, hPR, hz1, hz2, hSR⟩ := hI
  obtain ⟨hx, hb, hml, hown, hts, hX, hbl, hL⟩ := X
  have hA : ∀ q : Nat, s.heap.size ≤ q → (fun q : Nat => s.heap.size ≤ q) q := fun _ h => h
  have hbA : ¬ (fun q : Nat => s.heap.size ≤ q) b := Nat.not_le.mpr hbl
  have hf : CE k ≤ room_1.cells ∧ CS k ≤ room_1.slots := by
    unfold CE CS
    exact ⟨show _ ≤ 600000 by omega, show _ ≤ 7302250 by omega⟩
  have hw1 : CE k ≤ CE (k + 1) := by unfold CE; omega
  have hw2 : CS k ≤ CS (k + 1) := by unfold CS; omega
  have hin1 : vp_in (nI i + 1) L := lwin 1 hL hi (by decide)
  have hin2 : vp_in (nI i + 2) L := lwin 2 hL hi (by decide)
  obtain ⟨r_n, d1_n, d2_n, d3_n, d4_n, d5_n, d6_n, d7_n, d8_n, d9_n, d10_n, q5, q6⟩ := ofOwner_ok hC b1 b2 b3 b4 b5 b6 b7 b8 b9 b10 (xs (nI i + 1).toNatClampNeg) (xs (nI i + 2).toNatClampNeg)
  refine lv_aload_n hx hb dL_law_360 rfl (lv_at hl 1 rfl) ?_
  refine lv_aload_n hx hb dL_law_361 rfl (lv_at hl 0 rfl) ?_
  refine lv_iload_n hx hb dL_law_362 rfl (lv_at hl 3 rfl) ?_
  refine lv_iconst (v := (1 : Int32)) hx hb dL_law_363 rfl ?_
  refine lv_iadd hx hb dL_law_364 ?_
  refine va_sld hx hb hX hbl hbA hS hin1 dL_law_365 ?_
  refine lv_aload_n hx hb dL_law_366 rfl (lv_at hl 0 rfl) ?_
  refine lv_iload_n hx hb dL_law_367 rfl (lv_at hl 3 rfl) ?_
  refine lv_iconst (v := (2 : Int32)) hx hb dL_law_368 rfl ?_
  refine lv_iadd hx hb dL_law_369 ?_
  refine va_sld hx hb hX hbl hbA hS hin2 dL_law_370 ?_
  refine cRV (As := [.int (xs (nI i + 1).toNatClampNeg), .int (xs (nI i + 2).toNatClampNeg)]) (rest := []) (wc := [(AD 0, .inr (5, [.ref (AD 1), .ref (AD 5), .ref (AD 14), .ref (AD 23), .ref (AD 27), .ref (AD 25)]))] ++ wX0 ck (AD 1) (AD 2) (AD 3) (AD 4) pl to ks os cs ++ wX2 ck (AD 5) (AD 6) (AD 7) (AD 8) (AD 9) (AD 10) (AD 11) (AD 12) (AD 13) ys cy oy yr ns cn on nr rd) ⟨hx, hb, hml, hown, hts⟩ hK.1 hP [0, 1, 2, 3, 4, 5, 6, 7, 8, 9, 10, 11, 12, 13] rfl (c_X5_ofOwner l dC dI ck (AD 0) (AD 1) (AD 2) (AD 3) (AD 4) (AD 5) (AD 6) (AD 7) (AD 8) (AD 9) (AD 10) (AD 11) (AD 12) (AD 13) (AD 14) (AD 23) (AD 27) (AD 25) (AD 1) (AD 2) (AD 3) (AD 4) (AD 5) (AD 6) (AD 7) (AD 8) (AD 9) (AD 10) (AD 11) (AD 12) (AD 13) pl to ks os cs ys cy oy yr ns cn on nr rd (xs (nI i + 1).toNatClampNeg) (xs (nI i + 2).toNatClampNeg) r_n q5) (cwV 2 hts gL_law_X5_ofOwner rfl rfl rfl (by decide +kernel) ⟨(Nat.le_of_ble_eq_true rfl), (Nat.le_of_ble_eq_true rfl)⟩) 0 rfl rfl rfl hl.1 rfl (Nat.le_of_ble_eq_true rfl) dL_law_371 hf ?_
  refine lv_aload_n hx hb dL_law_374 rfl (lv_at hl 2 rfl) ?_
  refine lv_aload_n hx hb dL_law_375 rfl (lv_at hl 0 rfl) ?_
  refine lv_iload_n hx hb dL_law_376 rfl (lv_at hl 3 rfl) ?_
  refine lv_iconst (v := (1 : Int32)) hx hb dL_law_377 rfl ?_
  refine lv_iadd hx hb dL_law_378 ?_
  refine va_sld hx hb hX hbl hbA hS hin1 dL_law_379 ?_
  refine lv_aload_n hx hb dL_law_380 rfl (lv_at hl 0 rfl) ?_
  refine lv_iload_n hx hb dL_law_381 rfl (lv_at hl 3 rfl) ?_
  refine lv_iconst (v := (2 : Int32)) hx hb dL_law_382 rfl ?_
  refine lv_iadd hx hb dL_law_383 ?_
  refine va_sld hx hb hX hbl hbA hS hin2 dL_law_384 ?_
  have hP := jw_rotP hP
  have hD := jw_rotD hD
  refine lawMI (As := [.int (xs (nI i + 1).toNatClampNeg), .int (xs (nI i + 2).toNatClampNeg)]) (rest := [.int r_n]) (wk := W6 ck AD z past sl isv pm pd ty b1 b2 b3 b4 b5 b6 b7 b8 b9 b10 ords a1 a2 a3) (wx := W5 ck AD pl to ks os cs ys cy oy yr ns cn on nr rd sy sc so syr sn_ sd son snr srd ad len st tx tln ++ wSl ck (AD 27) x0 x1) (wc := wX6 ck (AD 28) (AD 29) (AD 30) (AD 31) (AD 32) (AD 33) (AD 34) (AD 35) (AD 36) (AD 37) (AD 38) (AD 39) (AD 40) (AD 41) (AD 42) z past sl isv pm pd ty b1 b2 b3 b4 b5 b6 b7 b8 b9 b10 ords a1 a2 a3) (wr := []) (w1 := wX6 ck (AD 28) (AD 29) (AD 30) (AD 31) (AD 32) (AD 33) (AD 34) (AD 35) (AD 36) (AD 37) (AD 38) (AD 39) (AD 40) (AD 41) (AD 42) z past sl isv pm pd ty d1_n d2_n d3_n d4_n d5_n d6_n d7_n d8_n d9_n d10_n ords a1 a2 a3) (wn := W6 ck AD z past sl isv pm pd ty d1_n d2_n d3_n d4_n d5_n d6_n d7_n d8_n d9_n d10_n ords a1 a2 a3) ⟨hx, hb, hml, hown, hts⟩ hK.1 hP hD hS hA [0, 1, 2, 3, 4, 5, 6, 7, 8, 9, 10, 11, 12, 13, 14] [] [0, 1, 2, 3, 4, 5, 6, 7, 8, 9, 10, 11, 12, 13, 14] rfl (by decide) rfl (by decide) (by decide) rfl (by decide) (c_X6_ofOwner l dC dI ck (AD 28) (AD 29) (AD 30) (AD 31) (AD 32) (AD 33) (AD 34) (AD 35) (AD 36) (AD 37) (AD 38) (AD 39) (AD 40) (AD 41) (AD 42) z past sl isv pm pd ty b1 b2 b3 b4 b5 b6 b7 b8 b9 b10 ords a1 a2 a3 (xs (nI i + 1).toNatClampNeg) (xs (nI i + 2).toNatClampNeg) r_n d1_n d2_n d3_n d4_n d5_n d6_n d7_n d8_n d9_n d10_n q6) (cwV 2 hts gL_law_X6_ofOwner rfl rfl rfl (by decide +kernel) ⟨(Nat.le_of_ble_eq_true rfl), (Nat.le_of_ble_eq_true rfl)⟩) 0 rfl rfl rfl hl.1 rfl (Nat.le_of_ble_eq_true rfl) dL_law_385 hf (fun H locs hP hD hS => ?_)
  have hP := jw_rotP hP
  have hD := jw_rotD hD
  refine lv_icmp_eq (tgt := 775) hx hb dL_law_388 (by decide) (fun _ => ?_) (fun q => absurd rfl q)
  refine W.widen hw1 hw2 ?_
  exact kk _ _ _ H locs ls ⟨pl, to, ks, os, cs, ys, cy, oy, yr, ns, cn, on, nr, rd, sy, sc, so, syr, sn_, sd, son, snr, srd, ad, len, st, tx, tln, z, past, sl, isv, pm, pd, ty, d1_n, d2_n, d3_n, d4_n, d5_n, d6_n, d7_n, d8_n, d9_n, d10_n, ords, a1, a2, a3, _, _, _, _, x0, x1, rfl, rfl, rfl, hC, hPR, hz1, hz2, hSR⟩ hP hD hS hl
set_option maxHeartbeats 4000000 in
set_option maxRecDepth 100000 in
theorem st_ofFact {p : Program} {l : Launch} {e : Env} {s : State} {m : MethodId} {below : List Frame} {meth : Method} {c : Code} {b L : Nat} {xs : Nat → Int32} {dC : Nat → ClassId} {dI : Nat → Nat → Nat} {ck : Nat → ClassId} {AD : Nat → Nat} {Q : State → Prop} {i k : Nat} {w5 w6 tl : va_W} {H : Heap} {locs : List Loc} {ls : Array Slot} (X : LC p s m c b L xs) (hK : K2 (dC, dI) ck s) (hi : i + 6 ≤ L) (hk : k ≤ 512) (hI : INV ck AD w5 w6 tl) (hP : va_P (dC, dI) vwCl (w5 ++ (w6 ++ tl)) H) (hD : va_D (fun q => s.heap.size ≤ q) (w5 ++ (w6 ++ tl))) (hS : va_S (fun q => s.heap.size ≤ q) s.heap H locs) (hl : lv_has ls 4 (LL b AD i)) (kk : NX p l e s m below meth c b (dC, dI) ck AD Q i k) : W p l e room_1 s m #[Value.ref b] below meth c H locs (CE k) (CS k) Q (F0 m 393 ls []) := by
  obtain ⟨pl, to, ks, os, cs, ys, cy, oy, yr, ns, cn, on, nr, rd, sy, sc, so, syr, sn_, sd, son, snr, srd, ad, len, st, tx, tln, z, past, sl, isv, pm, pd, ty, b1, b2, b3, b4, b5, b6, b7, b8, b9, b10, ords, a1, a2, a3, a, mm, L9, l9, x0, x1, rfl, rfl, rfl, hC, hPR, hz1, hz2, hSR⟩ := hI
  obtain ⟨hx, hb, hml, hown, hts, hX, hbl, hL⟩ := X
  have hA : ∀ q : Nat, s.heap.size ≤ q → (fun q : Nat => s.heap.size ≤ q) q := fun _ h => h
  have hbA : ¬ (fun q : Nat => s.heap.size ≤ q) b := Nat.not_le.mpr hbl
  have hf : CE k ≤ room_1.cells ∧ CS k ≤ room_1.slots := by
    unfold CE CS
    exact ⟨show _ ≤ 600000 by omega, show _ ≤ 7302250 by omega⟩
  have hw1 : CE k ≤ CE (k + 1) := by unfold CE; omega
  have hw2 : CS k ≤ CS (k + 1) := by unfold CS; omega
  have hin1 : vp_in (nI i + 1) L := lwin 1 hL hi (by decide)
  have hin2 : vp_in (nI i + 2) L := lwin 2 hL hi (by decide)
  obtain ⟨r_n, q5, q6⟩ := ofFact_ok hC.1 (xs (nI i + 1).toNatClampNeg) (xs (nI i + 2).toNatClampNeg)
  refine lv_aload_n hx hb dL_law_393 rfl (lv_at hl 1 rfl) ?_
  refine lv_aload_n hx hb dL_law_394 rfl (lv_at hl 0 rfl) ?_
  refine lv_iload_n hx hb dL_law_395 rfl (lv_at hl 3 rfl) ?_
  refine lv_iconst (v := (1 : Int32)) hx hb dL_law_396 rfl ?_
  refine lv_iadd hx hb dL_law_397 ?_
  refine va_sld hx hb hX hbl hbA hS hin1 dL_law_398 ?_
  refine lv_aload_n hx hb dL_law_399 rfl (lv_at hl 0 rfl) ?_
  refine lv_iload_n hx hb dL_law_400 rfl (lv_at hl 3 rfl) ?_
  refine lv_iconst (v := (2 : Int32)) hx hb dL_law_401 rfl ?_
  refine lv_iadd hx hb dL_law_402 ?_
  refine va_sld hx hb hX hbl hbA hS hin2 dL_law_403 ?_
  refine cRV (As := [.int (xs (nI i + 1).toNatClampNeg), .int (xs (nI i + 2).toNatClampNeg)]) (rest := []) (wc := [(AD 0, .inr (5, [.ref (AD 1), .ref (AD 5), .ref (AD 14), .ref (AD 23), .ref (AD 27), .ref (AD 25)]))] ++ wX0 ck (AD 1) (AD 2) (AD 3) (AD 4) pl to ks os cs) ⟨hx, hb, hml, hown, hts⟩ hK.1 hP [0, 1, 2, 3, 4] rfl (c_X5_ofFact l dC dI ck (AD 0) (AD 1) (AD 2) (AD 3) (AD 4) (AD 5) (AD 14) (AD 23) (AD 27) (AD 25) (AD 1) (AD 2) (AD 3) (AD 4) pl to ks os cs (xs (nI i + 1).toNatClampNeg) (xs (nI i + 2).toNatClampNeg) r_n q5) (cwV 2 hts gL_law_X5_ofFact rfl rfl rfl (by decide +kernel) ⟨(Nat.le_of_ble_eq_true rfl), (Nat.le_of_ble_eq_true rfl)⟩) 0 rfl rfl rfl hl.1 rfl (Nat.le_of_ble_eq_true rfl) dL_law_404 hf ?_
  refine lv_aload_n hx hb dL_law_407 rfl (lv_at hl 2 rfl) ?_
  refine lv_aload_n hx hb dL_law_408 rfl (lv_at hl 0 rfl) ?_
  refine lv_iload_n hx hb dL_law_409 rfl (lv_at hl 3 rfl) ?_
  refine lv_iconst (v := (1 : Int32)) hx hb dL_law_410 rfl ?_
  refine lv_iadd hx hb dL_law_411 ?_
  refine va_sld hx hb hX hbl hbA hS hin1 dL_law_412 ?_
  refine lv_aload_n hx hb dL_law_413 rfl (lv_at hl 0 rfl) ?_
  refine lv_iload_n hx hb dL_law_414 rfl (lv_at hl 3 rfl) ?_
  refine lv_iconst (v := (2 : Int32)) hx hb dL_law_415 rfl ?_
  refine lv_iadd hx hb dL_law_416 ?_
  refine va_sld hx hb hX hbl hbA hS hin2 dL_law_417 ?_
  have hP2 := jw_rotP hP
  refine cRV (As := [.int (xs (nI i + 1).toNatClampNeg), .int (xs (nI i + 2).toNatClampNeg)]) (rest := [.int r_n]) (wc := wX6 ck (AD 28) (AD 29) (AD 30) (AD 31) (AD 32) (AD 33) (AD 34) (AD 35) (AD 36) (AD 37) (AD 38) (AD 39) (AD 40) (AD 41) (AD 42) z past sl isv pm pd ty b1 b2 b3 b4 b5 b6 b7 b8 b9 b10 ords a1 a2 a3) ⟨hx, hb, hml, hown, hts⟩ hK.1 hP2 [0, 1, 2, 3, 4, 5, 6, 7, 8, 9, 10, 11, 12, 13, 14] rfl (c_X6_ofFact l dC dI ck (AD 28) (AD 29) (AD 30) (AD 31) (AD 32) (AD 33) (AD 34) (AD 35) (AD 36) (AD 37) (AD 38) (AD 39) (AD 40) (AD 41) (AD 42) z past sl isv pm pd ty b1 b2 b3 b4 b5 b6 b7 b8 b9 b10 ords a1 a2 a3 (xs (nI i + 1).toNatClampNeg) (xs (nI i + 2).toNatClampNeg) r_n q6) (cwV 2 hts gL_law_X6_ofFact rfl rfl rfl (by decide +kernel) ⟨(Nat.le_of_ble_eq_true rfl), (Nat.le_of_ble_eq_true rfl)⟩) 0 rfl rfl rfl hl.1 rfl (Nat.le_of_ble_eq_true rfl) dL_law_418 hf ?_
  refine lv_icmp_eq (tgt := 775) hx hb dL_law_421 (by decide) (fun _ => ?_) (fun q => absurd rfl q)
  refine W.widen hw1 hw2 ?_
  exact kk _ _ _ H locs ls ⟨pl, to, ks, os, cs, ys, cy, oy, yr, ns, cn, on, nr, rd, sy, sc, so, syr, sn_, sd, son, snr, srd, ad, len, st, tx, tln, z, past, sl, isv, pm, pd, ty, b1, b2, b3, b4, b5, b6, b7, b8, b9, b10, ords, a1, a2, a3, _, _, _, _, x0, x1, rfl, rfl, rfl, hC, hPR, hz1, hz2, hSR⟩ hP hD hS hl
