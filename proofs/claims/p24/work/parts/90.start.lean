set_option maxHeartbeats 4000000 in
set_option maxRecDepth 100000 in
/-- THE LAW, from its entry -/
theorem whole_start {p : Program} {e : Env} {s : State} {m : MethodId} {below : List Frame} {meth : Method} {c : Code} (l : Launch) (hflags : l.flags = flags0) {b L : Nat} {xs : Nat → Int32} (hL : L ≤ 260) (C0 : lw_At p s m meth c b L xs) : W p l e room_1 s m #[Value.ref b] below meth c s.heap [] 0 0 (lw_Z below #[Value.ref b] s) (entryFrame m ([Value.ref b] : List Value).toArray 14) := by
  obtain ⟨hx, hb, hr, hml, hown, hts0, hX, hbl, hlocks, hgv⟩ := id C0
  obtain ⟨dC, dI, ck, hK⟩ := law_K2 hts0
  have hts : ∀ w ∈ wsL_law, w.before #[Value.ref b] s = true := fun w h => hts0 w (wsL_law_in w h)
  have hown : s.vm.findClass RL = some m.cls := hown
  have hA : ∀ q : Nat, s.heap.size ≤ q → (fun q : Nat => s.heap.size ≤ q) q := fun _ h => h
  have hbA : ¬ (fun q : Nat => s.heap.size ≤ q) b := Nat.not_le.mpr hbl
  have hS : va_S (fun q : Nat => s.heap.size ≤ q) s.heap s.heap [] := va_S.rf
  have hP : va_P (dC, dI) vwCl [] s.heap := fun k q h => by simp at h
  have hD : va_D (fun q : Nat => s.heap.size ≤ q) [] := ⟨fun i j p q h => by simp at h, fun k q h => by simp at h⟩
  have hl := lv_entry ([.ref b]) (n := 14) (Nat.le_of_ble_eq_true rfl)
  rw [lg_entry_eq]
  generalize (lg_sl ([.ref b]) ++ List.replicate (14 - (lg_sl ([.ref b])).length) Slot.unset).toArray = ls at hl ⊢
  have hl : lv_has ls 14 [(0, .ref b)] := hl
  refine va_new (ci := 5) (fs := [.null, .null, .null, .null, .null, .null]) (C := RX5) (T := TX5) (N := 6) hx hb hts inlX5 tyX5 tyX5_ok hown (hts (.classLink RL 28 RX5) (List.mem_of_getElem? (i := 0) rfl)) (hts (.instantiable RX5 6) (List.mem_of_getElem? (i := 1) rfl)) (hts (.initialized RX5) (List.mem_of_getElem? (i := 2) rfl)) hK.1.1 hP hD hS hA rfl (fun j hj => by rcases (show j = 0 ∨ j = 1 ∨ j = 2 ∨ j = 3 ∨ j = 4 ∨ j = 5 by omega) with rfl | rfl | rfl | rfl | rfl | rfl <;> rfl) (Nat.le_of_ble_eq_true rfl) (Nat.le_of_ble_eq_true rfl) dL_law_0 (fun q5 H hP hD hS => ?_)
  have hP : va_P (dC, dI) vwCl [(q5, .inr (5, [.null, .null, .null, .null, .null, .null]))] H := hP
  have hD : va_D (fun q : Nat => s.heap.size ≤ q) [(q5, .inr (5, [.null, .null, .null, .null, .null, .null]))] := hD
  refine lv_dup hx hb dL_law_3 rfl ?_
  refine cNI (As := []) (rest := [.ref q5]) (wc := [(q5, .inr (5, [.null, .null, .null, .null, .null, .null]))]) (wr := []) ⟨hx, hb, hml, hown, hts⟩ hK hP hD hS hA [0] [] rfl (by decide) rfl (by decide) (by decide) (c_X5_init l dC dI ck q5) (cwI 0 hts gL_law_X5_init rfl rfl rfl (hts (.initialized RX5) (List.mem_of_getElem? (i := 2) rfl)) (hts (.methodLink RL 71 yX5_init) (List.mem_of_getElem? (i := 4) rfl)) (hts (.instanceMethod yX5_init) (List.mem_of_getElem? (i := 5) rfl)) rfl (by decide +kernel) ⟨(Nat.le_of_ble_eq_true rfl), (Nat.le_of_ble_eq_true rfl)⟩) rfl hl.1 rfl (Nat.le_of_ble_eq_true rfl) dL_law_4 ⟨(Nat.le_of_ble_eq_true rfl), (Nat.le_of_ble_eq_true rfl)⟩ (fun w1 H locs hw1 hP hD hS => ?_)
  obtain ⟨f, f1, f2, f3, m0, m1, m2, m3, m4, m5, m6, m7, m8, s0, s1, s2, s3, s4, s5, s6, s7, s8, hh, hs9, p0, p1, sl0, ad, rfl⟩ := hw1
  have hP : va_P (dC, dI) vwCl (w5 ck q5 f f1 f2 f3 m0 m1 m2 m3 m4 m5 m6 m7 m8 s0 s1 s2 s3 s4 s5 s6 s7 s8 hh hs9 p0 p1 sl0 3 0 zz zz zz zz zz zz 1 zz zz zz 1 0 zz zz zz 1 zz zz zz 1 0 ad 0 (fun _ => (3, 0, zz, zz, zz)) zz 0 ++ [(sl0, .inl (ck 4, 2, .inr (.inr (.inr (.inr (fun _ => none))))))]) H := hP
  have hD : va_D (fun q : Nat => s.heap.size ≤ q) (w5 ck q5 f f1 f2 f3 m0 m1 m2 m3 m4 m5 m6 m7 m8 s0 s1 s2 s3 s4 s5 s6 s7 s8 hh hs9 p0 p1 sl0 3 0 zz zz zz zz zz zz 1 zz zz zz 1 0 zz zz zz 1 zz zz zz 1 0 ad 0 (fun _ => (3, 0, zz, zz, zz)) zz 0 ++ [(sl0, .inl (ck 4, 2, .inr (.inr (.inr (.inr (fun _ => none))))))]) := hD
  refine lv_astore_n (x := q5) (lv' := [(1, .ref q5), (0, .ref b)]) hx hb dL_law_7 rfl hl (by decide) rfl (fun ls hl => ?_)
  refine lv_bipush (v := (19 : Int32)) hx hb dL_law_8 rfl ?_
  refine va_newaC (atype := .int) (ty := .int) (N' := 19) (a0 := (19, .inl zz)) hx hb (hts (.arrayClass .int) (List.mem_of_getElem? (i := 3) rfl)) rfl hK.1 hP hD hS hA 0 rfl (fun C h => by cases h) (fun cA => rfl) (by decide) rfl (Nat.le_of_ble_eq_true rfl) (Nat.le_of_ble_eq_true rfl) (Nat.le_of_ble_eq_true rfl) dL_law_10 (fun qd H hP hD hS => ?_)
  refine lv_astore_n (x := qd) (lv' := [(2, .ref qd), (1, .ref q5), (0, .ref b)]) hx hb dL_law_12 rfl hl (by decide) rfl (fun ls hl => ?_)
  refine lv_iconst (v := (2 : Int32)) hx hb dL_law_13 rfl ?_
  refine lv_aload_n hx hb dL_law_14 rfl (lv_at hl 2 rfl) ?_
  refine lv_iconst (v := (0 : Int32)) hx hb dL_law_15 rfl ?_
  obtain ⟨r0, e0⟩ := cell_ok hL xs (i := 0) (by decide)
  refine cRSX (L := L) (xs := xs) (As := [.ref b, .int (0 : Int32)]) (rest := [.int (2 : Int32)]) ⟨hx, hb, hml, hown, hts⟩ hK.1 hX hbl hbA hS (c_L_cell l dC dI ck b L xs 0 r0 e0) (va_cwS 2 hts gL_law_L_cell rfl rfl rfl (by decide +kernel) ⟨(Nat.le_of_ble_eq_true rfl), (Nat.le_of_ble_eq_true rfl)⟩) rfl hl.1 rfl (Nat.le_of_ble_eq_true rfl) dL_law_16 ⟨(Nat.le_of_ble_eq_true rfl), (Nat.le_of_ble_eq_true rfl)⟩ ?_
  refine lv_iconst (v := (4 : Int32)) hx hb dL_law_19 rfl ?_
  obtain ⟨k0, hk0, ek0⟩ := low_ok r0 (n := 4) (by decide) (by decide)
  refine cRS (As := [.int r0, .int (4 : Int32)]) (rest := [.int (2 : Int32)]) (wc := []) ⟨hx, hb, hml, hown, hts⟩ hK.1 hP [] rfl (c_L_low l dC dI ck r0 4 (nI k0) ek0) (va_cwS 2 hts gL_law_L_low rfl rfl rfl (by decide +kernel) ⟨(Nat.le_of_ble_eq_true rfl), (Nat.le_of_ble_eq_true rfl)⟩) rfl hl.1 rfl (Nat.le_of_ble_eq_true rfl) dL_law_20 ⟨(Nat.le_of_ble_eq_true rfl), (Nat.le_of_ble_eq_true rfl)⟩ ?_
  refine lv_iadd hx hb dL_law_23 ?_
  rw [show (2 : Int32) + nI k0 = nI (2 + k0) from nI_add 2 k0]
  refine lv_istore_n (lv' := [(3, .int (nI (2 + k0))), (2, .ref qd), (1, .ref q5), (0, .ref b)]) hx hb dL_law_24 rfl hl (by decide) rfl (fun ls hl => ?_)
  refine lv_aload_n hx hb dL_law_25 rfl (lv_at hl 1 rfl) ?_
  refine lv_aload_n hx hb dL_law_26 rfl (lv_at hl 3 rfl) ?_
  refine lv_iload_n hx hb dL_law_27 rfl (lv_at hl 0 rfl) ?_
  obtain ⟨⟨o0, o1⟩, ed, δ, hdr, hgd⟩ := deal_ok (p := 2 + k0) (by omega) (by omega) hL xs zz
  have hqb : ¬ qd = b := fun q => by have h1 := hD.2 52 _ rfl; rw [← q] at hbl; exact absurd hbl (Nat.not_lt.mpr h1)
  refine cSNX (L := L) (xs := xs) (As := [.ref qd, .ref b, .int (nI (2 + k0))]) (rest := []) (wc := [(qd, .inl (ck 0, 19, .inl zz))]) (wr := w5 ck q5 f f1 f2 f3 m0 m1 m2 m3 m4 m5 m6 m7 m8 s0 s1 s2 s3 s4 s5 s6 s7 s8 hh hs9 p0 p1 sl0 3 0 zz zz zz zz zz zz 1 zz zz zz 1 0 zz zz zz 1 zz zz zz 1 0 ad 0 (fun _ => (3, 0, zz, zz, zz)) zz 0 ++ [(sl0, .inl (ck 4, 2, .inr (.inr (.inr (.inr (fun _ => none))))))]) ⟨hx, hb, hml, hown, hts⟩ hK.1 hX hbl hbA hP hD hS hA [52] [0, 1, 2, 3, 4, 5, 6, 7, 8, 9, 10, 11, 12, 13, 14, 15, 16, 17, 18, 19, 20, 21, 22, 23, 24, 25, 26, 27, 28, 29, 30, 31, 32, 33, 34, 35, 36, 37, 38, 39, 40, 41, 42, 43, 44, 45, 46, 47, 48, 49, 50, 51] rfl (by decide) rfl (by decide) (by decide) (c_L_deal l dC dI ck qd b zz L xs (nI (2 + k0)) o0 o1 hqb ed) (va_cwS 3 hts gL_law_L_deal rfl rfl rfl (by decide +kernel) ⟨(Nat.le_of_ble_eq_true rfl), (Nat.le_of_ble_eq_true rfl)⟩) rfl hl.1 rfl (Nat.le_of_ble_eq_true rfl) dL_law_28 ⟨(Nat.le_of_ble_eq_true rfl), (Nat.le_of_ble_eq_true rfl)⟩ (fun w1 H locs hw1 hP hD hS => ?_)
  obtain ⟨q9, rfl⟩ := hw1
  have hP : va_P (dC, dI) vwCl ([(q5, .inr (5, [.ref f, .ref m0, .ref s0, .ref hh, .ref sl0, .ref p0]))] ++ wX0 ck f f1 f2 f3 3 0 zz zz zz ++ wX2 ck m0 m1 m2 m3 m4 m5 m6 m7 m8 zz zz zz 1 zz zz zz 1 0 ++ wX2 ck s0 s1 s2 s3 s4 s5 s6 s7 s8 zz zz zz 1 zz zz zz 1 0 ++ wX1 ck hh hs9 ad 0 (fun _ => (3, 0, zz, zz, zz)) ++ wX3 ck p0 p1 zz 0 ++ [(qd, .inl (ck 0, 19, .inl o0))]) H := hP.subm [0, 1, 2, 3, 4, 5, 6, 7, 8, 9, 10, 11, 12, 13, 14, 15, 16, 17, 18, 19, 20, 21, 22, 23, 24, 25, 26, 27, 28, 29, 30, 31, 32, 33, 34, 35, 36, 37, 38, 39, 40, 41, 42, 43, 44, 45, 46, 47, 48, 49, 50, 52] rfl
  have hD : va_D (fun q : Nat => s.heap.size ≤ q) ([(q5, .inr (5, [.ref f, .ref m0, .ref s0, .ref hh, .ref sl0, .ref p0]))] ++ wX0 ck f f1 f2 f3 3 0 zz zz zz ++ wX2 ck m0 m1 m2 m3 m4 m5 m6 m7 m8 zz zz zz 1 zz zz zz 1 0 ++ wX2 ck s0 s1 s2 s3 s4 s5 s6 s7 s8 zz zz zz 1 zz zz zz 1 0 ++ wX1 ck hh hs9 ad 0 (fun _ => (3, 0, zz, zz, zz)) ++ wX3 ck p0 p1 zz 0 ++ [(qd, .inl (ck 0, 19, .inl o0))]) := hD.sub [0, 1, 2, 3, 4, 5, 6, 7, 8, 9, 10, 11, 12, 13, 14, 15, 16, 17, 18, 19, 20, 21, 22, 23, 24, 25, 26, 27, 28, 29, 30, 31, 32, 33, 34, 35, 36, 37, 38, 39, 40, 41, 42, 43, 44, 45, 46, 47, 48, 49, 50, 52] (by decide) rfl
  refine W.widen (k := 600000) (n := 7302250) (Nat.le_of_ble_eq_true rfl) (Nat.le_of_ble_eq_true rfl) ?_
  have H0 : CS (shNew 3) 3 0 zz zz zz zz zz zz zz zz zz 0 0 := ⟨new_wf, by decide, ⟨rfl, rfl, fun i h => absurd (show i < 0 from h) (Nat.not_lt_zero i)⟩, new_mr, ⟨0, by decide, rfl⟩⟩
  exact law_body q5 f f1 f2 f3 m0 m1 m2 m3 m4 m5 m6 m7 m8 s0 s1 s2 s3 s4 s5 s6 s7 s8 hh hs9 sl0 p0 p1 f f1 f2 f3 m0 m1 m2 m3 m4 m5 m6 m7 m8 s0 s1 s2 s3 s4 s5 s6 s7 s8 hh hs9 p0 p1 qd b 3 0 zz zz zz zz zz zz 1 zz zz zz 1 0 zz zz zz 1 zz zz zz 1 0 ad 0 (fun _ => (3, 0, zz, zz, zz)) zz 0 o0 L xs (nI (2 + k0)) dC dI ck hx hb hr hml hts hown hlocks hK.1 hX hbl (fun q : Nat => s.heap.size ≤ q) hA (fun _ h => h) (law_ok (p := 2 + k0) (by omega) (by omega) hgd hdr hL xs H0 rfl new_zc new_zc 1 1 zz zz zz zz 1 1 0 ad (fun _ => (3, 0, zz, zz, zz)) 0) H locs hP hD hS ls hl
