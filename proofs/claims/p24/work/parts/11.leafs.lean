noncomputable def f_X0_beginFor (c_players : Int32) (c_told : Int32) (v1 : Int32) : Option (Int32 × Int32) :=
  some (v1, (0 : Int32))
set_option maxHeartbeats 4000000 in
set_option maxRecDepth 100000 in
theorem c_X0_beginFor (l : Launch) (dC : Nat → ClassId) (dI : Nat → Nat → Nat) (ck : Nat → ClassId) (a0 a0_kinds a0_owners a0_cards : Nat) (c_players : Int32) (c_told : Int32) (c_kinds : Nat → Int32) (c_owners : Nat → Int32) (c_cards : Nat → Int32) (v1 : Int32) (o0 : Int32) (o1 : Int32) (h : f_X0_beginFor c_players c_told v1 = some (o0, o1)) : MV l yX0_beginFor wsX0_beginFor ({ frames := 0, cells := 0, slots := 0, locals := 0 }) [.ref a0, .int v1] (dC, dI) ck (wX0 ck a0 a0_kinds a0_owners a0_cards c_players c_told c_kinds c_owners c_cards) (wX0 ck a0 a0_kinds a0_owners a0_cards o0 o1 c_kinds c_owners c_cards) := by
  refine MV.ofW (cc := cX0_beginFor) (maxL := 2) (ret := none) (by decide +kernel) rfl (Nat.le_of_ble_eq_true rfl) ?_
  intro p e s m below meth c hx hb hr hml hts hown hlk hK hP A hA hD ls hl
  have hS : va_S A s.heap s.heap [] := va_S.rf
  have hown : s.vm.findClass RX0 = some m.cls := hown
  have hl : lv_has ls 2 [(0, .ref a0), (1, .int v1)] := hl
  have iu_X0 : ∀ w ∈ u_ws RX0 TX0 5, w ∈ wsX0_beginFor := fun w h => List.mem_cons_of_mem _ (List.mem_append_right _ h)
  unfold f_X0_beginFor at h
  refine lv_aload_n hx hb dX0_beginFor_0 rfl (lv_at hl 0 rfl) ?_
  refine lv_iload_n hx hb dX0_beginFor_1 rfl (lv_at hl 1 rfl) ?_
  refine va_put (ci := 0) (v := .int v1) (ty := .int) (C := RX0) (T := TX0) (N := 5) hx hb hts iu_X0 tyX0 tyX0_ok nmX0 hown hK.1 hP hD hS 0 rfl rfl 0 (by decide) (hts (.fieldLink RX0 9 "SheetMarks$Facts" "players" "I") (List.mem_of_getElem? (i := 1) rfl)) (fun _ h9 => h9) rfl (by decide +kernel) rfl rfl (Nat.le_of_ble_eq_true rfl) dX0_beginFor_2 (fun H locs hP hD hS => ?_)
  have hP : va_P (dC, dI) vwCl (wX0 ck a0 a0_kinds a0_owners a0_cards v1 c_told c_kinds c_owners c_cards) H := hP
  have hD : va_D A (wX0 ck a0 a0_kinds a0_owners a0_cards v1 c_told c_kinds c_owners c_cards) := hD
  refine lv_aload_n hx hb dX0_beginFor_5 rfl (lv_at hl 0 rfl) ?_
  refine lv_iconst (v := (0 : Int32)) hx hb dX0_beginFor_6 rfl ?_
  refine va_put (ci := 0) (v := .int (0 : Int32)) (ty := .int) (C := RX0) (T := TX0) (N := 5) hx hb hts iu_X0 tyX0 tyX0_ok nmX0 hown hK.1 hP hD hS 0 rfl rfl 1 (by decide) (hts (.fieldLink RX0 25 "SheetMarks$Facts" "told" "I") (List.mem_of_getElem? (i := 2) rfl)) (fun _ h9 => h9) rfl (by decide +kernel) rfl rfl (Nat.le_of_ble_eq_true rfl) dX0_beginFor_7 (fun H locs hP hD hS => ?_)
  have hP : va_P (dC, dI) vwCl (wX0 ck a0 a0_kinds a0_owners a0_cards v1 (0 : Int32) c_kinds c_owners c_cards) H := hP
  have hD : va_D A (wX0 ck a0 a0_kinds a0_owners a0_cards v1 (0 : Int32) c_kinds c_owners c_cards) := hD
  cases h
  exact eMv hx hb hr hlk hP hD hS dX0_beginFor_10
noncomputable def f_X0_copy (c_players : Int32) (c_told : Int32) (c_kinds : Nat → Int32) (c_owners : Nat → Int32) (c_cards : Nat → Int32) (p1_players : Int32) (p1_told : Int32) (p1_kinds : Nat → Int32) (p1_owners : Nat → Int32) (p1_cards : Nat → Int32) : Option (Int32 × Int32 × (Nat → Int32) × (Nat → Int32) × (Nat → Int32)) :=
  lt' (va_cpy p1_kinds c_kinds 0 0 41) (fun c_kinds_31 : Nat → Int32 => lt' (va_cpy p1_owners c_owners 0 0 41) (fun c_owners_49 : Nat → Int32 => lt' (va_cpy p1_cards c_cards 0 0 41) (fun c_cards_67 : Nat → Int32 => some (p1_players, p1_told, c_kinds_31, c_owners_49, c_cards_67))))
set_option maxHeartbeats 4000000 in
set_option maxRecDepth 100000 in
theorem c_X0_copy (l : Launch) (dC : Nat → ClassId) (dI : Nat → Nat → Nat) (ck : Nat → ClassId) (a0 a0_kinds a0_owners a0_cards b1 b1_kinds b1_owners b1_cards : Nat) (c_players : Int32) (c_told : Int32) (c_kinds : Nat → Int32) (c_owners : Nat → Int32) (c_cards : Nat → Int32) (p1_players : Int32) (p1_told : Int32) (p1_kinds : Nat → Int32) (p1_owners : Nat → Int32) (p1_cards : Nat → Int32) (o0 : Int32) (o1 : Int32) (o2 : Nat → Int32) (o3 : Nat → Int32) (o4 : Nat → Int32) (h : f_X0_copy c_players c_told c_kinds c_owners c_cards p1_players p1_told p1_kinds p1_owners p1_cards = some (o0, o1, o2, o3, o4)) : MV l yX0_copy wsX0_copy ({ frames := 1, cells := 0, slots := 0, locals := 26 }) [.ref a0, .ref b1] (dC, dI) ck (wX0 ck a0 a0_kinds a0_owners a0_cards c_players c_told c_kinds c_owners c_cards ++ wX0 ck b1 b1_kinds b1_owners b1_cards p1_players p1_told p1_kinds p1_owners p1_cards) (wX0 ck a0 a0_kinds a0_owners a0_cards o0 o1 o2 o3 o4 ++ wX0 ck b1 b1_kinds b1_owners b1_cards p1_players p1_told p1_kinds p1_owners p1_cards) := by
  refine MV.ofW (cc := cX0_copy) (maxL := 2) (ret := none) (by decide +kernel) rfl (Nat.le_of_ble_eq_true rfl) ?_
  intro p e s m below meth c hx hb hr hml hts hown hlk hK hP A hA hD ls hl
  have hS : va_S A s.heap s.heap [] := va_S.rf
  have hown : s.vm.findClass RX0 = some m.cls := hown
  have hl : lv_has ls 2 [(0, .ref a0), (1, .ref b1)] := hl
  have iu_X0 : ∀ w ∈ u_ws RX0 TX0 5, w ∈ wsX0_copy := fun w h => List.mem_cons_of_mem _ (List.mem_append_right _ h)
  unfold f_X0_copy at h
  refine lv_aload_n hx hb dX0_copy_0 rfl (lv_at hl 0 rfl) ?_
  refine lv_aload_n hx hb dX0_copy_1 rfl (lv_at hl 1 rfl) ?_
  refine va_get (ci := 0) (v := .int p1_players) (C := RX0) (T := TX0) (N := 5) hx hb hts iu_X0 hown hK.1 hP 4 rfl rfl 0 (by decide) (hts (.fieldLink RX0 9 "SheetMarks$Facts" "players" "I") (List.mem_of_getElem? (i := 1) rfl)) (fun _ h9 => h9) rfl dX0_copy_2 ?_
  refine va_put (ci := 0) (v := .int p1_players) (ty := .int) (C := RX0) (T := TX0) (N := 5) hx hb hts iu_X0 tyX0 tyX0_ok nmX0 hown hK.1 hP hD hS 0 rfl rfl 0 (by decide) (hts (.fieldLink RX0 9 "SheetMarks$Facts" "players" "I") (List.mem_of_getElem? (i := 1) rfl)) (fun _ h9 => h9) rfl (by decide +kernel) rfl rfl (Nat.le_of_ble_eq_true rfl) dX0_copy_5 (fun H locs hP hD hS => ?_)
  have hP : va_P (dC, dI) vwCl (wX0 ck a0 a0_kinds a0_owners a0_cards p1_players c_told c_kinds c_owners c_cards ++ wX0 ck b1 b1_kinds b1_owners b1_cards p1_players p1_told p1_kinds p1_owners p1_cards) H := hP
  have hD : va_D A (wX0 ck a0 a0_kinds a0_owners a0_cards p1_players c_told c_kinds c_owners c_cards ++ wX0 ck b1 b1_kinds b1_owners b1_cards p1_players p1_told p1_kinds p1_owners p1_cards) := hD
  refine lv_aload_n hx hb dX0_copy_8 rfl (lv_at hl 0 rfl) ?_
  refine lv_aload_n hx hb dX0_copy_9 rfl (lv_at hl 1 rfl) ?_
  refine va_get (ci := 0) (v := .int p1_told) (C := RX0) (T := TX0) (N := 5) hx hb hts iu_X0 hown hK.1 hP 4 rfl rfl 1 (by decide) (hts (.fieldLink RX0 25 "SheetMarks$Facts" "told" "I") (List.mem_of_getElem? (i := 2) rfl)) (fun _ h9 => h9) rfl dX0_copy_10 ?_
  refine va_put (ci := 0) (v := .int p1_told) (ty := .int) (C := RX0) (T := TX0) (N := 5) hx hb hts iu_X0 tyX0 tyX0_ok nmX0 hown hK.1 hP hD hS 0 rfl rfl 1 (by decide) (hts (.fieldLink RX0 25 "SheetMarks$Facts" "told" "I") (List.mem_of_getElem? (i := 2) rfl)) (fun _ h9 => h9) rfl (by decide +kernel) rfl rfl (Nat.le_of_ble_eq_true rfl) dX0_copy_13 (fun H locs hP hD hS => ?_)
  have hP : va_P (dC, dI) vwCl (wX0 ck a0 a0_kinds a0_owners a0_cards p1_players p1_told c_kinds c_owners c_cards ++ wX0 ck b1 b1_kinds b1_owners b1_cards p1_players p1_told p1_kinds p1_owners p1_cards) H := hP
  have hD : va_D A (wX0 ck a0 a0_kinds a0_owners a0_cards p1_players p1_told c_kinds c_owners c_cards ++ wX0 ck b1 b1_kinds b1_owners b1_cards p1_players p1_told p1_kinds p1_owners p1_cards) := hD
  refine lv_aload_n hx hb dX0_copy_16 rfl (lv_at hl 1 rfl) ?_
  refine va_get (ci := 0) (v := .ref b1_kinds) (C := RX0) (T := TX0) (N := 5) hx hb hts iu_X0 hown hK.1 hP 4 rfl rfl 2 (by decide) (hts (.fieldLink RX0 15 "SheetMarks$Facts" "kinds" "[I") (List.mem_of_getElem? (i := 3) rfl)) (fun _ h9 => h9) rfl dX0_copy_17 ?_
  refine lv_iconst (v := (0 : Int32)) hx hb dX0_copy_20 rfl ?_
  refine lv_aload_n hx hb dX0_copy_21 rfl (lv_at hl 0 rfl) ?_
  refine va_get (ci := 0) (v := .ref a0_kinds) (C := RX0) (T := TX0) (N := 5) hx hb hts iu_X0 hown hK.1 hP 0 rfl rfl 2 (by decide) (hts (.fieldLink RX0 15 "SheetMarks$Facts" "kinds" "[I") (List.mem_of_getElem? (i := 3) rfl)) (fun _ h9 => h9) rfl dX0_copy_22 ?_
  refine lv_iconst (v := (0 : Int32)) hx hb dX0_copy_25 rfl ?_
  refine lv_aload_n hx hb dX0_copy_26 rfl (lv_at hl 0 rfl) ?_
  refine va_get (ci := 0) (v := .ref a0_kinds) (C := RX0) (T := TX0) (N := 5) hx hb hts iu_X0 hown hK.1 hP 0 rfl rfl 2 (by decide) (hts (.fieldLink RX0 15 "SheetMarks$Facts" "kinds" "[I") (List.mem_of_getElem? (i := 3) rfl)) (fun _ h9 => h9) rfl dX0_copy_27 ?_
  refine va_alen (v := (41 : Int32)) hx hb hK.1 hP 1 0 rfl rfl rfl dX0_copy_30 ?_
  refine va_copyi hx hb (hml.trans hl.1.symm) hown (hts (.methodLink RX0 28 arraycopyName) (List.mem_of_getElem? (i := 4) rfl)) (hts (.native arraycopyName) (List.mem_of_getElem? (i := 5) rfl)) (hts (.static arraycopyName) (List.mem_of_getElem? (i := 6) rfl)) (hts (.initialized "java/lang/System") (List.mem_of_getElem? (i := 7) rfl)) hK.1 hP hD hS 5 1 0 0 rfl rfl rfl rfl rfl (by decide) (by decide) (by decide) (by decide) (by decide) (fun _ _ => rfl) (Nat.le_of_ble_eq_true rfl) (Nat.le_of_ble_eq_true rfl) dX0_copy_31 (fun H locs hP hD hS => ?_)
  obtain ⟨c_kinds_31, e_31⟩ : ∃ y : Nat → Int32, y = (va_cpy p1_kinds c_kinds 0 0 41) := ⟨_, rfl⟩
  have h := lt'_e e_31 h
  have hP : va_P (dC, dI) vwCl (wX0 ck a0 a0_kinds a0_owners a0_cards p1_players p1_told c_kinds_31 c_owners c_cards ++ wX0 ck b1 b1_kinds b1_owners b1_cards p1_players p1_told p1_kinds p1_owners p1_cards) H := by subst e_31; exact hP
  have hD : va_D A (wX0 ck a0 a0_kinds a0_owners a0_cards p1_players p1_told c_kinds_31 c_owners c_cards ++ wX0 ck b1 b1_kinds b1_owners b1_cards p1_players p1_told p1_kinds p1_owners p1_cards) := by subst e_31; exact hD
  refine lv_aload_n hx hb dX0_copy_34 rfl (lv_at hl 1 rfl) ?_
  refine va_get (ci := 0) (v := .ref b1_owners) (C := RX0) (T := TX0) (N := 5) hx hb hts iu_X0 hown hK.1 hP 4 rfl rfl 3 (by decide) (hts (.fieldLink RX0 19 "SheetMarks$Facts" "owners" "[I") (List.mem_of_getElem? (i := 8) rfl)) (fun _ h9 => h9) rfl dX0_copy_35 ?_
  refine lv_iconst (v := (0 : Int32)) hx hb dX0_copy_38 rfl ?_
  refine lv_aload_n hx hb dX0_copy_39 rfl (lv_at hl 0 rfl) ?_
  refine va_get (ci := 0) (v := .ref a0_owners) (C := RX0) (T := TX0) (N := 5) hx hb hts iu_X0 hown hK.1 hP 0 rfl rfl 3 (by decide) (hts (.fieldLink RX0 19 "SheetMarks$Facts" "owners" "[I") (List.mem_of_getElem? (i := 8) rfl)) (fun _ h9 => h9) rfl dX0_copy_40 ?_
  refine lv_iconst (v := (0 : Int32)) hx hb dX0_copy_43 rfl ?_
  refine lv_aload_n hx hb dX0_copy_44 rfl (lv_at hl 0 rfl) ?_
  refine va_get (ci := 0) (v := .ref a0_owners) (C := RX0) (T := TX0) (N := 5) hx hb hts iu_X0 hown hK.1 hP 0 rfl rfl 3 (by decide) (hts (.fieldLink RX0 19 "SheetMarks$Facts" "owners" "[I") (List.mem_of_getElem? (i := 8) rfl)) (fun _ h9 => h9) rfl dX0_copy_45 ?_
  refine va_alen (v := (41 : Int32)) hx hb hK.1 hP 2 0 rfl rfl rfl dX0_copy_48 ?_
  refine va_copyi hx hb (hml.trans hl.1.symm) hown (hts (.methodLink RX0 28 arraycopyName) (List.mem_of_getElem? (i := 4) rfl)) (hts (.native arraycopyName) (List.mem_of_getElem? (i := 5) rfl)) (hts (.static arraycopyName) (List.mem_of_getElem? (i := 6) rfl)) (hts (.initialized "java/lang/System") (List.mem_of_getElem? (i := 7) rfl)) hK.1 hP hD hS 6 2 0 0 rfl rfl rfl rfl rfl (by decide) (by decide) (by decide) (by decide) (by decide) (fun _ _ => rfl) (Nat.le_of_ble_eq_true rfl) (Nat.le_of_ble_eq_true rfl) dX0_copy_49 (fun H locs hP hD hS => ?_)
  obtain ⟨c_owners_49, e_49⟩ : ∃ y : Nat → Int32, y = (va_cpy p1_owners c_owners 0 0 41) := ⟨_, rfl⟩
  have h := lt'_e e_49 h
  have hP : va_P (dC, dI) vwCl (wX0 ck a0 a0_kinds a0_owners a0_cards p1_players p1_told c_kinds_31 c_owners_49 c_cards ++ wX0 ck b1 b1_kinds b1_owners b1_cards p1_players p1_told p1_kinds p1_owners p1_cards) H := by subst e_49; exact hP
  have hD : va_D A (wX0 ck a0 a0_kinds a0_owners a0_cards p1_players p1_told c_kinds_31 c_owners_49 c_cards ++ wX0 ck b1 b1_kinds b1_owners b1_cards p1_players p1_told p1_kinds p1_owners p1_cards) := by subst e_49; exact hD
  refine lv_aload_n hx hb dX0_copy_52 rfl (lv_at hl 1 rfl) ?_
  refine va_get (ci := 0) (v := .ref b1_cards) (C := RX0) (T := TX0) (N := 5) hx hb hts iu_X0 hown hK.1 hP 4 rfl rfl 4 (by decide) (hts (.fieldLink RX0 22 "SheetMarks$Facts" "cards" "[I") (List.mem_of_getElem? (i := 9) rfl)) (fun _ h9 => h9) rfl dX0_copy_53 ?_
  refine lv_iconst (v := (0 : Int32)) hx hb dX0_copy_56 rfl ?_
  refine lv_aload_n hx hb dX0_copy_57 rfl (lv_at hl 0 rfl) ?_
  refine va_get (ci := 0) (v := .ref a0_cards) (C := RX0) (T := TX0) (N := 5) hx hb hts iu_X0 hown hK.1 hP 0 rfl rfl 4 (by decide) (hts (.fieldLink RX0 22 "SheetMarks$Facts" "cards" "[I") (List.mem_of_getElem? (i := 9) rfl)) (fun _ h9 => h9) rfl dX0_copy_58 ?_
  refine lv_iconst (v := (0 : Int32)) hx hb dX0_copy_61 rfl ?_
  refine lv_aload_n hx hb dX0_copy_62 rfl (lv_at hl 0 rfl) ?_
  refine va_get (ci := 0) (v := .ref a0_cards) (C := RX0) (T := TX0) (N := 5) hx hb hts iu_X0 hown hK.1 hP 0 rfl rfl 4 (by decide) (hts (.fieldLink RX0 22 "SheetMarks$Facts" "cards" "[I") (List.mem_of_getElem? (i := 9) rfl)) (fun _ h9 => h9) rfl dX0_copy_63 ?_
  refine va_alen (v := (41 : Int32)) hx hb hK.1 hP 3 0 rfl rfl rfl dX0_copy_66 ?_
  refine va_copyi hx hb (hml.trans hl.1.symm) hown (hts (.methodLink RX0 28 arraycopyName) (List.mem_of_getElem? (i := 4) rfl)) (hts (.native arraycopyName) (List.mem_of_getElem? (i := 5) rfl)) (hts (.static arraycopyName) (List.mem_of_getElem? (i := 6) rfl)) (hts (.initialized "java/lang/System") (List.mem_of_getElem? (i := 7) rfl)) hK.1 hP hD hS 7 3 0 0 rfl rfl rfl rfl rfl (by decide) (by decide) (by decide) (by decide) (by decide) (fun _ _ => rfl) (Nat.le_of_ble_eq_true rfl) (Nat.le_of_ble_eq_true rfl) dX0_copy_67 (fun H locs hP hD hS => ?_)
  obtain ⟨c_cards_67, e_67⟩ : ∃ y : Nat → Int32, y = (va_cpy p1_cards c_cards 0 0 41) := ⟨_, rfl⟩
  have h := lt'_e e_67 h
  have hP : va_P (dC, dI) vwCl (wX0 ck a0 a0_kinds a0_owners a0_cards p1_players p1_told c_kinds_31 c_owners_49 c_cards_67 ++ wX0 ck b1 b1_kinds b1_owners b1_cards p1_players p1_told p1_kinds p1_owners p1_cards) H := by subst e_67; exact hP
  have hD : va_D A (wX0 ck a0 a0_kinds a0_owners a0_cards p1_players p1_told c_kinds_31 c_owners_49 c_cards_67 ++ wX0 ck b1 b1_kinds b1_owners b1_cards p1_players p1_told p1_kinds p1_owners p1_cards) := by subst e_67; exact hD
  cases h
  exact eMv hx hb hr hlk hP hD hS dX0_copy_70
noncomputable def f_X0_add (c_told : Int32) (c_kinds : Nat → Int32) (c_owners : Nat → Int32) (c_cards : Nat → Int32) (v1 : Int32) (v2 : Int32) (v3 : Int32) : Option (Int32 × (Nat → Int32) × (Nat → Int32) × (Nat → Int32)) :=
  if (41 : Int32) ≤ c_told then (some (c_told, c_kinds, c_owners, c_cards)) else (gd c_told 41 (lt' (upd c_kinds c_told.toNatClampNeg v1) (fun c_kinds_21 : Nat → Int32 => gd c_told 41 (lt' (upd c_owners c_told.toNatClampNeg v2) (fun c_owners_31 : Nat → Int32 => gd c_told 41 (lt' (upd c_cards c_told.toNatClampNeg v3) (fun c_cards_41 : Nat → Int32 => lt' (c_told + (1 : Int32)) (fun c_told_49 : Int32 => some (c_told_49, c_kinds_21, c_owners_31, c_cards_41)))))))))
set_option maxHeartbeats 4000000 in
set_option maxRecDepth 100000 in
theorem c_X0_add (l : Launch) (dC : Nat → ClassId) (dI : Nat → Nat → Nat) (ck : Nat → ClassId) (a0 a0_kinds a0_owners a0_cards : Nat) (c_players : Int32) (c_told : Int32) (c_kinds : Nat → Int32) (c_owners : Nat → Int32) (c_cards : Nat → Int32) (v1 : Int32) (v2 : Int32) (v3 : Int32) (o0 : Int32) (o1 : Nat → Int32) (o2 : Nat → Int32) (o3 : Nat → Int32) (h : f_X0_add c_told c_kinds c_owners c_cards v1 v2 v3 = some (o0, o1, o2, o3)) : MV l yX0_add wsX0_add ({ frames := 0, cells := 0, slots := 0, locals := 0 }) [.ref a0, .int v1, .int v2, .int v3] (dC, dI) ck (wX0 ck a0 a0_kinds a0_owners a0_cards c_players c_told c_kinds c_owners c_cards) (wX0 ck a0 a0_kinds a0_owners a0_cards c_players o0 o1 o2 o3) := by
  refine MV.ofW (cc := cX0_add) (maxL := 4) (ret := none) (by decide +kernel) rfl (Nat.le_of_ble_eq_true rfl) ?_
  intro p e s m below meth c hx hb hr hml hts hown hlk hK hP A hA hD ls hl
  have hS : va_S A s.heap s.heap [] := va_S.rf
  have hown : s.vm.findClass RX0 = some m.cls := hown
  have hl : lv_has ls 4 [(0, .ref a0), (1, .int v1), (2, .int v2), (3, .int v3)] := hl
  have iu_X0 : ∀ w ∈ u_ws RX0 TX0 5, w ∈ wsX0_add := fun w h => List.mem_cons_of_mem _ (List.mem_append_right _ h)
  unfold f_X0_add at h
  refine lv_aload_n hx hb dX0_add_0 rfl (lv_at hl 0 rfl) ?_
  refine va_get (ci := 0) (v := .int c_told) (C := RX0) (T := TX0) (N := 5) hx hb hts iu_X0 hown hK.1 hP 0 rfl rfl 1 (by decide) (hts (.fieldLink RX0 25 "SheetMarks$Facts" "told" "I") (List.mem_of_getElem? (i := 1) rfl)) (fun _ h9 => h9) rfl dX0_add_1 ?_
  refine lv_aload_n hx hb dX0_add_4 rfl (lv_at hl 0 rfl) ?_
  refine va_get (ci := 0) (v := .ref a0_kinds) (C := RX0) (T := TX0) (N := 5) hx hb hts iu_X0 hown hK.1 hP 0 rfl rfl 2 (by decide) (hts (.fieldLink RX0 15 "SheetMarks$Facts" "kinds" "[I") (List.mem_of_getElem? (i := 2) rfl)) (fun _ h9 => h9) rfl dX0_add_5 ?_
  refine va_alen (v := (41 : Int32)) hx hb hK.1 hP 1 0 rfl rfl rfl dX0_add_8 ?_
  refine lv_icmp_ge (tgt := 52) hx hb dX0_add_9 (by decide) (fun c_9 => ?_) (fun c_9 => ?_)
  · have h := if_t h c_9
    cases h
    exact eMv hx hb hr hlk hP hD hS dX0_add_52
  · have h := if_f h c_9
    refine lv_aload_n hx hb dX0_add_12 rfl (lv_at hl 0 rfl) ?_
    refine va_get (ci := 0) (v := .ref a0_kinds) (C := RX0) (T := TX0) (N := 5) hx hb hts iu_X0 hown hK.1 hP 0 rfl rfl 2 (by decide) (hts (.fieldLink RX0 15 "SheetMarks$Facts" "kinds" "[I") (List.mem_of_getElem? (i := 2) rfl)) (fun _ h9 => h9) rfl dX0_add_13 ?_
    refine lv_aload_n hx hb dX0_add_16 rfl (lv_at hl 0 rfl) ?_
    refine va_get (ci := 0) (v := .int c_told) (C := RX0) (T := TX0) (N := 5) hx hb hts iu_X0 hown hK.1 hP 0 rfl rfl 1 (by decide) (hts (.fieldLink RX0 25 "SheetMarks$Facts" "told" "I") (List.mem_of_getElem? (i := 1) rfl)) (fun _ h9 => h9) rfl dX0_add_17 ?_
    refine lv_iload_n hx hb dX0_add_20 rfl (lv_at hl 1 rfl) ?_
    obtain ⟨g_21, h⟩ := gd_e h
    refine va_iast hx hb hK.1 hP hD hS 1 0 rfl rfl g_21 dX0_add_21 (fun H locs hP hD hS => ?_)
    obtain ⟨c_kinds_21, e_21⟩ : ∃ y : Nat → Int32, y = (upd c_kinds c_told.toNatClampNeg v1) := ⟨_, rfl⟩
    have h := lt'_e e_21 h
    have hP : va_P (dC, dI) vwCl (wX0 ck a0 a0_kinds a0_owners a0_cards c_players c_told c_kinds_21 c_owners c_cards) H := by subst e_21; exact hP
    have hD : va_D A (wX0 ck a0 a0_kinds a0_owners a0_cards c_players c_told c_kinds_21 c_owners c_cards) := by subst e_21; exact hD
    refine lv_aload_n hx hb dX0_add_22 rfl (lv_at hl 0 rfl) ?_
    refine va_get (ci := 0) (v := .ref a0_owners) (C := RX0) (T := TX0) (N := 5) hx hb hts iu_X0 hown hK.1 hP 0 rfl rfl 3 (by decide) (hts (.fieldLink RX0 19 "SheetMarks$Facts" "owners" "[I") (List.mem_of_getElem? (i := 3) rfl)) (fun _ h9 => h9) rfl dX0_add_23 ?_
    refine lv_aload_n hx hb dX0_add_26 rfl (lv_at hl 0 rfl) ?_
    refine va_get (ci := 0) (v := .int c_told) (C := RX0) (T := TX0) (N := 5) hx hb hts iu_X0 hown hK.1 hP 0 rfl rfl 1 (by decide) (hts (.fieldLink RX0 25 "SheetMarks$Facts" "told" "I") (List.mem_of_getElem? (i := 1) rfl)) (fun _ h9 => h9) rfl dX0_add_27 ?_
    refine lv_iload_n hx hb dX0_add_30 rfl (lv_at hl 2 rfl) ?_
    obtain ⟨g_31, h⟩ := gd_e h
    refine va_iast hx hb hK.1 hP hD hS 2 0 rfl rfl g_31 dX0_add_31 (fun H locs hP hD hS => ?_)
    obtain ⟨c_owners_31, e_31⟩ : ∃ y : Nat → Int32, y = (upd c_owners c_told.toNatClampNeg v2) := ⟨_, rfl⟩
    have h := lt'_e e_31 h
    have hP : va_P (dC, dI) vwCl (wX0 ck a0 a0_kinds a0_owners a0_cards c_players c_told c_kinds_21 c_owners_31 c_cards) H := by subst e_31; exact hP
    have hD : va_D A (wX0 ck a0 a0_kinds a0_owners a0_cards c_players c_told c_kinds_21 c_owners_31 c_cards) := by subst e_31; exact hD
    refine lv_aload_n hx hb dX0_add_32 rfl (lv_at hl 0 rfl) ?_
    refine va_get (ci := 0) (v := .ref a0_cards) (C := RX0) (T := TX0) (N := 5) hx hb hts iu_X0 hown hK.1 hP 0 rfl rfl 4 (by decide) (hts (.fieldLink RX0 22 "SheetMarks$Facts" "cards" "[I") (List.mem_of_getElem? (i := 4) rfl)) (fun _ h9 => h9) rfl dX0_add_33 ?_
    refine lv_aload_n hx hb dX0_add_36 rfl (lv_at hl 0 rfl) ?_
    refine va_get (ci := 0) (v := .int c_told) (C := RX0) (T := TX0) (N := 5) hx hb hts iu_X0 hown hK.1 hP 0 rfl rfl 1 (by decide) (hts (.fieldLink RX0 25 "SheetMarks$Facts" "told" "I") (List.mem_of_getElem? (i := 1) rfl)) (fun _ h9 => h9) rfl dX0_add_37 ?_
    refine lv_iload_n hx hb dX0_add_40 rfl (lv_at hl 3 rfl) ?_
    obtain ⟨g_41, h⟩ := gd_e h
    refine va_iast hx hb hK.1 hP hD hS 3 0 rfl rfl g_41 dX0_add_41 (fun H locs hP hD hS => ?_)
    obtain ⟨c_cards_41, e_41⟩ : ∃ y : Nat → Int32, y = (upd c_cards c_told.toNatClampNeg v3) := ⟨_, rfl⟩
    have h := lt'_e e_41 h
    have hP : va_P (dC, dI) vwCl (wX0 ck a0 a0_kinds a0_owners a0_cards c_players c_told c_kinds_21 c_owners_31 c_cards_41) H := by subst e_41; exact hP
    have hD : va_D A (wX0 ck a0 a0_kinds a0_owners a0_cards c_players c_told c_kinds_21 c_owners_31 c_cards_41) := by subst e_41; exact hD
    refine lv_aload_n hx hb dX0_add_42 rfl (lv_at hl 0 rfl) ?_
    refine lv_dup hx hb dX0_add_43 rfl ?_
    refine va_get (ci := 0) (v := .int c_told) (C := RX0) (T := TX0) (N := 5) hx hb hts iu_X0 hown hK.1 hP 0 rfl rfl 1 (by decide) (hts (.fieldLink RX0 25 "SheetMarks$Facts" "told" "I") (List.mem_of_getElem? (i := 1) rfl)) (fun _ h9 => h9) rfl dX0_add_44 ?_
    refine lv_iconst (v := (1 : Int32)) hx hb dX0_add_47 rfl ?_
    refine lv_iadd hx hb dX0_add_48 ?_
    refine lv_topi (fun c_told_49 e_49 => ?_)
    have h := lt'_e e_49 h
    refine va_put (ci := 0) (v := .int c_told_49) (ty := .int) (C := RX0) (T := TX0) (N := 5) hx hb hts iu_X0 tyX0 tyX0_ok nmX0 hown hK.1 hP hD hS 0 rfl rfl 1 (by decide) (hts (.fieldLink RX0 25 "SheetMarks$Facts" "told" "I") (List.mem_of_getElem? (i := 1) rfl)) (fun _ h9 => h9) rfl (by decide +kernel) rfl rfl (Nat.le_of_ble_eq_true rfl) dX0_add_49 (fun H locs hP hD hS => ?_)
    have hP : va_P (dC, dI) vwCl (wX0 ck a0 a0_kinds a0_owners a0_cards c_players c_told_49 c_kinds_21 c_owners_31 c_cards_41) H := hP
    have hD : va_D A (wX0 ck a0 a0_kinds a0_owners a0_cards c_players c_told_49 c_kinds_21 c_owners_31 c_cards_41) := hD
    cases h
    exact eMv hx hb hr hlk hP hD hS dX0_add_52
noncomputable def f_X0_has (c_told : Int32) (v1 : Int32) : Option (Int32) :=
  if v1 < (0 : Int32) then (some (0 : Int32)) else (if c_told ≤ v1 then (some (0 : Int32)) else (some (1 : Int32)))
set_option maxHeartbeats 4000000 in
set_option maxRecDepth 100000 in
theorem c_X0_has (l : Launch) (dC : Nat → ClassId) (dI : Nat → Nat → Nat) (ck : Nat → ClassId) (a0 a0_kinds a0_owners a0_cards : Nat) (c_players : Int32) (c_told : Int32) (c_kinds : Nat → Int32) (c_owners : Nat → Int32) (c_cards : Nat → Int32) (v1 : Int32) (o0 : Int32) (h : f_X0_has c_told v1 = some o0) : RD l yX0_has wsX0_has ({ frames := 0, cells := 0, slots := 0, locals := 0 }) [.ref a0, .int v1] (dC, dI) ck (wX0 ck a0 a0_kinds a0_owners a0_cards c_players c_told c_kinds c_owners c_cards) o0 := by
  refine RD.ofW (cc := cX0_has) (maxL := 2) (ret := (some .boolean)) (by decide +kernel) rfl (Nat.le_of_ble_eq_true rfl) ?_
  intro p e s m below meth c hx hb hr hml hts hown hlk hK hP ls hl
  have hown : s.vm.findClass RX0 = some m.cls := hown
  have hl : lv_has ls 2 [(0, .ref a0), (1, .int v1)] := hl
  have iu_X0 : ∀ w ∈ u_ws RX0 TX0 5, w ∈ wsX0_has := fun w h => List.mem_cons_of_mem _ (List.mem_append_right _ h)
  unfold f_X0_has at h
  refine lv_iload_n hx hb dX0_has_0 rfl (lv_at hl 1 rfl) ?_
  refine lv_if_lt (tgt := 16) hx hb dX0_has_1 (by decide) (fun c_1 => ?_) (fun c_1 => ?_)
  · have h := if_t h c_1
    refine lv_iconst (v := (0 : Int32)) hx hb dX0_has_16 rfl ?_
    cases h
    exact eRz hx hb hr hlk rfl rfl dX0_has_17
  · have h := if_f h c_1
    refine lv_iload_n hx hb dX0_has_4 rfl (lv_at hl 1 rfl) ?_
    refine lv_aload_n hx hb dX0_has_5 rfl (lv_at hl 0 rfl) ?_
    refine va_get (ci := 0) (v := .int c_told) (C := RX0) (T := TX0) (N := 5) hx hb hts iu_X0 hown hK.1 hP 0 rfl rfl 1 (by decide) (hts (.fieldLink RX0 25 "SheetMarks$Facts" "told" "I") (List.mem_of_getElem? (i := 1) rfl)) (fun _ h9 => h9) rfl dX0_has_6 ?_
    refine lv_icmp_ge (tgt := 16) hx hb dX0_has_9 (by decide) (fun c_9 => ?_) (fun c_9 => ?_)
    · have h := if_t h c_9
      refine lv_iconst (v := (0 : Int32)) hx hb dX0_has_16 rfl ?_
      cases h
      exact eRz hx hb hr hlk rfl rfl dX0_has_17
    · have h := if_f h c_9
      refine lv_iconst (v := (1 : Int32)) hx hb dX0_has_12 rfl ?_
      refine lv_goto (tgt := 17) hx hb dX0_has_13 (by decide) ?_
      cases h
      exact eRz hx hb hr hlk rfl rfl dX0_has_17
noncomputable def f_X0_remove_L21 (c_told_16 : Int32) (rec21 : Int32 → (Nat → Int32) → (Nat → Int32) → (Nat → Int32) → Option (Int32 × (Nat → Int32) × (Nat → Int32) × (Nat → Int32))) (v2_L21 : Int32) (c_kinds_L21 : Nat → Int32) (c_owners_L21 : Nat → Int32) (c_cards_L21 : Nat → Int32) : Option (Int32 × (Nat → Int32) × (Nat → Int32) × (Nat → Int32)) :=
  if c_told_16 ≤ v2_L21 then (some (c_told_16, c_kinds_L21, c_owners_L21, c_cards_L21)) else (gd (v2_L21 + (1 : Int32)) 41 (gd v2_L21 41 (lt' (upd c_kinds_L21 v2_L21.toNatClampNeg (c_kinds_L21 (v2_L21 + (1 : Int32)).toNatClampNeg)) (fun c_kinds_42 : Nat → Int32 => gd (v2_L21 + (1 : Int32)) 41 (gd v2_L21 41 (lt' (upd c_owners_L21 v2_L21.toNatClampNeg (c_owners_L21 (v2_L21 + (1 : Int32)).toNatClampNeg)) (fun c_owners_56 : Nat → Int32 => gd (v2_L21 + (1 : Int32)) 41 (gd v2_L21 41 (lt' (upd c_cards_L21 v2_L21.toNatClampNeg (c_cards_L21 (v2_L21 + (1 : Int32)).toNatClampNeg)) (fun c_cards_70 : Nat → Int32 => rec21 (v2_L21 + (1 : Int32)) c_kinds_42 c_owners_56 c_cards_70))))))))))
noncomputable def f_X0_remove (c_told : Int32) (c_kinds : Nat → Int32) (c_owners : Nat → Int32) (c_cards : Nat → Int32) (v1 : Int32) : Option (Int32 × (Nat → Int32) × (Nat → Int32) × (Nat → Int32)) :=
  ob1 (f_X0_has c_told v1) (fun (r_2 : Int32) => if r_2 = (0 : Int32) then (some (c_told, c_kinds, c_owners, c_cards)) else (lt' (c_told - (1 : Int32)) (fun c_told_16 : Int32 => lo4 (f_X0_remove_L21 c_told_16) FU v1 c_kinds c_owners c_cards)))
set_option maxHeartbeats 4000000 in
set_option maxRecDepth 100000 in
theorem c_X0_remove (l : Launch) (dC : Nat → ClassId) (dI : Nat → Nat → Nat) (ck : Nat → ClassId) (a0 a0_kinds a0_owners a0_cards : Nat) (c_players : Int32) (c_told : Int32) (c_kinds : Nat → Int32) (c_owners : Nat → Int32) (c_cards : Nat → Int32) (v1 : Int32) (o0 : Int32) (o1 : Nat → Int32) (o2 : Nat → Int32) (o3 : Nat → Int32) (h : f_X0_remove c_told c_kinds c_owners c_cards v1 = some (o0, o1, o2, o3)) : MV l yX0_remove wsX0_remove ({ frames := 1, cells := 0, slots := 0, locals := 21 }) [.ref a0, .int v1] (dC, dI) ck (wX0 ck a0 a0_kinds a0_owners a0_cards c_players c_told c_kinds c_owners c_cards) (wX0 ck a0 a0_kinds a0_owners a0_cards c_players o0 o1 o2 o3) := by
  refine MV.ofW (cc := cX0_remove) (maxL := 3) (ret := none) (by decide +kernel) rfl (Nat.le_of_ble_eq_true rfl) ?_
  intro p e s m below meth c hx hb hr hml hts hown hlk hK hP A hA hD ls hl
  have hS : va_S A s.heap s.heap [] := va_S.rf
  have hown : s.vm.findClass RX0 = some m.cls := hown
  have hl : lv_has ls 3 [(0, .ref a0), (1, .int v1)] := hl
  have iu_X0 : ∀ w ∈ u_ws RX0 TX0 5, w ∈ wsX0_remove := fun w h => List.mem_cons_of_mem _ (List.mem_append_right _ h)
  unfold f_X0_remove at h
  refine lv_aload_n hx hb dX0_remove_0 rfl (lv_at hl 0 rfl) ?_
  refine lv_iload_n hx hb dX0_remove_1 rfl (lv_at hl 1 rfl) ?_
  obtain ⟨r_2, q_2, h⟩ := ob1_e h
  refine cRV (wc := wX0 ck a0 a0_kinds a0_owners a0_cards c_players c_told c_kinds c_owners c_cards) ⟨hx, hb, hml, hown, hts⟩ hK hP [0, 1, 2, 3] rfl (c_X0_has l dC dI ck a0 a0_kinds a0_owners a0_cards c_players c_told c_kinds c_owners c_cards v1 r_2 q_2) (cwV 1 hts gX0_remove_X0_has rfl rfl rfl (by decide +kernel) ⟨Nat.le_of_ble_eq_true rfl, Nat.le_of_ble_eq_true rfl⟩) 0 rfl rfl rfl hl.1 rfl (Nat.le_of_ble_eq_true rfl) dX0_remove_2 ⟨Nat.zero_le _, Nat.zero_le _⟩ ?_
  refine lv_if_ne (tgt := 9) hx hb dX0_remove_5 (by decide) (fun c_5 => ?_) (fun c_5 => ?_)
  · have h := if_f h c_5
    refine lv_aload_n hx hb dX0_remove_9 rfl (lv_at hl 0 rfl) ?_
    refine lv_dup hx hb dX0_remove_10 rfl ?_
    refine va_get (ci := 0) (v := .int c_told) (C := RX0) (T := TX0) (N := 5) hx hb hts iu_X0 hown hK.1 hP 0 rfl rfl 1 (by decide) (hts (.fieldLink RX0 25 "SheetMarks$Facts" "told" "I") (List.mem_of_getElem? (i := 1) rfl)) (fun _ h9 => h9) rfl dX0_remove_11 ?_
    refine lv_iconst (v := (1 : Int32)) hx hb dX0_remove_14 rfl ?_
    refine lv_isub hx hb dX0_remove_15 ?_
    refine lv_topi (fun c_told_16 e_16 => ?_)
    have h := lt'_e e_16 h
    refine va_put (ci := 0) (v := .int c_told_16) (ty := .int) (C := RX0) (T := TX0) (N := 5) hx hb hts iu_X0 tyX0 tyX0_ok nmX0 hown hK.1 hP hD hS 0 rfl rfl 1 (by decide) (hts (.fieldLink RX0 25 "SheetMarks$Facts" "told" "I") (List.mem_of_getElem? (i := 1) rfl)) (fun _ h9 => h9) rfl (by decide +kernel) rfl rfl (Nat.le_of_ble_eq_true rfl) dX0_remove_16 (fun H locs hP hD hS => ?_)
    have hP : va_P (dC, dI) vwCl (wX0 ck a0 a0_kinds a0_owners a0_cards c_players c_told_16 c_kinds c_owners c_cards) H := hP
    have hD : va_D A (wX0 ck a0 a0_kinds a0_owners a0_cards c_players c_told_16 c_kinds c_owners c_cards) := hD
    refine lv_iload_n hx hb dX0_remove_19 rfl (lv_at hl 1 rfl) ?_
    refine lv_istore_n (lv' := [(2, .int v1), (0, .ref a0), (1, .int v1)]) hx hb dX0_remove_20 rfl hl (by decide) rfl (fun ls hl => ?_)
    have hL21 : ∀ (n21 : Nat) (v2_L21 : Int32) (c_kinds_L21 : Nat → Int32) (c_owners_L21 : Nat → Int32) (c_cards_L21 : Nat → Int32), lo4 (f_X0_remove_L21 c_told_16) n21 v2_L21 c_kinds_L21 c_owners_L21 c_cards_L21 = some (o0, o1, o2, o3) → ∀ (H : Heap) (locs : List Loc), va_P (dC, dI) vwCl (wX0 ck a0 a0_kinds a0_owners a0_cards c_players c_told_16 c_kinds_L21 c_owners_L21 c_cards_L21) H → va_D A (wX0 ck a0 a0_kinds a0_owners a0_cards c_players c_told_16 c_kinds_L21 c_owners_L21 c_cards_L21) → va_S A s.heap H locs → ∀ ls : Array Slot, lv_has ls 3 [(2, .int v2_L21), (0, .ref a0)] → W p l e (headSpec wsX0_remove ({ frames := 1, cells := 0, slots := 0, locals := 21 })).room s m [.ref a0, .int v1].toArray below meth c H locs 0 0 (MQ below (QV (dC, dI) (wX0 ck a0 a0_kinds a0_owners a0_cards c_players o0 o1 o2 o3) A) [.ref a0, .int v1].toArray s 0 0 A) (F0 m 21 ls []) := by
      intro n21
      induction n21 with
      | zero => intro v2_L21 c_kinds_L21 c_owners_L21 c_cards_L21 h; exact lo4_z h
      | succ n21 ih21 =>
        intro v2_L21 c_kinds_L21 c_owners_L21 c_cards_L21 h H locs hP hD hS ls hl
        have h := lo4_s h
        unfold f_X0_remove_L21 at h
        refine lv_iload_n hx hb dX0_remove_21 rfl (lv_at hl 0 rfl) ?_
        refine lv_aload_n hx hb dX0_remove_22 rfl (lv_at hl 1 rfl) ?_
        refine va_get (ci := 0) (v := .int c_told_16) (C := RX0) (T := TX0) (N := 5) hx hb hts iu_X0 hown hK.1 hP 0 rfl rfl 1 (by decide) (hts (.fieldLink RX0 25 "SheetMarks$Facts" "told" "I") (List.mem_of_getElem? (i := 1) rfl)) (fun _ h9 => h9) rfl dX0_remove_23 ?_
        refine lv_icmp_ge (tgt := 77) hx hb dX0_remove_26 (by decide) (fun c_26 => ?_) (fun c_26 => ?_)
        · have h := if_t h c_26
          cases h
          exact eMv hx hb hr hlk hP hD hS dX0_remove_77
        · have h := if_f h c_26
          refine lv_aload_n hx hb dX0_remove_29 rfl (lv_at hl 1 rfl) ?_
          refine va_get (ci := 0) (v := .ref a0_kinds) (C := RX0) (T := TX0) (N := 5) hx hb hts iu_X0 hown hK.1 hP 0 rfl rfl 2 (by decide) (hts (.fieldLink RX0 15 "SheetMarks$Facts" "kinds" "[I") (List.mem_of_getElem? (i := 2) rfl)) (fun _ h9 => h9) rfl dX0_remove_30 ?_
          refine lv_iload_n hx hb dX0_remove_33 rfl (lv_at hl 0 rfl) ?_
          refine lv_aload_n hx hb dX0_remove_34 rfl (lv_at hl 1 rfl) ?_
          refine va_get (ci := 0) (v := .ref a0_kinds) (C := RX0) (T := TX0) (N := 5) hx hb hts iu_X0 hown hK.1 hP 0 rfl rfl 2 (by decide) (hts (.fieldLink RX0 15 "SheetMarks$Facts" "kinds" "[I") (List.mem_of_getElem? (i := 2) rfl)) (fun _ h9 => h9) rfl dX0_remove_35 ?_
          refine lv_iload_n hx hb dX0_remove_38 rfl (lv_at hl 0 rfl) ?_
          refine lv_iconst (v := (1 : Int32)) hx hb dX0_remove_39 rfl ?_
          refine lv_iadd hx hb dX0_remove_40 ?_
          obtain ⟨g_41, h⟩ := gd_e h
          refine va_iald hx hb hK.1 hP 1 0 rfl rfl g_41 dX0_remove_41 ?_
          obtain ⟨g_42, h⟩ := gd_e h
          refine va_iast hx hb hK.1 hP hD hS 1 0 rfl rfl g_42 dX0_remove_42 (fun H locs hP hD hS => ?_)
          obtain ⟨c_kinds_42, e_42⟩ : ∃ y : Nat → Int32, y = (upd c_kinds_L21 v2_L21.toNatClampNeg (c_kinds_L21 (v2_L21 + (1 : Int32)).toNatClampNeg)) := ⟨_, rfl⟩
          have h := lt'_e e_42 h
          have hP : va_P (dC, dI) vwCl (wX0 ck a0 a0_kinds a0_owners a0_cards c_players c_told_16 c_kinds_42 c_owners_L21 c_cards_L21) H := by subst e_42; exact hP
          have hD : va_D A (wX0 ck a0 a0_kinds a0_owners a0_cards c_players c_told_16 c_kinds_42 c_owners_L21 c_cards_L21) := by subst e_42; exact hD
          refine lv_aload_n hx hb dX0_remove_43 rfl (lv_at hl 1 rfl) ?_
          refine va_get (ci := 0) (v := .ref a0_owners) (C := RX0) (T := TX0) (N := 5) hx hb hts iu_X0 hown hK.1 hP 0 rfl rfl 3 (by decide) (hts (.fieldLink RX0 19 "SheetMarks$Facts" "owners" "[I") (List.mem_of_getElem? (i := 3) rfl)) (fun _ h9 => h9) rfl dX0_remove_44 ?_
          refine lv_iload_n hx hb dX0_remove_47 rfl (lv_at hl 0 rfl) ?_
          refine lv_aload_n hx hb dX0_remove_48 rfl (lv_at hl 1 rfl) ?_
          refine va_get (ci := 0) (v := .ref a0_owners) (C := RX0) (T := TX0) (N := 5) hx hb hts iu_X0 hown hK.1 hP 0 rfl rfl 3 (by decide) (hts (.fieldLink RX0 19 "SheetMarks$Facts" "owners" "[I") (List.mem_of_getElem? (i := 3) rfl)) (fun _ h9 => h9) rfl dX0_remove_49 ?_
          refine lv_iload_n hx hb dX0_remove_52 rfl (lv_at hl 0 rfl) ?_
          refine lv_iconst (v := (1 : Int32)) hx hb dX0_remove_53 rfl ?_
          refine lv_iadd hx hb dX0_remove_54 ?_
          obtain ⟨g_55, h⟩ := gd_e h
          refine va_iald hx hb hK.1 hP 2 0 rfl rfl g_55 dX0_remove_55 ?_
          obtain ⟨g_56, h⟩ := gd_e h
          refine va_iast hx hb hK.1 hP hD hS 2 0 rfl rfl g_56 dX0_remove_56 (fun H locs hP hD hS => ?_)
          obtain ⟨c_owners_56, e_56⟩ : ∃ y : Nat → Int32, y = (upd c_owners_L21 v2_L21.toNatClampNeg (c_owners_L21 (v2_L21 + (1 : Int32)).toNatClampNeg)) := ⟨_, rfl⟩
          have h := lt'_e e_56 h
          have hP : va_P (dC, dI) vwCl (wX0 ck a0 a0_kinds a0_owners a0_cards c_players c_told_16 c_kinds_42 c_owners_56 c_cards_L21) H := by subst e_56; exact hP
          have hD : va_D A (wX0 ck a0 a0_kinds a0_owners a0_cards c_players c_told_16 c_kinds_42 c_owners_56 c_cards_L21) := by subst e_56; exact hD
          refine lv_aload_n hx hb dX0_remove_57 rfl (lv_at hl 1 rfl) ?_
          refine va_get (ci := 0) (v := .ref a0_cards) (C := RX0) (T := TX0) (N := 5) hx hb hts iu_X0 hown hK.1 hP 0 rfl rfl 4 (by decide) (hts (.fieldLink RX0 22 "SheetMarks$Facts" "cards" "[I") (List.mem_of_getElem? (i := 4) rfl)) (fun _ h9 => h9) rfl dX0_remove_58 ?_
          refine lv_iload_n hx hb dX0_remove_61 rfl (lv_at hl 0 rfl) ?_
          refine lv_aload_n hx hb dX0_remove_62 rfl (lv_at hl 1 rfl) ?_
          refine va_get (ci := 0) (v := .ref a0_cards) (C := RX0) (T := TX0) (N := 5) hx hb hts iu_X0 hown hK.1 hP 0 rfl rfl 4 (by decide) (hts (.fieldLink RX0 22 "SheetMarks$Facts" "cards" "[I") (List.mem_of_getElem? (i := 4) rfl)) (fun _ h9 => h9) rfl dX0_remove_63 ?_
          refine lv_iload_n hx hb dX0_remove_66 rfl (lv_at hl 0 rfl) ?_
          refine lv_iconst (v := (1 : Int32)) hx hb dX0_remove_67 rfl ?_
          refine lv_iadd hx hb dX0_remove_68 ?_
          obtain ⟨g_69, h⟩ := gd_e h
          refine va_iald hx hb hK.1 hP 3 0 rfl rfl g_69 dX0_remove_69 ?_
          obtain ⟨g_70, h⟩ := gd_e h
          refine va_iast hx hb hK.1 hP hD hS 3 0 rfl rfl g_70 dX0_remove_70 (fun H locs hP hD hS => ?_)
          obtain ⟨c_cards_70, e_70⟩ : ∃ y : Nat → Int32, y = (upd c_cards_L21 v2_L21.toNatClampNeg (c_cards_L21 (v2_L21 + (1 : Int32)).toNatClampNeg)) := ⟨_, rfl⟩
          have h := lt'_e e_70 h
          have hP : va_P (dC, dI) vwCl (wX0 ck a0 a0_kinds a0_owners a0_cards c_players c_told_16 c_kinds_42 c_owners_56 c_cards_70) H := by subst e_70; exact hP
          have hD : va_D A (wX0 ck a0 a0_kinds a0_owners a0_cards c_players c_told_16 c_kinds_42 c_owners_56 c_cards_70) := by subst e_70; exact hD
          refine lv_iinc (v := (v2_L21 + (1 : Int32))) (lv' := [(2, .int (v2_L21 + (1 : Int32))), (0, .ref a0)]) hx hb dX0_remove_71 hl (k := 0) rfl rfl (by decide) rfl (fun ls hl => ?_)
          refine lv_goto (tgt := 21) hx hb dX0_remove_74 (by decide) ?_
          exact ih21 _ _ _ _ h _ _ hP hD hS _ (lv_sub hl [0, 1] rfl)
    exact hL21 _ _ _ _ _ h _ _ hP hD hS _ (lv_sub hl [0, 1] rfl)
  · have h := if_t h c_5
    cases h
    exact eMv hx hb hr hlk hP hD hS dX0_remove_8
noncomputable def f_X0_hasPlayer (c_players : Int32) (v1 : Int32) : Option (Int32) :=
  if v1 < (0 : Int32) then (some (0 : Int32)) else (if c_players ≤ v1 then (some (0 : Int32)) else (some (1 : Int32)))
set_option maxHeartbeats 4000000 in
set_option maxRecDepth 100000 in
theorem c_X0_hasPlayer (l : Launch) (dC : Nat → ClassId) (dI : Nat → Nat → Nat) (ck : Nat → ClassId) (a0 a0_kinds a0_owners a0_cards : Nat) (c_players : Int32) (c_told : Int32) (c_kinds : Nat → Int32) (c_owners : Nat → Int32) (c_cards : Nat → Int32) (v1 : Int32) (o0 : Int32) (h : f_X0_hasPlayer c_players v1 = some o0) : RD l yX0_hasPlayer wsX0_hasPlayer ({ frames := 0, cells := 0, slots := 0, locals := 0 }) [.ref a0, .int v1] (dC, dI) ck (wX0 ck a0 a0_kinds a0_owners a0_cards c_players c_told c_kinds c_owners c_cards) o0 := by
  refine RD.ofW (cc := cX0_hasPlayer) (maxL := 2) (ret := (some .boolean)) (by decide +kernel) rfl (Nat.le_of_ble_eq_true rfl) ?_
  intro p e s m below meth c hx hb hr hml hts hown hlk hK hP ls hl
  have hown : s.vm.findClass RX0 = some m.cls := hown
  have hl : lv_has ls 2 [(0, .ref a0), (1, .int v1)] := hl
  have iu_X0 : ∀ w ∈ u_ws RX0 TX0 5, w ∈ wsX0_hasPlayer := fun w h => List.mem_cons_of_mem _ (List.mem_append_right _ h)
  unfold f_X0_hasPlayer at h
  refine lv_iload_n hx hb dX0_hasPlayer_0 rfl (lv_at hl 1 rfl) ?_
  refine lv_if_lt (tgt := 16) hx hb dX0_hasPlayer_1 (by decide) (fun c_1 => ?_) (fun c_1 => ?_)
  · have h := if_t h c_1
    refine lv_iconst (v := (0 : Int32)) hx hb dX0_hasPlayer_16 rfl ?_
    cases h
    exact eRz hx hb hr hlk rfl rfl dX0_hasPlayer_17
  · have h := if_f h c_1
    refine lv_iload_n hx hb dX0_hasPlayer_4 rfl (lv_at hl 1 rfl) ?_
    refine lv_aload_n hx hb dX0_hasPlayer_5 rfl (lv_at hl 0 rfl) ?_
    refine va_get (ci := 0) (v := .int c_players) (C := RX0) (T := TX0) (N := 5) hx hb hts iu_X0 hown hK.1 hP 0 rfl rfl 0 (by decide) (hts (.fieldLink RX0 9 "SheetMarks$Facts" "players" "I") (List.mem_of_getElem? (i := 1) rfl)) (fun _ h9 => h9) rfl dX0_hasPlayer_6 ?_
    refine lv_icmp_ge (tgt := 16) hx hb dX0_hasPlayer_9 (by decide) (fun c_9 => ?_) (fun c_9 => ?_)
    · have h := if_t h c_9
      refine lv_iconst (v := (0 : Int32)) hx hb dX0_hasPlayer_16 rfl ?_
      cases h
      exact eRz hx hb hr hlk rfl rfl dX0_hasPlayer_17
    · have h := if_f h c_9
      refine lv_iconst (v := (1 : Int32)) hx hb dX0_hasPlayer_12 rfl ?_
      refine lv_goto (tgt := 17) hx hb dX0_hasPlayer_13 (by decide) ?_
      cases h
      exact eRz hx hb hr hlk rfl rfl dX0_hasPlayer_17
noncomputable def f_X0_hasOwner (c_players : Int32) (v1 : Int32) : Option (Int32) :=
  if v1 = (5 : Int32) then (some (1 : Int32)) else (if v1 < (0 : Int32) then (some (0 : Int32)) else (if c_players ≤ v1 then (some (0 : Int32)) else (some (1 : Int32))))
set_option maxHeartbeats 4000000 in
set_option maxRecDepth 100000 in
theorem c_X0_hasOwner (l : Launch) (dC : Nat → ClassId) (dI : Nat → Nat → Nat) (ck : Nat → ClassId) (a0 a0_kinds a0_owners a0_cards : Nat) (c_players : Int32) (c_told : Int32) (c_kinds : Nat → Int32) (c_owners : Nat → Int32) (c_cards : Nat → Int32) (v1 : Int32) (o0 : Int32) (h : f_X0_hasOwner c_players v1 = some o0) : RD l yX0_hasOwner wsX0_hasOwner ({ frames := 0, cells := 0, slots := 0, locals := 0 }) [.ref a0, .int v1] (dC, dI) ck (wX0 ck a0 a0_kinds a0_owners a0_cards c_players c_told c_kinds c_owners c_cards) o0 := by
  refine RD.ofW (cc := cX0_hasOwner) (maxL := 2) (ret := (some .boolean)) (by decide +kernel) rfl (Nat.le_of_ble_eq_true rfl) ?_
  intro p e s m below meth c hx hb hr hml hts hown hlk hK hP ls hl
  have hown : s.vm.findClass RX0 = some m.cls := hown
  have hl : lv_has ls 2 [(0, .ref a0), (1, .int v1)] := hl
  have iu_X0 : ∀ w ∈ u_ws RX0 TX0 5, w ∈ wsX0_hasOwner := fun w h => List.mem_cons_of_mem _ (List.mem_append_right _ h)
  unfold f_X0_hasOwner at h
  refine lv_iload_n hx hb dX0_hasOwner_0 rfl (lv_at hl 1 rfl) ?_
  refine lv_iconst (v := (5 : Int32)) hx hb dX0_hasOwner_1 rfl ?_
  refine lv_icmp_eq (tgt := 17) hx hb dX0_hasOwner_2 (by decide) (fun c_2 => ?_) (fun c_2 => ?_)
  · have h := if_t h c_2
    refine lv_iconst (v := (1 : Int32)) hx hb dX0_hasOwner_17 rfl ?_
    refine lv_goto (tgt := 22) hx hb dX0_hasOwner_18 (by decide) ?_
    cases h
    exact eRz hx hb hr hlk rfl rfl dX0_hasOwner_22
  · have h := if_f h c_2
    refine lv_iload_n hx hb dX0_hasOwner_5 rfl (lv_at hl 1 rfl) ?_
    refine lv_if_lt (tgt := 21) hx hb dX0_hasOwner_6 (by decide) (fun c_6 => ?_) (fun c_6 => ?_)
    · have h := if_t h c_6
      refine lv_iconst (v := (0 : Int32)) hx hb dX0_hasOwner_21 rfl ?_
      cases h
      exact eRz hx hb hr hlk rfl rfl dX0_hasOwner_22
    · have h := if_f h c_6
      refine lv_iload_n hx hb dX0_hasOwner_9 rfl (lv_at hl 1 rfl) ?_
      refine lv_aload_n hx hb dX0_hasOwner_10 rfl (lv_at hl 0 rfl) ?_
      refine va_get (ci := 0) (v := .int c_players) (C := RX0) (T := TX0) (N := 5) hx hb hts iu_X0 hown hK.1 hP 0 rfl rfl 0 (by decide) (hts (.fieldLink RX0 9 "SheetMarks$Facts" "players" "I") (List.mem_of_getElem? (i := 1) rfl)) (fun _ h9 => h9) rfl dX0_hasOwner_11 ?_
      refine lv_icmp_ge (tgt := 21) hx hb dX0_hasOwner_14 (by decide) (fun c_14 => ?_) (fun c_14 => ?_)
      · have h := if_t h c_14
        refine lv_iconst (v := (0 : Int32)) hx hb dX0_hasOwner_21 rfl ?_
        cases h
        exact eRz hx hb hr hlk rfl rfl dX0_hasOwner_22
      · have h := if_f h c_14
        refine lv_iconst (v := (1 : Int32)) hx hb dX0_hasOwner_17 rfl ?_
        refine lv_goto (tgt := 22) hx hb dX0_hasOwner_18 (by decide) ?_
        cases h
        exact eRz hx hb hr hlk rfl rfl dX0_hasOwner_22
noncomputable def f_X0_hasHand (c_players : Int32) (v1 : Int32) : Option (Int32) :=
  if (5 : Int32) ≤ v1 then (some (1 : Int32)) else (if v1 < (0 : Int32) then (some (0 : Int32)) else (if c_players ≤ v1 then (some (0 : Int32)) else (some (1 : Int32))))
set_option maxHeartbeats 4000000 in
set_option maxRecDepth 100000 in
theorem c_X0_hasHand (l : Launch) (dC : Nat → ClassId) (dI : Nat → Nat → Nat) (ck : Nat → ClassId) (a0 a0_kinds a0_owners a0_cards : Nat) (c_players : Int32) (c_told : Int32) (c_kinds : Nat → Int32) (c_owners : Nat → Int32) (c_cards : Nat → Int32) (v1 : Int32) (o0 : Int32) (h : f_X0_hasHand c_players v1 = some o0) : RD l yX0_hasHand wsX0_hasHand ({ frames := 0, cells := 0, slots := 0, locals := 0 }) [.ref a0, .int v1] (dC, dI) ck (wX0 ck a0 a0_kinds a0_owners a0_cards c_players c_told c_kinds c_owners c_cards) o0 := by
  refine RD.ofW (cc := cX0_hasHand) (maxL := 2) (ret := (some .boolean)) (by decide +kernel) rfl (Nat.le_of_ble_eq_true rfl) ?_
  intro p e s m below meth c hx hb hr hml hts hown hlk hK hP ls hl
  have hown : s.vm.findClass RX0 = some m.cls := hown
  have hl : lv_has ls 2 [(0, .ref a0), (1, .int v1)] := hl
  have iu_X0 : ∀ w ∈ u_ws RX0 TX0 5, w ∈ wsX0_hasHand := fun w h => List.mem_cons_of_mem _ (List.mem_append_right _ h)
  unfold f_X0_hasHand at h
  refine lv_iload_n hx hb dX0_hasHand_0 rfl (lv_at hl 1 rfl) ?_
  refine lv_iconst (v := (5 : Int32)) hx hb dX0_hasHand_1 rfl ?_
  refine lv_icmp_ge (tgt := 17) hx hb dX0_hasHand_2 (by decide) (fun c_2 => ?_) (fun c_2 => ?_)
  · have h := if_t h c_2
    refine lv_iconst (v := (1 : Int32)) hx hb dX0_hasHand_17 rfl ?_
    refine lv_goto (tgt := 22) hx hb dX0_hasHand_18 (by decide) ?_
    cases h
    exact eRz hx hb hr hlk rfl rfl dX0_hasHand_22
  · have h := if_f h c_2
    refine lv_iload_n hx hb dX0_hasHand_5 rfl (lv_at hl 1 rfl) ?_
    refine lv_if_lt (tgt := 21) hx hb dX0_hasHand_6 (by decide) (fun c_6 => ?_) (fun c_6 => ?_)
    · have h := if_t h c_6
      refine lv_iconst (v := (0 : Int32)) hx hb dX0_hasHand_21 rfl ?_
      cases h
      exact eRz hx hb hr hlk rfl rfl dX0_hasHand_22
    · have h := if_f h c_6
      refine lv_iload_n hx hb dX0_hasHand_9 rfl (lv_at hl 1 rfl) ?_
      refine lv_aload_n hx hb dX0_hasHand_10 rfl (lv_at hl 0 rfl) ?_
      refine va_get (ci := 0) (v := .int c_players) (C := RX0) (T := TX0) (N := 5) hx hb hts iu_X0 hown hK.1 hP 0 rfl rfl 0 (by decide) (hts (.fieldLink RX0 9 "SheetMarks$Facts" "players" "I") (List.mem_of_getElem? (i := 1) rfl)) (fun _ h9 => h9) rfl dX0_hasHand_11 ?_
      refine lv_icmp_ge (tgt := 21) hx hb dX0_hasHand_14 (by decide) (fun c_14 => ?_) (fun c_14 => ?_)
      · have h := if_t h c_14
        refine lv_iconst (v := (0 : Int32)) hx hb dX0_hasHand_21 rfl ?_
        cases h
        exact eRz hx hb hr hlk rfl rfl dX0_hasHand_22
      · have h := if_f h c_14
        refine lv_iconst (v := (1 : Int32)) hx hb dX0_hasHand_17 rfl ?_
        refine lv_goto (tgt := 22) hx hb dX0_hasHand_18 (by decide) ?_
        cases h
        exact eRz hx hb hr hlk rfl rfl dX0_hasHand_22
noncomputable def f_X0_sizeOfHand (c_players : Int32) (v1 : Int32) : Option (Int32) :=
  if v1 < (5 : Int32) then (nz (if (1 : Int32) < c_players then c_players else (1 : Int32)) (some (((((15 : Int32) + c_players) - (1 : Int32)) - v1) / (if (1 : Int32) < c_players then c_players else (1 : Int32))))) else (some (1 : Int32))
set_option maxHeartbeats 4000000 in
set_option maxRecDepth 100000 in
theorem c_X0_sizeOfHand (l : Launch) (dC : Nat → ClassId) (dI : Nat → Nat → Nat) (ck : Nat → ClassId) (a0 a0_kinds a0_owners a0_cards : Nat) (c_players : Int32) (c_told : Int32) (c_kinds : Nat → Int32) (c_owners : Nat → Int32) (c_cards : Nat → Int32) (v1 : Int32) (o0 : Int32) (h : f_X0_sizeOfHand c_players v1 = some o0) : RD l yX0_sizeOfHand wsX0_sizeOfHand ({ frames := 1, cells := 0, slots := 0, locals := 21 }) [.ref a0, .int v1] (dC, dI) ck (wX0 ck a0 a0_kinds a0_owners a0_cards c_players c_told c_kinds c_owners c_cards) o0 := by
  refine RD.ofW (cc := cX0_sizeOfHand) (maxL := 2) (ret := (some .int)) (by decide +kernel) rfl (Nat.le_of_ble_eq_true rfl) ?_
  intro p e s m below meth c hx hb hr hml hts hown hlk hK hP ls hl
  have hown : s.vm.findClass RX0 = some m.cls := hown
  have hl : lv_has ls 2 [(0, .ref a0), (1, .int v1)] := hl
  have iu_X0 : ∀ w ∈ u_ws RX0 TX0 5, w ∈ wsX0_sizeOfHand := fun w h => List.mem_cons_of_mem _ (List.mem_append_right _ h)
  unfold f_X0_sizeOfHand at h
  refine lv_iload_n hx hb dX0_sizeOfHand_0 rfl (lv_at hl 1 rfl) ?_
  refine lv_iconst (v := (5 : Int32)) hx hb dX0_sizeOfHand_1 rfl ?_
  refine lv_icmp_lt (tgt := 9) hx hb dX0_sizeOfHand_2 (by decide) (fun c_2 => ?_) (fun c_2 => ?_)
  · have h := if_t h c_2
    refine lv_bipush (v := (15 : Int32)) hx hb dX0_sizeOfHand_9 rfl ?_
    refine lv_aload_n hx hb dX0_sizeOfHand_11 rfl (lv_at hl 0 rfl) ?_
    refine va_get (ci := 0) (v := .int c_players) (C := RX0) (T := TX0) (N := 5) hx hb hts iu_X0 hown hK.1 hP 0 rfl rfl 0 (by decide) (hts (.fieldLink RX0 9 "SheetMarks$Facts" "players" "I") (List.mem_of_getElem? (i := 1) rfl)) (fun _ h9 => h9) rfl dX0_sizeOfHand_12 ?_
    refine lv_iadd hx hb dX0_sizeOfHand_15 ?_
    refine lv_iconst (v := (1 : Int32)) hx hb dX0_sizeOfHand_16 rfl ?_
    refine lv_isub hx hb dX0_sizeOfHand_17 ?_
    refine lv_iload_n hx hb dX0_sizeOfHand_18 rfl (lv_at hl 1 rfl) ?_
    refine lv_isub hx hb dX0_sizeOfHand_19 ?_
    refine lv_iconst (v := (1 : Int32)) hx hb dX0_sizeOfHand_20 rfl ?_
    refine lv_aload_n hx hb dX0_sizeOfHand_21 rfl (lv_at hl 0 rfl) ?_
    refine va_get (ci := 0) (v := .int c_players) (C := RX0) (T := TX0) (N := 5) hx hb hts iu_X0 hown hK.1 hP 0 rfl rfl 0 (by decide) (hts (.fieldLink RX0 9 "SheetMarks$Facts" "players" "I") (List.mem_of_getElem? (i := 1) rfl)) (fun _ h9 => h9) rfl dX0_sizeOfHand_22 ?_
    refine va_mmax hx hb (hml.trans hl.1.symm) hown (hts (.methodLink RX0 38 Lib.Math.max.name) (List.mem_of_getElem? (i := 2) rfl)) (hts (.static Lib.Math.max.name) (List.mem_of_getElem? (i := 3) rfl)) (hts (.initialized "java/lang/Math") (List.mem_of_getElem? (i := 4) rfl)) (hts (.code Lib.Math.max.name Lib.Math.max.code 2 (some .int)) (List.mem_of_getElem? (i := 5) rfl)) (Nat.le_of_ble_eq_true rfl) (Nat.le_of_ble_eq_true rfl) (Nat.zero_le _) (Nat.zero_le _) dX0_sizeOfHand_25 ?_
    obtain ⟨z_28, h⟩ := nz_e h
    refine lv_idiv hx hb dX0_sizeOfHand_28 z_28 ?_
    cases h
    exact eRi hx hb hr hlk rfl dX0_sizeOfHand_29
  · have h := if_f h c_2
    refine lv_iconst (v := (1 : Int32)) hx hb dX0_sizeOfHand_5 rfl ?_
    refine lv_goto (tgt := 29) hx hb dX0_sizeOfHand_6 (by decide) ?_
    cases h
    exact eRi hx hb hr hlk rfl dX0_sizeOfHand_29
noncomputable def f_X0_ownerOfHand (v0 : Int32) : Option (Int32) :=
  some (if (5 : Int32) < v0 then (5 : Int32) else v0)
set_option maxHeartbeats 4000000 in
set_option maxRecDepth 100000 in
theorem c_X0_ownerOfHand (l : Launch) (dC : Nat → ClassId) (dI : Nat → Nat → Nat) (ck : Nat → ClassId) (v0 : Int32) (o0 : Int32) (h : f_X0_ownerOfHand v0 = some o0) : RD l yX0_ownerOfHand wsX0_ownerOfHand ({ frames := 1, cells := 0, slots := 0, locals := 21 }) [.int v0] (dC, dI) ck ([]) o0 := by
  refine RD.ofW (cc := cX0_ownerOfHand) (maxL := 1) (ret := (some .int)) (by decide +kernel) rfl (Nat.le_of_ble_eq_true rfl) ?_
  intro p e s m below meth c hx hb hr hml hts hown hlk hK hP ls hl
  have hown : s.vm.findClass RX0 = some m.cls := hown
  have hl : lv_has ls 1 [(0, .int v0)] := hl
  unfold f_X0_ownerOfHand at h
  refine lv_iload_n hx hb dX0_ownerOfHand_0 rfl (lv_at hl 0 rfl) ?_
  refine lv_iconst (v := (5 : Int32)) hx hb dX0_ownerOfHand_1 rfl ?_
  refine va_mmin hx hb (hml.trans hl.1.symm) hown (hts (.methodLink RX0 44 Lib.Math.min.name) (List.mem_of_getElem? (i := 1) rfl)) (hts (.static Lib.Math.min.name) (List.mem_of_getElem? (i := 2) rfl)) (hts (.initialized "java/lang/Math") (List.mem_of_getElem? (i := 3) rfl)) (hts (.code Lib.Math.min.name Lib.Math.min.code 2 (some .int)) (List.mem_of_getElem? (i := 4) rfl)) (Nat.le_of_ble_eq_true rfl) (Nat.le_of_ble_eq_true rfl) (Nat.zero_le _) (Nat.zero_le _) dX0_ownerOfHand_2 ?_
  cases h
  exact eRi hx hb hr hlk rfl dX0_ownerOfHand_5
noncomputable def f_X5_cardsOfKind (v0 : Int32) : Option (Int32) :=
  some ((63 : Int32) <<< ((v0 * (6 : Int32)) &&& 31))
set_option maxHeartbeats 4000000 in
set_option maxRecDepth 100000 in
theorem c_X5_cardsOfKind (l : Launch) (dC : Nat → ClassId) (dI : Nat → Nat → Nat) (ck : Nat → ClassId) (v0 : Int32) (o0 : Int32) (h : f_X5_cardsOfKind v0 = some o0) : RD l yX5_cardsOfKind wsX5_cardsOfKind ({ frames := 0, cells := 0, slots := 0, locals := 0 }) [.int v0] (dC, dI) ck ([]) o0 := by
  refine RD.ofW (cc := cX5_cardsOfKind) (maxL := 1) (ret := (some .int)) (by decide +kernel) rfl (Nat.le_of_ble_eq_true rfl) ?_
  intro p e s m below meth c hx hb hr hml hts hown hlk hK hP ls hl
  have hown : s.vm.findClass RX5 = some m.cls := hown
  have hl : lv_has ls 1 [(0, .int v0)] := hl
  unfold f_X5_cardsOfKind at h
  refine lv_bipush (v := (63 : Int32)) hx hb dX5_cardsOfKind_0 rfl ?_
  refine lv_iload_n hx hb dX5_cardsOfKind_2 rfl (lv_at hl 0 rfl) ?_
  refine lv_bipush (v := (6 : Int32)) hx hb dX5_cardsOfKind_3 rfl ?_
  refine lv_imul hx hb dX5_cardsOfKind_5 ?_
  refine lv_ishl hx hb dX5_cardsOfKind_6 ?_
  cases h
  exact eRi hx hb hr hlk rfl dX5_cardsOfKind_7
noncomputable def f_X0_cardsForHand (v0 : Int32) : Option (Int32) :=
  if (5 : Int32) ≤ v0 then (ob1 (f_X5_cardsOfKind (v0 - (5 : Int32))) (fun (r_13 : Int32) => some r_13)) else (some (262143 : Int32))
set_option maxHeartbeats 4000000 in
set_option maxRecDepth 100000 in
theorem c_X0_cardsForHand (l : Launch) (dC : Nat → ClassId) (dI : Nat → Nat → Nat) (ck : Nat → ClassId) (v0 : Int32) (o0 : Int32) (h : f_X0_cardsForHand v0 = some o0) : RD l yX0_cardsForHand wsX0_cardsForHand ({ frames := 1, cells := 0, slots := 0, locals := 20 }) [.int v0] (dC, dI) ck ([]) o0 := by
  refine RD.ofW (cc := cX0_cardsForHand) (maxL := 1) (ret := (some .int)) (by decide +kernel) rfl (Nat.le_of_ble_eq_true rfl) ?_
  intro p e s m below meth c hx hb hr hml hts hown hlk hK hP ls hl
  have hown : s.vm.findClass RX0 = some m.cls := hown
  have hl : lv_has ls 1 [(0, .int v0)] := hl
  unfold f_X0_cardsForHand at h
  refine lv_iload_n hx hb dX0_cardsForHand_0 rfl (lv_at hl 0 rfl) ?_
  refine lv_iconst (v := (5 : Int32)) hx hb dX0_cardsForHand_1 rfl ?_
  refine lv_icmp_ge (tgt := 10) hx hb dX0_cardsForHand_2 (by decide) (fun c_2 => ?_) (fun c_2 => ?_)
  · have h := if_t h c_2
    refine lv_iload_n hx hb dX0_cardsForHand_10 rfl (lv_at hl 0 rfl) ?_
    refine lv_iconst (v := (5 : Int32)) hx hb dX0_cardsForHand_11 rfl ?_
    refine lv_isub hx hb dX0_cardsForHand_12 ?_
    obtain ⟨r_13, q_13, h⟩ := ob1_e h
    refine cRSN (wc := []) ⟨hx, hb, hml, hown, hts⟩ hK hP [] rfl (c_X5_cardsOfKind l dC dI ck (v0 - (5 : Int32)) r_13 q_13) ⟨va_cnB 1 hts gX0_cardsForHand_X5_cardsOfKind_n48 rfl rfl rfl (hK.2.m 6 rfl) (hts (.initialized RX5) (List.mem_of_getElem? (i := 3) rfl)) (by decide +kernel) ⟨Nat.le_of_ble_eq_true rfl, Nat.le_of_ble_eq_true rfl⟩, hts (.static yX5_cardsOfKind) (List.mem_of_getElem? (i := 2) rfl), trivial⟩ rfl hl.1 rfl (Nat.le_of_ble_eq_true rfl) dX0_cardsForHand_13 ⟨Nat.zero_le _, Nat.zero_le _⟩ ?_
    cases h
    exact eRi hx hb hr hlk rfl dX0_cardsForHand_16
  · have h := if_f h c_2
    refine lv_ldc hx hb hown (hts (.constant RX0 47 (262143)) (List.mem_of_getElem? (i := 1) rfl)) dX0_cardsForHand_5 ?_
    refine lv_goto (tgt := 16) hx hb dX0_cardsForHand_7 (by decide) ?_
    cases h
    exact eRi hx hb hr hlk rfl dX0_cardsForHand_16
noncomputable def f_J7_fill_53178_L5 (v1 : Int32) (rec5 : Int32 → (Nat → Int32) → Option ((Nat → Int32))) (v2_L5 : Int32) (p0_row_L5 : Nat → Int32) : Option ((Nat → Int32)) :=
  if (6 : Int32) ≤ v2_L5 then (some p0_row_L5) else (gd v2_L5 6 (lt' (upd p0_row_L5 v2_L5.toNatClampNeg v1) (fun p0_row_13 : Nat → Int32 => rec5 (v2_L5 + (1 : Int32)) p0_row_13)))
noncomputable def f_J7_fill_53178 (p0_row : Nat → Int32) (v1 : Int32) : Option ((Nat → Int32)) :=
  lo2 (f_J7_fill_53178_L5 v1) FU (0 : Int32) p0_row
set_option maxHeartbeats 4000000 in
set_option maxRecDepth 100000 in
theorem c_J7_fill_53178 (l : Launch) (dC : Nat → ClassId) (dI : Nat → Nat → Nat) (ck : Nat → ClassId) (b0 : Nat) (p0_row : Nat → Int32) (v1 : Int32) (o0 : Nat → Int32) (h : f_J7_fill_53178 p0_row v1 = some o0) : MV l yJ7_fill_53178 wsJ7_fill_53178 ({ frames := 0, cells := 0, slots := 0, locals := 0 }) [.ref b0, .int v1] (dC, dI) ck ([(b0, .inl (ck 0, 6, .inl p0_row))]) ([(b0, .inl (ck 0, 6, .inl o0))]) := by
  refine MV.ofW (cc := cJ7_fill_53178) (maxL := 4) (ret := none) (by decide +kernel) rfl (Nat.le_of_ble_eq_true rfl) ?_
  intro p e s m below meth c hx hb hr hml hts hown hlk hK hP A hA hD ls hl
  have hS : va_S A s.heap s.heap [] := va_S.rf
  have hown : s.vm.findClass RJ7 = some m.cls := hown
  have hl : lv_has ls 4 [(0, .ref b0), (1, .int v1)] := hl
  unfold f_J7_fill_53178 at h
  refine lv_iconst (v := (0 : Int32)) hx hb dJ7_fill_53178_0 rfl ?_
  refine lv_istore_n (lv' := [(2, .int (0 : Int32)), (0, .ref b0), (1, .int v1)]) hx hb dJ7_fill_53178_1 rfl hl (by decide) rfl (fun ls hl => ?_)
  refine lv_aload_n hx hb dJ7_fill_53178_2 rfl (lv_at hl 1 rfl) ?_
  refine va_alen (v := (6 : Int32)) hx hb hK.1 hP 0 0 rfl rfl rfl dJ7_fill_53178_3 ?_
  refine lv_istore_n (lv' := [(3, .int (6 : Int32)), (2, .int (0 : Int32)), (0, .ref b0), (1, .int v1)]) hx hb dJ7_fill_53178_4 rfl hl (by decide) rfl (fun ls hl => ?_)
  have hL5 : ∀ (n5 : Nat) (v2_L5 : Int32) (p0_row_L5 : Nat → Int32), lo2 (f_J7_fill_53178_L5 v1) n5 v2_L5 p0_row_L5 = some o0 → ∀ (H : Heap) (locs : List Loc), va_P (dC, dI) vwCl ([(b0, .inl (ck 0, 6, .inl p0_row_L5))]) H → va_D A ([(b0, .inl (ck 0, 6, .inl p0_row_L5))]) → va_S A s.heap H locs → ∀ ls : Array Slot, lv_has ls 4 [(3, .int (6 : Int32)), (2, .int v2_L5), (0, .ref b0), (1, .int v1)] → W p l e (headSpec wsJ7_fill_53178 ({ frames := 0, cells := 0, slots := 0, locals := 0 })).room s m [.ref b0, .int v1].toArray below meth c H locs 0 0 (MQ below (QV (dC, dI) ([(b0, .inl (ck 0, 6, .inl o0))]) A) [.ref b0, .int v1].toArray s 0 0 A) (F0 m 5 ls []) := by
    intro n5
    induction n5 with
    | zero => intro v2_L5 p0_row_L5 h; exact lo2_z h
    | succ n5 ih5 =>
      intro v2_L5 p0_row_L5 h H locs hP hD hS ls hl
      have h := lo2_s h
      unfold f_J7_fill_53178_L5 at h
      refine lv_iload_n hx hb dJ7_fill_53178_5 rfl (lv_at hl 1 rfl) ?_
      refine lv_iload_n hx hb dJ7_fill_53178_6 rfl (lv_at hl 0 rfl) ?_
      refine lv_icmp_ge (tgt := 20) hx hb dJ7_fill_53178_7 (by decide) (fun c_7 => ?_) (fun c_7 => ?_)
      · have h := if_t h c_7
        cases h
        exact eMv hx hb hr hlk hP hD hS dJ7_fill_53178_20
      · have h := if_f h c_7
        refine lv_aload_n hx hb dJ7_fill_53178_10 rfl (lv_at hl 2 rfl) ?_
        refine lv_iload_n hx hb dJ7_fill_53178_11 rfl (lv_at hl 1 rfl) ?_
        refine lv_iload_n hx hb dJ7_fill_53178_12 rfl (lv_at hl 3 rfl) ?_
        obtain ⟨g_13, h⟩ := gd_e h
        refine va_iast hx hb hK.1 hP hD hS 0 0 rfl rfl g_13 dJ7_fill_53178_13 (fun H locs hP hD hS => ?_)
        obtain ⟨p0_row_13, e_13⟩ : ∃ y : Nat → Int32, y = (upd p0_row_L5 v2_L5.toNatClampNeg v1) := ⟨_, rfl⟩
        have h := lt'_e e_13 h
        have hP : va_P (dC, dI) vwCl ([(b0, .inl (ck 0, 6, .inl p0_row_13))]) H := by subst e_13; exact hP
        have hD : va_D A ([(b0, .inl (ck 0, 6, .inl p0_row_13))]) := by subst e_13; exact hD
        refine lv_iinc (v := (v2_L5 + (1 : Int32))) (lv' := [(2, .int (v2_L5 + (1 : Int32))), (3, .int (6 : Int32)), (0, .ref b0), (1, .int v1)]) hx hb dJ7_fill_53178_14 hl (k := 1) rfl rfl (by decide) rfl (fun ls hl => ?_)
        refine lv_goto (tgt := 5) hx hb dJ7_fill_53178_17 (by decide) ?_
        exact ih5 _ _ h _ _ hP hD hS _ (lv_sub hl [1, 0, 2, 3] rfl)
  exact hL5 _ _ _ h _ _ hP hD hS _ (lv_sub hl [0, 1, 2, 3] rfl)
noncomputable def f_X5_isIn (v0 : Int32) (v1 : Int32) : Option (Int32) :=
  if ((v0 >>> (v1 &&& 31)) &&& (1 : Int32)) = (0 : Int32) then (some (0 : Int32)) else (some (1 : Int32))
set_option maxHeartbeats 4000000 in
set_option maxRecDepth 100000 in
theorem c_X5_isIn (l : Launch) (dC : Nat → ClassId) (dI : Nat → Nat → Nat) (ck : Nat → ClassId) (v0 : Int32) (v1 : Int32) (o0 : Int32) (h : f_X5_isIn v0 v1 = some o0) : RD l yX5_isIn wsX5_isIn ({ frames := 0, cells := 0, slots := 0, locals := 0 }) [.int v0, .int v1] (dC, dI) ck ([]) o0 := by
  refine RD.ofW (cc := cX5_isIn) (maxL := 2) (ret := (some .boolean)) (by decide +kernel) rfl (Nat.le_of_ble_eq_true rfl) ?_
  intro p e s m below meth c hx hb hr hml hts hown hlk hK hP ls hl
  have hown : s.vm.findClass RX5 = some m.cls := hown
  have hl : lv_has ls 2 [(0, .int v0), (1, .int v1)] := hl
  unfold f_X5_isIn at h
  refine lv_iload_n hx hb dX5_isIn_0 rfl (lv_at hl 0 rfl) ?_
  refine lv_iload_n hx hb dX5_isIn_1 rfl (lv_at hl 1 rfl) ?_
  refine lv_ishr hx hb dX5_isIn_2 ?_
  refine lv_iconst (v := (1 : Int32)) hx hb dX5_isIn_3 rfl ?_
  refine lv_iand hx hb dX5_isIn_4 ?_
  refine lv_if_eq (tgt := 12) hx hb dX5_isIn_5 (by decide) (fun c_5 => ?_) (fun c_5 => ?_)
  · have h := if_t h c_5
    refine lv_iconst (v := (0 : Int32)) hx hb dX5_isIn_12 rfl ?_
    cases h
    exact eRz hx hb hr hlk rfl rfl dX5_isIn_13
  · have h := if_f h c_5
    refine lv_iconst (v := (1 : Int32)) hx hb dX5_isIn_8 rfl ?_
    refine lv_goto (tgt := 13) hx hb dX5_isIn_9 (by decide) ?_
    cases h
    exact eRz hx hb hr hlk rfl rfl dX5_isIn_13
noncomputable def f_J6_bitCount_0f7a4 (v0 : Int32) : Option (Int32) :=
  lt' (v0 - (((v0.toUInt32 >>> ((1 : Int32).toUInt32 &&& Int32.toUInt32 31)).toInt32) &&& (1431655765 : Int32))) (fun v0_9 : Int32 => lt' ((v0_9 &&& (858993459 : Int32)) + (((v0_9.toUInt32 >>> ((2 : Int32).toUInt32 &&& Int32.toUInt32 31)).toInt32) &&& (858993459 : Int32))) (fun v0_23 : Int32 => lt' ((v0_23 + ((v0_23.toUInt32 >>> ((4 : Int32).toUInt32 &&& Int32.toUInt32 31)).toInt32)) &&& (252645135 : Int32)) (fun v0_33 : Int32 => lt' (v0_33 + ((v0_33.toUInt32 >>> ((8 : Int32).toUInt32 &&& Int32.toUInt32 31)).toInt32)) (fun v0_40 : Int32 => lt' (v0_40 + ((v0_40.toUInt32 >>> ((16 : Int32).toUInt32 &&& Int32.toUInt32 31)).toInt32)) (fun v0_47 : Int32 => some (v0_47 &&& (63 : Int32)))))))
set_option maxHeartbeats 4000000 in
set_option maxRecDepth 100000 in
theorem c_J6_bitCount_0f7a4 (l : Launch) (dC : Nat → ClassId) (dI : Nat → Nat → Nat) (ck : Nat → ClassId) (v0 : Int32) (o0 : Int32) (h : f_J6_bitCount_0f7a4 v0 = some o0) : RD l yJ6_bitCount_0f7a4 wsJ6_bitCount_0f7a4 ({ frames := 0, cells := 0, slots := 0, locals := 0 }) [.int v0] (dC, dI) ck ([]) o0 := by
  refine RD.ofW (cc := cJ6_bitCount_0f7a4) (maxL := 1) (ret := (some .int)) (by decide +kernel) rfl (Nat.le_of_ble_eq_true rfl) ?_
  intro p e s m below meth c hx hb hr hml hts hown hlk hK hP ls hl
  have hown : s.vm.findClass RJ6 = some m.cls := hown
  have hl : lv_has ls 1 [(0, .int v0)] := hl
  unfold f_J6_bitCount_0f7a4 at h
  refine lv_iload_n hx hb dJ6_bitCount_0f7a4_0 rfl (lv_at hl 0 rfl) ?_
  refine lv_iload_n hx hb dJ6_bitCount_0f7a4_1 rfl (lv_at hl 0 rfl) ?_
  refine lv_iconst (v := (1 : Int32)) hx hb dJ6_bitCount_0f7a4_2 rfl ?_
  refine lv_iushr (v := ((v0.toUInt32 >>> ((1 : Int32).toUInt32 &&& Int32.toUInt32 31)).toInt32)) hx hb dJ6_bitCount_0f7a4_3 rfl ?_
  refine lv_ldcw hx hb hown (hts (.constant RJ6 265 (1431655765)) (List.mem_of_getElem? (i := 1) rfl)) dJ6_bitCount_0f7a4_4 ?_
  refine lv_iand hx hb dJ6_bitCount_0f7a4_7 ?_
  refine lv_isub hx hb dJ6_bitCount_0f7a4_8 ?_
  refine lv_topi (fun v0_9 e_9 => ?_)
  have h := lt'_e e_9 h
  refine lv_istore_n (lv' := [(0, .int v0_9)]) hx hb dJ6_bitCount_0f7a4_9 rfl hl (by decide) rfl (fun ls hl => ?_)
  refine lv_iload_n hx hb dJ6_bitCount_0f7a4_10 rfl (lv_at hl 0 rfl) ?_
  refine lv_ldcw hx hb hown (hts (.constant RJ6 266 (858993459)) (List.mem_of_getElem? (i := 2) rfl)) dJ6_bitCount_0f7a4_11 ?_
  refine lv_iand hx hb dJ6_bitCount_0f7a4_14 ?_
  refine lv_iload_n hx hb dJ6_bitCount_0f7a4_15 rfl (lv_at hl 0 rfl) ?_
  refine lv_iconst (v := (2 : Int32)) hx hb dJ6_bitCount_0f7a4_16 rfl ?_
  refine lv_iushr (v := ((v0_9.toUInt32 >>> ((2 : Int32).toUInt32 &&& Int32.toUInt32 31)).toInt32)) hx hb dJ6_bitCount_0f7a4_17 rfl ?_
  refine lv_ldcw hx hb hown (hts (.constant RJ6 266 (858993459)) (List.mem_of_getElem? (i := 2) rfl)) dJ6_bitCount_0f7a4_18 ?_
  refine lv_iand hx hb dJ6_bitCount_0f7a4_21 ?_
  refine lv_iadd hx hb dJ6_bitCount_0f7a4_22 ?_
  refine lv_topi (fun v0_23 e_23 => ?_)
  have h := lt'_e e_23 h
  refine lv_istore_n (lv' := [(0, .int v0_23)]) hx hb dJ6_bitCount_0f7a4_23 rfl hl (by decide) rfl (fun ls hl => ?_)
  refine lv_iload_n hx hb dJ6_bitCount_0f7a4_24 rfl (lv_at hl 0 rfl) ?_
  refine lv_iload_n hx hb dJ6_bitCount_0f7a4_25 rfl (lv_at hl 0 rfl) ?_
  refine lv_iconst (v := (4 : Int32)) hx hb dJ6_bitCount_0f7a4_26 rfl ?_
  refine lv_iushr (v := ((v0_23.toUInt32 >>> ((4 : Int32).toUInt32 &&& Int32.toUInt32 31)).toInt32)) hx hb dJ6_bitCount_0f7a4_27 rfl ?_
  refine lv_iadd hx hb dJ6_bitCount_0f7a4_28 ?_
  refine lv_ldcw hx hb hown (hts (.constant RJ6 267 (252645135)) (List.mem_of_getElem? (i := 3) rfl)) dJ6_bitCount_0f7a4_29 ?_
  refine lv_iand hx hb dJ6_bitCount_0f7a4_32 ?_
  refine lv_topi (fun v0_33 e_33 => ?_)
  have h := lt'_e e_33 h
  refine lv_istore_n (lv' := [(0, .int v0_33)]) hx hb dJ6_bitCount_0f7a4_33 rfl hl (by decide) rfl (fun ls hl => ?_)
  refine lv_iload_n hx hb dJ6_bitCount_0f7a4_34 rfl (lv_at hl 0 rfl) ?_
  refine lv_iload_n hx hb dJ6_bitCount_0f7a4_35 rfl (lv_at hl 0 rfl) ?_
  refine lv_bipush (v := (8 : Int32)) hx hb dJ6_bitCount_0f7a4_36 rfl ?_
  refine lv_iushr (v := ((v0_33.toUInt32 >>> ((8 : Int32).toUInt32 &&& Int32.toUInt32 31)).toInt32)) hx hb dJ6_bitCount_0f7a4_38 rfl ?_
  refine lv_iadd hx hb dJ6_bitCount_0f7a4_39 ?_
  refine lv_topi (fun v0_40 e_40 => ?_)
  have h := lt'_e e_40 h
  refine lv_istore_n (lv' := [(0, .int v0_40)]) hx hb dJ6_bitCount_0f7a4_40 rfl hl (by decide) rfl (fun ls hl => ?_)
  refine lv_iload_n hx hb dJ6_bitCount_0f7a4_41 rfl (lv_at hl 0 rfl) ?_
  refine lv_iload_n hx hb dJ6_bitCount_0f7a4_42 rfl (lv_at hl 0 rfl) ?_
  refine lv_bipush (v := (16 : Int32)) hx hb dJ6_bitCount_0f7a4_43 rfl ?_
  refine lv_iushr (v := ((v0_40.toUInt32 >>> ((16 : Int32).toUInt32 &&& Int32.toUInt32 31)).toInt32)) hx hb dJ6_bitCount_0f7a4_45 rfl ?_
  refine lv_iadd hx hb dJ6_bitCount_0f7a4_46 ?_
  refine lv_topi (fun v0_47 e_47 => ?_)
  have h := lt'_e e_47 h
  refine lv_istore_n (lv' := [(0, .int v0_47)]) hx hb dJ6_bitCount_0f7a4_47 rfl hl (by decide) rfl (fun ls hl => ?_)
  refine lv_iload_n hx hb dJ6_bitCount_0f7a4_48 rfl (lv_at hl 0 rfl) ?_
  refine lv_bipush (v := (63 : Int32)) hx hb dJ6_bitCount_0f7a4_49 rfl ?_
  refine lv_iand hx hb dJ6_bitCount_0f7a4_51 ?_
  cases h
  exact eRi hx hb hr hlk rfl dJ6_bitCount_0f7a4_52
noncomputable def f_X5_isCard (v0 : Int32) : Option (Int32) :=
  if v0 < (0 : Int32) then (some (0 : Int32)) else (if (18 : Int32) ≤ v0 then (some (0 : Int32)) else (some (1 : Int32)))
set_option maxHeartbeats 4000000 in
set_option maxRecDepth 100000 in
theorem c_X5_isCard (l : Launch) (dC : Nat → ClassId) (dI : Nat → Nat → Nat) (ck : Nat → ClassId) (v0 : Int32) (o0 : Int32) (h : f_X5_isCard v0 = some o0) : RD l yX5_isCard wsX5_isCard ({ frames := 0, cells := 0, slots := 0, locals := 0 }) [.int v0] (dC, dI) ck ([]) o0 := by
  refine RD.ofW (cc := cX5_isCard) (maxL := 1) (ret := (some .boolean)) (by decide +kernel) rfl (Nat.le_of_ble_eq_true rfl) ?_
  intro p e s m below meth c hx hb hr hml hts hown hlk hK hP ls hl
  have hown : s.vm.findClass RX5 = some m.cls := hown
  have hl : lv_has ls 1 [(0, .int v0)] := hl
  unfold f_X5_isCard at h
  refine lv_iload_n hx hb dX5_isCard_0 rfl (lv_at hl 0 rfl) ?_
  refine lv_if_lt (tgt := 14) hx hb dX5_isCard_1 (by decide) (fun c_1 => ?_) (fun c_1 => ?_)
  · have h := if_t h c_1
    refine lv_iconst (v := (0 : Int32)) hx hb dX5_isCard_14 rfl ?_
    cases h
    exact eRz hx hb hr hlk rfl rfl dX5_isCard_15
  · have h := if_f h c_1
    refine lv_iload_n hx hb dX5_isCard_4 rfl (lv_at hl 0 rfl) ?_
    refine lv_bipush (v := (18 : Int32)) hx hb dX5_isCard_5 rfl ?_
    refine lv_icmp_ge (tgt := 14) hx hb dX5_isCard_7 (by decide) (fun c_7 => ?_) (fun c_7 => ?_)
    · have h := if_t h c_7
      refine lv_iconst (v := (0 : Int32)) hx hb dX5_isCard_14 rfl ?_
      cases h
      exact eRz hx hb hr hlk rfl rfl dX5_isCard_15
    · have h := if_f h c_7
      refine lv_iconst (v := (1 : Int32)) hx hb dX5_isCard_10 rfl ?_
      refine lv_goto (tgt := 15) hx hb dX5_isCard_11 (by decide) ?_
      cases h
      exact eRz hx hb hr hlk rfl rfl dX5_isCard_15
noncomputable def f_X5_isOfKind (v0 : Int32) : Option (Int32) :=
  if v0 < (0 : Int32) then (some (0 : Int32)) else (if (6 : Int32) ≤ v0 then (some (0 : Int32)) else (some (1 : Int32)))
set_option maxHeartbeats 4000000 in
set_option maxRecDepth 100000 in
theorem c_X5_isOfKind (l : Launch) (dC : Nat → ClassId) (dI : Nat → Nat → Nat) (ck : Nat → ClassId) (v0 : Int32) (o0 : Int32) (h : f_X5_isOfKind v0 = some o0) : RD l yX5_isOfKind wsX5_isOfKind ({ frames := 0, cells := 0, slots := 0, locals := 0 }) [.int v0] (dC, dI) ck ([]) o0 := by
  refine RD.ofW (cc := cX5_isOfKind) (maxL := 1) (ret := (some .boolean)) (by decide +kernel) rfl (Nat.le_of_ble_eq_true rfl) ?_
  intro p e s m below meth c hx hb hr hml hts hown hlk hK hP ls hl
  have hown : s.vm.findClass RX5 = some m.cls := hown
  have hl : lv_has ls 1 [(0, .int v0)] := hl
  unfold f_X5_isOfKind at h
  refine lv_iload_n hx hb dX5_isOfKind_0 rfl (lv_at hl 0 rfl) ?_
  refine lv_if_lt (tgt := 14) hx hb dX5_isOfKind_1 (by decide) (fun c_1 => ?_) (fun c_1 => ?_)
  · have h := if_t h c_1
    refine lv_iconst (v := (0 : Int32)) hx hb dX5_isOfKind_14 rfl ?_
    cases h
    exact eRz hx hb hr hlk rfl rfl dX5_isOfKind_15
  · have h := if_f h c_1
    refine lv_iload_n hx hb dX5_isOfKind_4 rfl (lv_at hl 0 rfl) ?_
    refine lv_bipush (v := (6 : Int32)) hx hb dX5_isOfKind_5 rfl ?_
    refine lv_icmp_ge (tgt := 14) hx hb dX5_isOfKind_7 (by decide) (fun c_7 => ?_) (fun c_7 => ?_)
    · have h := if_t h c_7
      refine lv_iconst (v := (0 : Int32)) hx hb dX5_isOfKind_14 rfl ?_
      cases h
      exact eRz hx hb hr hlk rfl rfl dX5_isOfKind_15
    · have h := if_f h c_7
      refine lv_iconst (v := (1 : Int32)) hx hb dX5_isOfKind_10 rfl ?_
      refine lv_goto (tgt := 15) hx hb dX5_isOfKind_11 (by decide) ?_
      cases h
      exact eRz hx hb hr hlk rfl rfl dX5_isOfKind_15
noncomputable def f_X5_areThree (v0 : Int32) (v1 : Int32) (v2 : Int32) : Option (Int32) :=
  ob1 (f_X5_isOfKind v0) (fun (r_1 : Int32) => if r_1 = (0 : Int32) then (some (0 : Int32)) else (ob1 (f_X5_isOfKind v1) (fun (r_8 : Int32) => if r_8 = (0 : Int32) then (some (0 : Int32)) else (ob1 (f_X5_isOfKind v2) (fun (r_15 : Int32) => if r_15 = (0 : Int32) then (some (0 : Int32)) else (some (1 : Int32)))))))
set_option maxHeartbeats 4000000 in
set_option maxRecDepth 100000 in
theorem c_X5_areThree (l : Launch) (dC : Nat → ClassId) (dI : Nat → Nat → Nat) (ck : Nat → ClassId) (v0 : Int32) (v1 : Int32) (v2 : Int32) (o0 : Int32) (h : f_X5_areThree v0 v1 v2 = some o0) : RD l yX5_areThree wsX5_areThree ({ frames := 1, cells := 0, slots := 0, locals := 20 }) [.int v0, .int v1, .int v2] (dC, dI) ck ([]) o0 := by
  refine RD.ofW (cc := cX5_areThree) (maxL := 3) (ret := (some .boolean)) (by decide +kernel) rfl (Nat.le_of_ble_eq_true rfl) ?_
  intro p e s m below meth c hx hb hr hml hts hown hlk hK hP ls hl
  have hown : s.vm.findClass RX5 = some m.cls := hown
  have hl : lv_has ls 3 [(0, .int v0), (1, .int v1), (2, .int v2)] := hl
  unfold f_X5_areThree at h
  refine lv_iload_n hx hb dX5_areThree_0 rfl (lv_at hl 0 rfl) ?_
  obtain ⟨r_1, q_1, h⟩ := ob1_e h
  refine cRS (wc := []) ⟨hx, hb, hml, hown, hts⟩ hK hP [] rfl (c_X5_isOfKind l dC dI ck v0 r_1 q_1) (va_cwS 1 hts gX5_areThree_X5_isOfKind rfl rfl rfl (by decide +kernel) ⟨Nat.le_of_ble_eq_true rfl, Nat.le_of_ble_eq_true rfl⟩) rfl hl.1 rfl (Nat.le_of_ble_eq_true rfl) dX5_areThree_1 ⟨Nat.zero_le _, Nat.zero_le _⟩ ?_
  refine lv_if_eq (tgt := 25) hx hb dX5_areThree_4 (by decide) (fun c_4 => ?_) (fun c_4 => ?_)
  · have h := if_t h c_4
    refine lv_iconst (v := (0 : Int32)) hx hb dX5_areThree_25 rfl ?_
    cases h
    exact eRz hx hb hr hlk rfl rfl dX5_areThree_26
  · have h := if_f h c_4
    refine lv_iload_n hx hb dX5_areThree_7 rfl (lv_at hl 1 rfl) ?_
    obtain ⟨r_8, q_8, h⟩ := ob1_e h
    refine cRS (wc := []) ⟨hx, hb, hml, hown, hts⟩ hK hP [] rfl (c_X5_isOfKind l dC dI ck v1 r_8 q_8) (va_cwS 1 hts gX5_areThree_X5_isOfKind rfl rfl rfl (by decide +kernel) ⟨Nat.le_of_ble_eq_true rfl, Nat.le_of_ble_eq_true rfl⟩) rfl hl.1 rfl (Nat.le_of_ble_eq_true rfl) dX5_areThree_8 ⟨Nat.zero_le _, Nat.zero_le _⟩ ?_
    refine lv_if_eq (tgt := 25) hx hb dX5_areThree_11 (by decide) (fun c_11 => ?_) (fun c_11 => ?_)
    · have h := if_t h c_11
      refine lv_iconst (v := (0 : Int32)) hx hb dX5_areThree_25 rfl ?_
      cases h
      exact eRz hx hb hr hlk rfl rfl dX5_areThree_26
    · have h := if_f h c_11
      refine lv_iload_n hx hb dX5_areThree_14 rfl (lv_at hl 2 rfl) ?_
      obtain ⟨r_15, q_15, h⟩ := ob1_e h
      refine cRS (wc := []) ⟨hx, hb, hml, hown, hts⟩ hK hP [] rfl (c_X5_isOfKind l dC dI ck v2 r_15 q_15) (va_cwS 1 hts gX5_areThree_X5_isOfKind rfl rfl rfl (by decide +kernel) ⟨Nat.le_of_ble_eq_true rfl, Nat.le_of_ble_eq_true rfl⟩) rfl hl.1 rfl (Nat.le_of_ble_eq_true rfl) dX5_areThree_15 ⟨Nat.zero_le _, Nat.zero_le _⟩ ?_
      refine lv_if_eq (tgt := 25) hx hb dX5_areThree_18 (by decide) (fun c_18 => ?_) (fun c_18 => ?_)
      · have h := if_t h c_18
        refine lv_iconst (v := (0 : Int32)) hx hb dX5_areThree_25 rfl ?_
        cases h
        exact eRz hx hb hr hlk rfl rfl dX5_areThree_26
      · have h := if_f h c_18
        refine lv_iconst (v := (1 : Int32)) hx hb dX5_areThree_21 rfl ?_
        refine lv_goto (tgt := 26) hx hb dX5_areThree_22 (by decide) ?_
        cases h
        exact eRz hx hb hr hlk rfl rfl dX5_areThree_26
noncomputable def f_X5_kindOfAnswer (v0 : Int32) : Option (Int32) :=
  if v0 = (1 : Int32) then (some (2 : Int32)) else (some (1 : Int32))
set_option maxHeartbeats 4000000 in
set_option maxRecDepth 100000 in
theorem c_X5_kindOfAnswer (l : Launch) (dC : Nat → ClassId) (dI : Nat → Nat → Nat) (ck : Nat → ClassId) (v0 : Int32) (o0 : Int32) (h : f_X5_kindOfAnswer v0 = some o0) : RD l yX5_kindOfAnswer wsX5_kindOfAnswer ({ frames := 0, cells := 0, slots := 0, locals := 0 }) [.int v0] (dC, dI) ck ([]) o0 := by
  refine RD.ofW (cc := cX5_kindOfAnswer) (maxL := 1) (ret := (some .int)) (by decide +kernel) rfl (Nat.le_of_ble_eq_true rfl) ?_
  intro p e s m below meth c hx hb hr hml hts hown hlk hK hP ls hl
  have hown : s.vm.findClass RX5 = some m.cls := hown
  have hl : lv_has ls 1 [(0, .int v0)] := hl
  unfold f_X5_kindOfAnswer at h
  refine lv_iload_n hx hb dX5_kindOfAnswer_0 rfl (lv_at hl 0 rfl) ?_
  refine lv_iconst (v := (1 : Int32)) hx hb dX5_kindOfAnswer_1 rfl ?_
  refine lv_icmp_ne (tgt := 9) hx hb dX5_kindOfAnswer_2 (by decide) (fun c_2 => ?_) (fun c_2 => ?_)
  · have h := if_f h c_2
    refine lv_iconst (v := (1 : Int32)) hx hb dX5_kindOfAnswer_9 rfl ?_
    cases h
    exact eRi hx hb hr hlk rfl dX5_kindOfAnswer_10
  · have h := if_t h c_2
    refine lv_iconst (v := (2 : Int32)) hx hb dX5_kindOfAnswer_5 rfl ?_
    refine lv_goto (tgt := 10) hx hb dX5_kindOfAnswer_6 (by decide) ?_
    cases h
    exact eRi hx hb hr hlk rfl dX5_kindOfAnswer_10
noncomputable def f_X5_three (v0 : Int32) (v1 : Int32) (v2 : Int32) : Option (Int32) :=
  some ((((1 : Int32) <<< (v0 &&& 31)) ||| ((1 : Int32) <<< (((6 : Int32) + v1) &&& 31))) ||| ((1 : Int32) <<< (((12 : Int32) + v2) &&& 31)))
set_option maxHeartbeats 4000000 in
set_option maxRecDepth 100000 in
theorem c_X5_three (l : Launch) (dC : Nat → ClassId) (dI : Nat → Nat → Nat) (ck : Nat → ClassId) (v0 : Int32) (v1 : Int32) (v2 : Int32) (o0 : Int32) (h : f_X5_three v0 v1 v2 = some o0) : RD l yX5_three wsX5_three ({ frames := 0, cells := 0, slots := 0, locals := 0 }) [.int v0, .int v1, .int v2] (dC, dI) ck ([]) o0 := by
  refine RD.ofW (cc := cX5_three) (maxL := 3) (ret := (some .int)) (by decide +kernel) rfl (Nat.le_of_ble_eq_true rfl) ?_
  intro p e s m below meth c hx hb hr hml hts hown hlk hK hP ls hl
  have hown : s.vm.findClass RX5 = some m.cls := hown
  have hl : lv_has ls 3 [(0, .int v0), (1, .int v1), (2, .int v2)] := hl
  unfold f_X5_three at h
  refine lv_iconst (v := (1 : Int32)) hx hb dX5_three_0 rfl ?_
  refine lv_iload_n hx hb dX5_three_1 rfl (lv_at hl 0 rfl) ?_
  refine lv_ishl hx hb dX5_three_2 ?_
  refine lv_iconst (v := (1 : Int32)) hx hb dX5_three_3 rfl ?_
  refine lv_bipush (v := (6 : Int32)) hx hb dX5_three_4 rfl ?_
  refine lv_iload_n hx hb dX5_three_6 rfl (lv_at hl 1 rfl) ?_
  refine lv_iadd hx hb dX5_three_7 ?_
  refine lv_ishl hx hb dX5_three_8 ?_
  refine lv_ior hx hb dX5_three_9 ?_
  refine lv_iconst (v := (1 : Int32)) hx hb dX5_three_10 rfl ?_
  refine lv_bipush (v := (12 : Int32)) hx hb dX5_three_11 rfl ?_
  refine lv_iload_n hx hb dX5_three_13 rfl (lv_at hl 2 rfl) ?_
  refine lv_iadd hx hb dX5_three_14 ?_
  refine lv_ishl hx hb dX5_three_15 ?_
  refine lv_ior hx hb dX5_three_16 ?_
  cases h
  exact eRi hx hb hr hlk rfl dX5_three_17
noncomputable def f_X5_lowestOf (v0 : Int32) : Option (Int32) :=
  if v0 = (0 : Int32) then (some (-6 : Int32)) else (ob1 (f_J6_bitCount_0f7a4 ((v0 &&& (-v0)) - (1 : Int32))) (fun (r_15 : Int32) => some r_15))
set_option maxHeartbeats 4000000 in
set_option maxRecDepth 100000 in
theorem c_X5_lowestOf (l : Launch) (dC : Nat → ClassId) (dI : Nat → Nat → Nat) (ck : Nat → ClassId) (v0 : Int32) (o0 : Int32) (h : f_X5_lowestOf v0 = some o0) : RD l yX5_lowestOf wsX5_lowestOf ({ frames := 1, cells := 0, slots := 0, locals := 20 }) [.int v0] (dC, dI) ck ([]) o0 := by
  refine RD.ofW (cc := cX5_lowestOf) (maxL := 1) (ret := (some .int)) (by decide +kernel) rfl (Nat.le_of_ble_eq_true rfl) ?_
  intro p e s m below meth c hx hb hr hml hts hown hlk hK hP ls hl
  have hown : s.vm.findClass RX5 = some m.cls := hown
  have hl : lv_has ls 1 [(0, .int v0)] := hl
  unfold f_X5_lowestOf at h
  refine lv_iload_n hx hb dX5_lowestOf_0 rfl (lv_at hl 0 rfl) ?_
  refine lv_if_ne (tgt := 9) hx hb dX5_lowestOf_1 (by decide) (fun c_1 => ?_) (fun c_1 => ?_)
  · have h := if_f h c_1
    refine lv_iload_n hx hb dX5_lowestOf_9 rfl (lv_at hl 0 rfl) ?_
    refine lv_iload_n hx hb dX5_lowestOf_10 rfl (lv_at hl 0 rfl) ?_
    refine lv_ineg hx hb dX5_lowestOf_11 ?_
    refine lv_iand hx hb dX5_lowestOf_12 ?_
    refine lv_iconst (v := (1 : Int32)) hx hb dX5_lowestOf_13 rfl ?_
    refine lv_isub hx hb dX5_lowestOf_14 ?_
    obtain ⟨r_15, q_15, h⟩ := ob1_e h
    refine cRS (wc := []) ⟨hx, hb, hml, hown, hts⟩ hK hP [] rfl (c_J6_bitCount_0f7a4 l dC dI ck ((v0 &&& (-v0)) - (1 : Int32)) r_15 q_15) (va_cwS 1 hts gX5_lowestOf_J6_bitCount_0f7a4 rfl rfl rfl (by decide +kernel) ⟨Nat.le_of_ble_eq_true rfl, Nat.le_of_ble_eq_true rfl⟩) rfl hl.1 rfl (Nat.le_of_ble_eq_true rfl) dX5_lowestOf_15 ⟨Nat.zero_le _, Nat.zero_le _⟩ ?_
    cases h
    exact eRi hx hb hr hlk rfl dX5_lowestOf_18
  · have h := if_t h c_1
    refine lv_bipush (v := (-6 : Int32)) hx hb dX5_lowestOf_4 rfl ?_
    refine lv_goto (tgt := 18) hx hb dX5_lowestOf_6 (by decide) ?_
    cases h
    exact eRi hx hb hr hlk rfl dX5_lowestOf_18
noncomputable def f_X5_lesser (v0 : Int32) (v1 : Int32) : Option (Int32) :=
  if v0 = (-6 : Int32) then (if v1 = (-6 : Int32) then (some (0 : Int32)) else (some v1)) else (if v1 = (-6 : Int32) then (some v0) else (some (if v1 < v0 then v1 else v0)))
set_option maxHeartbeats 4000000 in
set_option maxRecDepth 100000 in
theorem c_X5_lesser (l : Launch) (dC : Nat → ClassId) (dI : Nat → Nat → Nat) (ck : Nat → ClassId) (v0 : Int32) (v1 : Int32) (o0 : Int32) (h : f_X5_lesser v0 v1 = some o0) : RD l yX5_lesser wsX5_lesser ({ frames := 1, cells := 0, slots := 0, locals := 21 }) [.int v0, .int v1] (dC, dI) ck ([]) o0 := by
  refine RD.ofW (cc := cX5_lesser) (maxL := 2) (ret := (some .int)) (by decide +kernel) rfl (Nat.le_of_ble_eq_true rfl) ?_
  intro p e s m below meth c hx hb hr hml hts hown hlk hK hP ls hl
  have hown : s.vm.findClass RX5 = some m.cls := hown
  have hl : lv_has ls 2 [(0, .int v0), (1, .int v1)] := hl
  unfold f_X5_lesser at h
  refine lv_iload_n hx hb dX5_lesser_0 rfl (lv_at hl 0 rfl) ?_
  refine lv_bipush (v := (-6 : Int32)) hx hb dX5_lesser_1 rfl ?_
  refine lv_icmp_ne (tgt := 18) hx hb dX5_lesser_3 (by decide) (fun c_3 => ?_) (fun c_3 => ?_)
  · have h := if_f h c_3
    refine lv_iload_n hx hb dX5_lesser_18 rfl (lv_at hl 1 rfl) ?_
    refine lv_bipush (v := (-6 : Int32)) hx hb dX5_lesser_19 rfl ?_
    refine lv_icmp_ne (tgt := 28) hx hb dX5_lesser_21 (by decide) (fun c_21 => ?_) (fun c_21 => ?_)
    · have h := if_f h c_21
      refine lv_iload_n hx hb dX5_lesser_28 rfl (lv_at hl 0 rfl) ?_
      refine lv_iload_n hx hb dX5_lesser_29 rfl (lv_at hl 1 rfl) ?_
      refine va_mmin hx hb (hml.trans hl.1.symm) hown (hts (.methodLink RX5 187 Lib.Math.min.name) (List.mem_of_getElem? (i := 1) rfl)) (hts (.static Lib.Math.min.name) (List.mem_of_getElem? (i := 2) rfl)) (hts (.initialized "java/lang/Math") (List.mem_of_getElem? (i := 3) rfl)) (hts (.code Lib.Math.min.name Lib.Math.min.code 2 (some .int)) (List.mem_of_getElem? (i := 4) rfl)) (Nat.le_of_ble_eq_true rfl) (Nat.le_of_ble_eq_true rfl) (Nat.zero_le _) (Nat.zero_le _) dX5_lesser_30 ?_
      cases h
      exact eRi hx hb hr hlk rfl dX5_lesser_33
    · have h := if_t h c_21
      refine lv_iload_n hx hb dX5_lesser_24 rfl (lv_at hl 0 rfl) ?_
      refine lv_goto (tgt := 33) hx hb dX5_lesser_25 (by decide) ?_
      cases h
      exact eRi hx hb hr hlk rfl dX5_lesser_33
  · have h := if_t h c_3
    refine lv_iload_n hx hb dX5_lesser_6 rfl (lv_at hl 1 rfl) ?_
    refine lv_bipush (v := (-6 : Int32)) hx hb dX5_lesser_7 rfl ?_
    refine lv_icmp_ne (tgt := 16) hx hb dX5_lesser_9 (by decide) (fun c_9 => ?_) (fun c_9 => ?_)
    · have h := if_f h c_9
      refine lv_iload_n hx hb dX5_lesser_16 rfl (lv_at hl 1 rfl) ?_
      cases h
      exact eRi hx hb hr hlk rfl dX5_lesser_17
    · have h := if_t h c_9
      refine lv_iconst (v := (0 : Int32)) hx hb dX5_lesser_12 rfl ?_
      refine lv_goto (tgt := 17) hx hb dX5_lesser_13 (by decide) ?_
      cases h
      exact eRi hx hb hr hlk rfl dX5_lesser_17
