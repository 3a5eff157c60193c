noncomputable def f_X6_ofOwner (c_z : Nat → Int32) (c_yes : Nat → Int32) (c_no : Nat → Int32) (c_yesThen : Nat → Int32) (c_noThen : Nat → Int32) (c_yesRound : Nat → Int32) (c_yesRule : Nat → Int32) (c_noRound : Nat → Int32) (c_noRule : Nat → Int32) (c_rounds : Int32) (c_isMore : Int32) (v1 : Int32) (v2 : Int32) : Option (Int32 × (Nat → Int32) × (Nat → Int32) × (Nat → Int32) × (Nat → Int32) × (Nat → Int32) × (Nat → Int32) × (Nat → Int32) × (Nat → Int32) × Int32 × Int32) :=
  ob1 (f_X6_isOwner c_z v1) (fun (r_2 : Int32) => if r_2 = (0 : Int32) then (some ((-1 : Int32), c_yes, c_no, c_yesThen, c_noThen, c_yesRound, c_yesRule, c_noRound, c_noRule, c_rounds, c_isMore)) else (ob10 (f_X6_lay c_z c_yes c_no c_yesThen c_noThen c_yesRound c_yesRule c_noRound c_noRule c_rounds c_isMore) (fun (c_yes_11 : Nat → Int32) (c_no_11 : Nat → Int32) (c_yesThen_11 : Nat → Int32) (c_noThen_11 : Nat → Int32) (c_yesRound_11 : Nat → Int32) (c_yesRule_11 : Nat → Int32) (c_noRound_11 : Nat → Int32) (c_noRule_11 : Nat → Int32) (c_rounds_11 : Int32) (c_isMore_11 : Int32) => if v2 = (0 : Int32) then (ob1 (f_X6_sizeOf c_z v1) (fun (r_46 : Int32) => some (r_46, c_yes_11, c_no_11, c_yesThen_11, c_noThen_11, c_yesRound_11, c_yesRule_11, c_noRound_11, c_noRule_11, c_rounds_11, c_isMore_11))) else (if v2 = (1 : Int32) then (gd v1 6 (some ((c_yes_11 v1.toNatClampNeg), c_yes_11, c_no_11, c_yesThen_11, c_noThen_11, c_yesRound_11, c_yesRule_11, c_noRound_11, c_noRule_11, c_rounds_11, c_isMore_11))) else (if v2 = (2 : Int32) then (gd v1 6 (some ((c_no_11 v1.toNatClampNeg), c_yes_11, c_no_11, c_yesThen_11, c_noThen_11, c_yesRound_11, c_yesRule_11, c_noRound_11, c_noRule_11, c_rounds_11, c_isMore_11))) else (if v2 = (3 : Int32) then (gd v1 6 (gd v1 6 (some (((262143 : Int32) &&& (((c_yes_11 v1.toNatClampNeg) ||| (c_no_11 v1.toNatClampNeg)) ^^^ (-1 : Int32))), c_yes_11, c_no_11, c_yesThen_11, c_noThen_11, c_yesRound_11, c_yesRule_11, c_noRound_11, c_noRule_11, c_rounds_11, c_isMore_11)))) else (some ((-2 : Int32), c_yes_11, c_no_11, c_yesThen_11, c_noThen_11, c_yesRound_11, c_yesRule_11, c_noRound_11, c_noRule_11, c_rounds_11, c_isMore_11))))))))
set_option maxHeartbeats 4000000 in
set_option maxRecDepth 100000 in
theorem c_X6_ofOwner (l : Launch) (dC : Nat → ClassId) (dI : Nat → Nat → Nat) (ck : Nat → ClassId) (a0 a0_z a0_past a0_slots a0_isSaved a0_pad a0_yes a0_no a0_yesThen a0_noThen a0_yesRound a0_yesRule a0_noRound a0_noRule a0_orders : Nat) (c_z : Nat → Int32) (c_past : Nat → Int32) (c_slots : Nat → Int32) (c_isSaved : Nat → Int32) (c_pastMany : Int32) (c_pad : Nat → Int32) (c_typed : Int32) (c_yes : Nat → Int32) (c_no : Nat → Int32) (c_yesThen : Nat → Int32) (c_noThen : Nat → Int32) (c_yesRound : Nat → Int32) (c_yesRule : Nat → Int32) (c_noRound : Nat → Int32) (c_noRule : Nat → Int32) (c_rounds : Int32) (c_isMore : Int32) (c_orders : Nat → Int32) (c_orderMany : Int32) (c_spot : Int32) (c_bad : Int32) (v1 : Int32) (v2 : Int32) (o0 : Int32) (o1 : Nat → Int32) (o2 : Nat → Int32) (o3 : Nat → Int32) (o4 : Nat → Int32) (o5 : Nat → Int32) (o6 : Nat → Int32) (o7 : Nat → Int32) (o8 : Nat → Int32) (o9 : Int32) (o10 : Int32) (h : f_X6_ofOwner c_z c_yes c_no c_yesThen c_noThen c_yesRound c_yesRule c_noRound c_noRule c_rounds c_isMore v1 v2 = some (o0, o1, o2, o3, o4, o5, o6, o7, o8, o9, o10)) : MI l yX6_ofOwner wsX6_ofOwner ({ frames := 6, cells := 0, slots := 0, locals := 139 }) [.ref a0, .int v1, .int v2] (dC, dI) ck (wX6 ck a0 a0_z a0_past a0_slots a0_isSaved a0_pad a0_yes a0_no a0_yesThen a0_noThen a0_yesRound a0_yesRule a0_noRound a0_noRule a0_orders c_z c_past c_slots c_isSaved c_pastMany c_pad c_typed c_yes c_no c_yesThen c_noThen c_yesRound c_yesRule c_noRound c_noRule c_rounds c_isMore c_orders c_orderMany c_spot c_bad) (wX6 ck a0 a0_z a0_past a0_slots a0_isSaved a0_pad a0_yes a0_no a0_yesThen a0_noThen a0_yesRound a0_yesRule a0_noRound a0_noRule a0_orders c_z c_past c_slots c_isSaved c_pastMany c_pad c_typed o1 o2 o3 o4 o5 o6 o7 o8 o9 o10 c_orders c_orderMany c_spot c_bad) o0 := by
  refine MI.ofW (cc := cX6_ofOwner) (maxL := 3) (ret := (some .int)) (by decide +kernel) rfl (Nat.le_of_ble_eq_true rfl) ?_
  intro p e s m below meth c hx hb hr hml hts hown hlk hK hP A hA hD ls hl
  have hS : va_S A s.heap s.heap [] := va_S.rf
  have hown : s.vm.findClass RX6 = some m.cls := hown
  have hl : lv_has ls 3 [(0, .ref a0), (1, .int v1), (2, .int v2)] := hl
  have iu_X6 : ∀ w ∈ u_ws RX6 TX6 21, w ∈ wsX6_ofOwner := fun w h => List.mem_cons_of_mem _ (List.mem_append_right _ h)
  unfold f_X6_ofOwner at h
  refine lv_aload_n hx hb dX6_ofOwner_0 rfl (lv_at hl 0 rfl) ?_
  refine lv_iload_n hx hb dX6_ofOwner_1 rfl (lv_at hl 1 rfl) ?_
  obtain ⟨r_2, q_2, h⟩ := ob1_e h
  refine cRV (wc := wX6 ck a0 a0_z a0_past a0_slots a0_isSaved a0_pad a0_yes a0_no a0_yesThen a0_noThen a0_yesRound a0_yesRule a0_noRound a0_noRule a0_orders c_z c_past c_slots c_isSaved c_pastMany c_pad c_typed c_yes c_no c_yesThen c_noThen c_yesRound c_yesRule c_noRound c_noRule c_rounds c_isMore c_orders c_orderMany c_spot c_bad) ⟨hx, hb, hml, hown, hts⟩ hK hP [0, 1, 2, 3, 4, 5, 6, 7, 8, 9, 10, 11, 12, 13, 14] rfl (c_X6_isOwner l dC dI ck a0 a0_z a0_past a0_slots a0_isSaved a0_pad a0_yes a0_no a0_yesThen a0_noThen a0_yesRound a0_yesRule a0_noRound a0_noRule a0_orders c_z c_past c_slots c_isSaved c_pastMany c_pad c_typed c_yes c_no c_yesThen c_noThen c_yesRound c_yesRule c_noRound c_noRule c_rounds c_isMore c_orders c_orderMany c_spot c_bad v1 r_2 q_2) (cwV 1 hts gX6_ofOwner_X6_isOwner rfl rfl rfl (by decide +kernel) ⟨Nat.le_of_ble_eq_true rfl, Nat.le_of_ble_eq_true rfl⟩) 0 rfl rfl rfl hl.1 rfl (Nat.le_of_ble_eq_true rfl) dX6_ofOwner_2 ⟨Nat.zero_le _, Nat.zero_le _⟩ ?_
  refine lv_if_ne (tgt := 10) hx hb dX6_ofOwner_5 (by decide) (fun c_5 => ?_) (fun c_5 => ?_)
  · have h := if_f h c_5
    refine lv_aload_n hx hb dX6_ofOwner_10 rfl (lv_at hl 0 rfl) ?_
    obtain ⟨c_yes_11, c_no_11, c_yesThen_11, c_noThen_11, c_yesRound_11, c_yesRule_11, c_noRound_11, c_noRule_11, c_rounds_11, c_isMore_11, q_11, h⟩ := ob10_e h
    refine cMV (wc := wX6 ck a0 a0_z a0_past a0_slots a0_isSaved a0_pad a0_yes a0_no a0_yesThen a0_noThen a0_yesRound a0_yesRule a0_noRound a0_noRule a0_orders c_z c_past c_slots c_isSaved c_pastMany c_pad c_typed c_yes c_no c_yesThen c_noThen c_yesRound c_yesRule c_noRound c_noRule c_rounds c_isMore c_orders c_orderMany c_spot c_bad) (wr := []) (w1 := wX6 ck a0 a0_z a0_past a0_slots a0_isSaved a0_pad a0_yes a0_no a0_yesThen a0_noThen a0_yesRound a0_yesRule a0_noRound a0_noRule a0_orders c_z c_past c_slots c_isSaved c_pastMany c_pad c_typed c_yes_11 c_no_11 c_yesThen_11 c_noThen_11 c_yesRound_11 c_yesRule_11 c_noRound_11 c_noRule_11 c_rounds_11 c_isMore_11 c_orders c_orderMany c_spot c_bad) (wn := wX6 ck a0 a0_z a0_past a0_slots a0_isSaved a0_pad a0_yes a0_no a0_yesThen a0_noThen a0_yesRound a0_yesRule a0_noRound a0_noRule a0_orders c_z c_past c_slots c_isSaved c_pastMany c_pad c_typed c_yes_11 c_no_11 c_yesThen_11 c_noThen_11 c_yesRound_11 c_yesRule_11 c_noRound_11 c_noRule_11 c_rounds_11 c_isMore_11 c_orders c_orderMany c_spot c_bad) ⟨hx, hb, hml, hown, hts⟩ hK hP hD hS hA [0, 1, 2, 3, 4, 5, 6, 7, 8, 9, 10, 11, 12, 13, 14] [] [0, 1, 2, 3, 4, 5, 6, 7, 8, 9, 10, 11, 12, 13, 14] rfl (by decide) rfl (by decide) (by decide) rfl (by decide) (c_X6_lay l dC dI ck a0 a0_z a0_past a0_slots a0_isSaved a0_pad a0_yes a0_no a0_yesThen a0_noThen a0_yesRound a0_yesRule a0_noRound a0_noRule a0_orders c_z c_past c_slots c_isSaved c_pastMany c_pad c_typed c_yes c_no c_yesThen c_noThen c_yesRound c_yesRule c_noRound c_noRule c_rounds c_isMore c_orders c_orderMany c_spot c_bad c_yes_11 c_no_11 c_yesThen_11 c_noThen_11 c_yesRound_11 c_yesRule_11 c_noRound_11 c_noRule_11 c_rounds_11 c_isMore_11 q_11) (cwV 0 hts gX6_ofOwner_X6_lay rfl rfl rfl (by decide +kernel) ⟨Nat.le_of_ble_eq_true rfl, Nat.le_of_ble_eq_true rfl⟩) 0 rfl rfl rfl hl.1 rfl (Nat.le_of_ble_eq_true rfl) dX6_ofOwner_11 ⟨Nat.zero_le _, Nat.zero_le _⟩ (fun H locs hP hD hS => ?_)
    refine lv_iload_n hx hb dX6_ofOwner_14 rfl (lv_at hl 2 rfl) ?_
    rcases Decidable.em (v2 = (0 : Int32)) with c_15_0 | c_15_0
    · have h := if_t h c_15_0
      refine lv_tableIn (tgt := 44) hx hb dX6_ofOwner_15 (by rw [c_15_0]; decide) (by rw [c_15_0]; decide) (by rw [c_15_0]; rfl) (by decide) ?_
      refine lv_aload_n hx hb dX6_ofOwner_44 rfl (lv_at hl 0 rfl) ?_
      refine lv_iload_n hx hb dX6_ofOwner_45 rfl (lv_at hl 1 rfl) ?_
      obtain ⟨r_46, q_46, h⟩ := ob1_e h
      refine cRV (wc := wX6 ck a0 a0_z a0_past a0_slots a0_isSaved a0_pad a0_yes a0_no a0_yesThen a0_noThen a0_yesRound a0_yesRule a0_noRound a0_noRule a0_orders c_z c_past c_slots c_isSaved c_pastMany c_pad c_typed c_yes_11 c_no_11 c_yesThen_11 c_noThen_11 c_yesRound_11 c_yesRule_11 c_noRound_11 c_noRule_11 c_rounds_11 c_isMore_11 c_orders c_orderMany c_spot c_bad) ⟨hx, hb, hml, hown, hts⟩ hK hP [0, 1, 2, 3, 4, 5, 6, 7, 8, 9, 10, 11, 12, 13, 14] rfl (c_X6_sizeOf l dC dI ck a0 a0_z a0_past a0_slots a0_isSaved a0_pad a0_yes a0_no a0_yesThen a0_noThen a0_yesRound a0_yesRule a0_noRound a0_noRule a0_orders c_z c_past c_slots c_isSaved c_pastMany c_pad c_typed c_yes_11 c_no_11 c_yesThen_11 c_noThen_11 c_yesRound_11 c_yesRule_11 c_noRound_11 c_noRule_11 c_rounds_11 c_isMore_11 c_orders c_orderMany c_spot c_bad v1 r_46 q_46) (cwV 1 hts gX6_ofOwner_X6_sizeOf rfl rfl rfl (by decide +kernel) ⟨Nat.le_of_ble_eq_true rfl, Nat.le_of_ble_eq_true rfl⟩) 0 rfl rfl rfl hl.1 rfl (Nat.le_of_ble_eq_true rfl) dX6_ofOwner_46 ⟨Nat.zero_le _, Nat.zero_le _⟩ ?_
      cases h
      exact eMi hx hb hr hlk hP hD hS rfl dX6_ofOwner_49
    have h := if_f h c_15_0
    rcases Decidable.em (v2 = (1 : Int32)) with c_15_1 | c_15_1
    · have h := if_t h c_15_1
      refine lv_tableIn (tgt := 50) hx hb dX6_ofOwner_15 (by rw [c_15_1]; decide) (by rw [c_15_1]; decide) (by rw [c_15_1]; rfl) (by decide) ?_
      refine lv_aload_n hx hb dX6_ofOwner_50 rfl (lv_at hl 0 rfl) ?_
      refine va_get (ci := 6) (v := .ref a0_yes) (C := RX6) (T := TX6) (N := 21) hx hb hts iu_X6 hown hK.1 hP 0 rfl rfl 7 (by decide) (hts (.fieldLink RX6 27 "SheetMarksModel" "yes" "[I") (List.mem_of_getElem? (i := 1) rfl)) (fun _ h9 => h9) rfl dX6_ofOwner_51 ?_
      refine lv_iload_n hx hb dX6_ofOwner_54 rfl (lv_at hl 1 rfl) ?_
      obtain ⟨g_55, h⟩ := gd_e h
      refine va_iald hx hb hK.1 hP 6 0 rfl rfl g_55 dX6_ofOwner_55 ?_
      cases h
      exact eMi hx hb hr hlk hP hD hS rfl dX6_ofOwner_56
    have h := if_f h c_15_1
    rcases Decidable.em (v2 = (2 : Int32)) with c_15_2 | c_15_2
    · have h := if_t h c_15_2
      refine lv_tableIn (tgt := 57) hx hb dX6_ofOwner_15 (by rw [c_15_2]; decide) (by rw [c_15_2]; decide) (by rw [c_15_2]; rfl) (by decide) ?_
      refine lv_aload_n hx hb dX6_ofOwner_57 rfl (lv_at hl 0 rfl) ?_
      refine va_get (ci := 6) (v := .ref a0_no) (C := RX6) (T := TX6) (N := 21) hx hb hts iu_X6 hown hK.1 hP 0 rfl rfl 8 (by decide) (hts (.fieldLink RX6 30 "SheetMarksModel" "no" "[I") (List.mem_of_getElem? (i := 2) rfl)) (fun _ h9 => h9) rfl dX6_ofOwner_58 ?_
      refine lv_iload_n hx hb dX6_ofOwner_61 rfl (lv_at hl 1 rfl) ?_
      obtain ⟨g_62, h⟩ := gd_e h
      refine va_iald hx hb hK.1 hP 7 0 rfl rfl g_62 dX6_ofOwner_62 ?_
      cases h
      exact eMi hx hb hr hlk hP hD hS rfl dX6_ofOwner_63
    have h := if_f h c_15_2
    rcases Decidable.em (v2 = (3 : Int32)) with c_15_3 | c_15_3
    · have h := if_t h c_15_3
      refine lv_tableIn (tgt := 64) hx hb dX6_ofOwner_15 (by rw [c_15_3]; decide) (by rw [c_15_3]; decide) (by rw [c_15_3]; rfl) (by decide) ?_
      refine lv_ldc hx hb hown (hts (.constant RX6 100 (262143)) (List.mem_of_getElem? (i := 3) rfl)) dX6_ofOwner_64 ?_
      refine lv_aload_n hx hb dX6_ofOwner_66 rfl (lv_at hl 0 rfl) ?_
      refine va_get (ci := 6) (v := .ref a0_yes) (C := RX6) (T := TX6) (N := 21) hx hb hts iu_X6 hown hK.1 hP 0 rfl rfl 7 (by decide) (hts (.fieldLink RX6 27 "SheetMarksModel" "yes" "[I") (List.mem_of_getElem? (i := 1) rfl)) (fun _ h9 => h9) rfl dX6_ofOwner_67 ?_
      refine lv_iload_n hx hb dX6_ofOwner_70 rfl (lv_at hl 1 rfl) ?_
      obtain ⟨g_71, h⟩ := gd_e h
      refine va_iald hx hb hK.1 hP 6 0 rfl rfl g_71 dX6_ofOwner_71 ?_
      refine lv_aload_n hx hb dX6_ofOwner_72 rfl (lv_at hl 0 rfl) ?_
      refine va_get (ci := 6) (v := .ref a0_no) (C := RX6) (T := TX6) (N := 21) hx hb hts iu_X6 hown hK.1 hP 0 rfl rfl 8 (by decide) (hts (.fieldLink RX6 30 "SheetMarksModel" "no" "[I") (List.mem_of_getElem? (i := 2) rfl)) (fun _ h9 => h9) rfl dX6_ofOwner_73 ?_
      refine lv_iload_n hx hb dX6_ofOwner_76 rfl (lv_at hl 1 rfl) ?_
      obtain ⟨g_77, h⟩ := gd_e h
      refine va_iald hx hb hK.1 hP 7 0 rfl rfl g_77 dX6_ofOwner_77 ?_
      refine lv_ior hx hb dX6_ofOwner_78 ?_
      refine lv_iconst (v := (-1 : Int32)) hx hb dX6_ofOwner_79 rfl ?_
      refine lv_ixor hx hb dX6_ofOwner_80 ?_
      refine lv_iand hx hb dX6_ofOwner_81 ?_
      cases h
      exact eMi hx hb hr hlk hP hD hS rfl dX6_ofOwner_82
    have h := if_f h c_15_3
    refine lv_tableOut (tgt := 83) hx hb dX6_ofOwner_15 (by have t_0 := ti_ne (n := 0) rfl c_15_0; have t_1 := ti_ne (n := 1) rfl c_15_1; have t_2 := ti_ne (n := 2) rfl c_15_2; have t_3 := ti_ne (n := 3) rfl c_15_3; omega) (by decide) ?_
    refine lv_bipush (v := (-2 : Int32)) hx hb dX6_ofOwner_83 rfl ?_
    cases h
    exact eMi hx hb hr hlk hP hD hS rfl dX6_ofOwner_85
  · have h := if_t h c_5
    refine lv_iconst (v := (-1 : Int32)) hx hb dX6_ofOwner_8 rfl ?_
    cases h
    exact eMi hx hb hr hlk hP hD hS rfl dX6_ofOwner_9
noncomputable def f_X6_ofFact (c_z : Nat → Int32) (v1 : Int32) (v2 : Int32) : Option (Int32) :=
  if v1 < (0 : Int32) then (some (-1 : Int32)) else (gd (1 : Int32) 207 (if v1 < (c_z (1 : Int32).toNatClampNeg) then (ob1 (f_X6_in v2 (0 : Int32) (4 : Int32)) (fun (r_19 : Int32) => if r_19 = (0 : Int32) then (some (-2 : Int32)) else (ob1 (f_X6_fact c_z v1 v2) (fun (r_28 : Int32) => some r_28)))) else (some (-1 : Int32))))
set_option maxHeartbeats 4000000 in
set_option maxRecDepth 100000 in
theorem c_X6_ofFact (l : Launch) (dC : Nat → ClassId) (dI : Nat → Nat → Nat) (ck : Nat → ClassId) (a0 a0_z a0_past a0_slots a0_isSaved a0_pad a0_yes a0_no a0_yesThen a0_noThen a0_yesRound a0_yesRule a0_noRound a0_noRule a0_orders : Nat) (c_z : Nat → Int32) (c_past : Nat → Int32) (c_slots : Nat → Int32) (c_isSaved : Nat → Int32) (c_pastMany : Int32) (c_pad : Nat → Int32) (c_typed : Int32) (c_yes : Nat → Int32) (c_no : Nat → Int32) (c_yesThen : Nat → Int32) (c_noThen : Nat → Int32) (c_yesRound : Nat → Int32) (c_yesRule : Nat → Int32) (c_noRound : Nat → Int32) (c_noRule : Nat → Int32) (c_rounds : Int32) (c_isMore : Int32) (c_orders : Nat → Int32) (c_orderMany : Int32) (c_spot : Int32) (c_bad : Int32) (v1 : Int32) (v2 : Int32) (o0 : Int32) (h : f_X6_ofFact c_z v1 v2 = some o0) : RD l yX6_ofFact wsX6_ofFact ({ frames := 1, cells := 0, slots := 0, locals := 22 }) [.ref a0, .int v1, .int v2] (dC, dI) ck (wX6 ck a0 a0_z a0_past a0_slots a0_isSaved a0_pad a0_yes a0_no a0_yesThen a0_noThen a0_yesRound a0_yesRule a0_noRound a0_noRule a0_orders c_z c_past c_slots c_isSaved c_pastMany c_pad c_typed c_yes c_no c_yesThen c_noThen c_yesRound c_yesRule c_noRound c_noRule c_rounds c_isMore c_orders c_orderMany c_spot c_bad) o0 := by
  refine RD.ofW (cc := cX6_ofFact) (maxL := 3) (ret := (some .int)) (by decide +kernel) rfl (Nat.le_of_ble_eq_true rfl) ?_
  intro p e s m below meth c hx hb hr hml hts hown hlk hK hP ls hl
  have hown : s.vm.findClass RX6 = some m.cls := hown
  have hl : lv_has ls 3 [(0, .ref a0), (1, .int v1), (2, .int v2)] := hl
  have iu_X6 : ∀ w ∈ u_ws RX6 TX6 21, w ∈ wsX6_ofFact := fun w h => List.mem_cons_of_mem _ (List.mem_append_right _ h)
  unfold f_X6_ofFact at h
  refine lv_iload_n hx hb dX6_ofFact_0 rfl (lv_at hl 1 rfl) ?_
  refine lv_if_lt (tgt := 14) hx hb dX6_ofFact_1 (by decide) (fun c_1 => ?_) (fun c_1 => ?_)
  · have h := if_t h c_1
    refine lv_iconst (v := (-1 : Int32)) hx hb dX6_ofFact_14 rfl ?_
    cases h
    exact eRi hx hb hr hlk rfl dX6_ofFact_15
  · have h := if_f h c_1
    refine lv_iload_n hx hb dX6_ofFact_4 rfl (lv_at hl 1 rfl) ?_
    refine lv_aload_n hx hb dX6_ofFact_5 rfl (lv_at hl 0 rfl) ?_
    refine va_get (ci := 6) (v := .ref a0_z) (C := RX6) (T := TX6) (N := 21) hx hb hts iu_X6 hown hK.1 hP 0 rfl rfl 0 (by decide) (hts (.fieldLink RX6 7 "SheetMarksModel" "z" "[I") (List.mem_of_getElem? (i := 1) rfl)) (fun _ h9 => h9) rfl dX6_ofFact_6 ?_
    refine lv_iconst (v := (1 : Int32)) hx hb dX6_ofFact_9 rfl ?_
    obtain ⟨g_10, h⟩ := gd_e h
    refine va_iald hx hb hK.1 hP 1 0 rfl rfl g_10 dX6_ofFact_10 ?_
    refine lv_icmp_lt (tgt := 16) hx hb dX6_ofFact_11 (by decide) (fun c_11 => ?_) (fun c_11 => ?_)
    · have h := if_t h c_11
      refine lv_iload_n hx hb dX6_ofFact_16 rfl (lv_at hl 2 rfl) ?_
      refine lv_iconst (v := (0 : Int32)) hx hb dX6_ofFact_17 rfl ?_
      refine lv_iconst (v := (4 : Int32)) hx hb dX6_ofFact_18 rfl ?_
      obtain ⟨r_19, q_19, h⟩ := ob1_e h
      refine cRS (wc := []) ⟨hx, hb, hml, hown, hts⟩ hK hP [] rfl (c_X6_in l dC dI ck v2 (0 : Int32) (4 : Int32) r_19 q_19) (va_cwS 3 hts gX6_ofFact_X6_in rfl rfl rfl (by decide +kernel) ⟨Nat.le_of_ble_eq_true rfl, Nat.le_of_ble_eq_true rfl⟩) rfl hl.1 rfl (Nat.le_of_ble_eq_true rfl) dX6_ofFact_19 ⟨Nat.zero_le _, Nat.zero_le _⟩ ?_
      refine lv_if_eq (tgt := 34) hx hb dX6_ofFact_22 (by decide) (fun c_22 => ?_) (fun c_22 => ?_)
      · have h := if_t h c_22
        refine lv_bipush (v := (-2 : Int32)) hx hb dX6_ofFact_34 rfl ?_
        cases h
        exact eRi hx hb hr hlk rfl dX6_ofFact_36
      · have h := if_f h c_22
        refine lv_aload_n hx hb dX6_ofFact_25 rfl (lv_at hl 0 rfl) ?_
        refine lv_iload_n hx hb dX6_ofFact_26 rfl (lv_at hl 1 rfl) ?_
        refine lv_iload_n hx hb dX6_ofFact_27 rfl (lv_at hl 2 rfl) ?_
        obtain ⟨r_28, q_28, h⟩ := ob1_e h
        refine cRV (wc := wX6 ck a0 a0_z a0_past a0_slots a0_isSaved a0_pad a0_yes a0_no a0_yesThen a0_noThen a0_yesRound a0_yesRule a0_noRound a0_noRule a0_orders c_z c_past c_slots c_isSaved c_pastMany c_pad c_typed c_yes c_no c_yesThen c_noThen c_yesRound c_yesRule c_noRound c_noRule c_rounds c_isMore c_orders c_orderMany c_spot c_bad) ⟨hx, hb, hml, hown, hts⟩ hK hP [0, 1, 2, 3, 4, 5, 6, 7, 8, 9, 10, 11, 12, 13, 14] rfl (c_X6_fact l dC dI ck a0 a0_z a0_past a0_slots a0_isSaved a0_pad a0_yes a0_no a0_yesThen a0_noThen a0_yesRound a0_yesRule a0_noRound a0_noRule a0_orders c_z c_past c_slots c_isSaved c_pastMany c_pad c_typed c_yes c_no c_yesThen c_noThen c_yesRound c_yesRule c_noRound c_noRule c_rounds c_isMore c_orders c_orderMany c_spot c_bad v1 v2 r_28 q_28) (cwV 2 hts gX6_ofFact_X6_fact rfl rfl rfl (by decide +kernel) ⟨Nat.le_of_ble_eq_true rfl, Nat.le_of_ble_eq_true rfl⟩) 0 rfl rfl rfl hl.1 rfl (Nat.le_of_ble_eq_true rfl) dX6_ofFact_28 ⟨Nat.zero_le _, Nat.zero_le _⟩ ?_
        refine lv_goto (tgt := 36) hx hb dX6_ofFact_31 (by decide) ?_
        cases h
        exact eRi hx hb hr hlk rfl dX6_ofFact_36
    · have h := if_f h c_11
      refine lv_iconst (v := (-1 : Int32)) hx hb dX6_ofFact_14 rfl ?_
      cases h
      exact eRi hx hb hr hlk rfl dX6_ofFact_15
noncomputable def f_X6_unmarked_L4 (c_z : Nat → Int32) (c_yes : Nat → Int32) (c_no : Nat → Int32) (rec4 : Int32 → Int32 → Option (Int32)) (v1_L4 : Int32) (v2_L4 : Int32) : Option (Int32) :=
  if (6 : Int32) ≤ v2_L4 then (some v1_L4) else (ob1 (f_X6_isOwner c_z v2_L4) (fun (r_13 : Int32) => if r_13 = (0 : Int32) then (lt' (v1_L4 + (0 : Int32)) (fun v1_43 : Int32 => rec4 v1_43 (v2_L4 + (1 : Int32)))) else (gd v2_L4 6 (gd v2_L4 6 (ob1 (f_X6_bits ((c_yes v2_L4.toNatClampNeg) ||| (c_no v2_L4.toNatClampNeg))) (fun (r_34 : Int32) => lt' (v1_L4 + ((18 : Int32) - r_34)) (fun v1_43 : Int32 => rec4 v1_43 (v2_L4 + (1 : Int32)))))))))
noncomputable def f_X6_unmarked (c_z : Nat → Int32) (c_yes : Nat → Int32) (c_no : Nat → Int32) : Option (Int32) :=
  lo2 (f_X6_unmarked_L4 c_z c_yes c_no) FU (0 : Int32) (0 : Int32)
set_option maxHeartbeats 4000000 in
set_option maxRecDepth 100000 in
theorem c_X6_unmarked (l : Launch) (dC : Nat → ClassId) (dI : Nat → Nat → Nat) (ck : Nat → ClassId) (a0 a0_z a0_past a0_slots a0_isSaved a0_pad a0_yes a0_no a0_yesThen a0_noThen a0_yesRound a0_yesRule a0_noRound a0_noRule a0_orders : Nat) (c_z : Nat → Int32) (c_past : Nat → Int32) (c_slots : Nat → Int32) (c_isSaved : Nat → Int32) (c_pastMany : Int32) (c_pad : Nat → Int32) (c_typed : Int32) (c_yes : Nat → Int32) (c_no : Nat → Int32) (c_yesThen : Nat → Int32) (c_noThen : Nat → Int32) (c_yesRound : Nat → Int32) (c_yesRule : Nat → Int32) (c_noRound : Nat → Int32) (c_noRule : Nat → Int32) (c_rounds : Int32) (c_isMore : Int32) (c_orders : Nat → Int32) (c_orderMany : Int32) (c_spot : Int32) (c_bad : Int32) (o0 : Int32) (h : f_X6_unmarked c_z c_yes c_no = some o0) : RD l yX6_unmarked wsX6_unmarked ({ frames := 2, cells := 0, slots := 0, locals := 42 }) [.ref a0] (dC, dI) ck (wX6 ck a0 a0_z a0_past a0_slots a0_isSaved a0_pad a0_yes a0_no a0_yesThen a0_noThen a0_yesRound a0_yesRule a0_noRound a0_noRule a0_orders c_z c_past c_slots c_isSaved c_pastMany c_pad c_typed c_yes c_no c_yesThen c_noThen c_yesRound c_yesRule c_noRound c_noRule c_rounds c_isMore c_orders c_orderMany c_spot c_bad) o0 := by
  refine RD.ofW (cc := cX6_unmarked) (maxL := 3) (ret := (some .int)) (by decide +kernel) rfl (Nat.le_of_ble_eq_true rfl) ?_
  intro p e s m below meth c hx hb hr hml hts hown hlk hK hP ls hl
  have hown : s.vm.findClass RX6 = some m.cls := hown
  have hl : lv_has ls 3 [(0, .ref a0)] := hl
  have iu_X6 : ∀ w ∈ u_ws RX6 TX6 21, w ∈ wsX6_unmarked := fun w h => List.mem_cons_of_mem _ (List.mem_append_right _ h)
  unfold f_X6_unmarked at h
  refine lv_iconst (v := (0 : Int32)) hx hb dX6_unmarked_0 rfl ?_
  refine lv_istore_n (lv' := [(1, .int (0 : Int32)), (0, .ref a0)]) hx hb dX6_unmarked_1 rfl hl (by decide) rfl (fun ls hl => ?_)
  refine lv_iconst (v := (0 : Int32)) hx hb dX6_unmarked_2 rfl ?_
  refine lv_istore_n (lv' := [(2, .int (0 : Int32)), (1, .int (0 : Int32)), (0, .ref a0)]) hx hb dX6_unmarked_3 rfl hl (by decide) rfl (fun ls hl => ?_)
  have hL4 : ∀ (n4 : Nat) (v1_L4 : Int32) (v2_L4 : Int32), lo2 (f_X6_unmarked_L4 c_z c_yes c_no) n4 v1_L4 v2_L4 = some o0 → ∀ ls : Array Slot, lv_has ls 3 [(2, .int v2_L4), (1, .int v1_L4), (0, .ref a0)] → W p l e (headSpec wsX6_unmarked ({ frames := 2, cells := 0, slots := 0, locals := 42 })).room s m [.ref a0].toArray below meth c s.heap [] 0 0 (MQ below (QcRead o0) [.ref a0].toArray s 0 0 (fun _ => False)) (F0 m 4 ls []) := by
    intro n4
    induction n4 with
    | zero => intro v1_L4 v2_L4 h; exact lo2_z h
    | succ n4 ih4 =>
      intro v1_L4 v2_L4 h ls hl
      have h := lo2_s h
      unfold f_X6_unmarked_L4 at h
      refine lv_iload_n hx hb dX6_unmarked_4 rfl (lv_at hl 0 rfl) ?_
      refine lv_bipush (v := (6 : Int32)) hx hb dX6_unmarked_5 rfl ?_
      refine lv_icmp_ge (tgt := 50) hx hb dX6_unmarked_7 (by decide) (fun c_7 => ?_) (fun c_7 => ?_)
      · have h := if_t h c_7
        refine lv_iload_n hx hb dX6_unmarked_50 rfl (lv_at hl 1 rfl) ?_
        cases h
        exact eRi hx hb hr hlk rfl dX6_unmarked_51
      · have h := if_f h c_7
        refine lv_iload_n hx hb dX6_unmarked_10 rfl (lv_at hl 1 rfl) ?_
        refine lv_aload_n hx hb dX6_unmarked_11 rfl (lv_at hl 2 rfl) ?_
        refine lv_iload_n hx hb dX6_unmarked_12 rfl (lv_at hl 0 rfl) ?_
        obtain ⟨r_13, q_13, h⟩ := ob1_e h
        refine cRV (wc := wX6 ck a0 a0_z a0_past a0_slots a0_isSaved a0_pad a0_yes a0_no a0_yesThen a0_noThen a0_yesRound a0_yesRule a0_noRound a0_noRule a0_orders c_z c_past c_slots c_isSaved c_pastMany c_pad c_typed c_yes c_no c_yesThen c_noThen c_yesRound c_yesRule c_noRound c_noRule c_rounds c_isMore c_orders c_orderMany c_spot c_bad) ⟨hx, hb, hml, hown, hts⟩ hK hP [0, 1, 2, 3, 4, 5, 6, 7, 8, 9, 10, 11, 12, 13, 14] rfl (c_X6_isOwner l dC dI ck a0 a0_z a0_past a0_slots a0_isSaved a0_pad a0_yes a0_no a0_yesThen a0_noThen a0_yesRound a0_yesRule a0_noRound a0_noRule a0_orders c_z c_past c_slots c_isSaved c_pastMany c_pad c_typed c_yes c_no c_yesThen c_noThen c_yesRound c_yesRule c_noRound c_noRule c_rounds c_isMore c_orders c_orderMany c_spot c_bad v2_L4 r_13 q_13) (cwV 1 hts gX6_unmarked_X6_isOwner rfl rfl rfl (by decide +kernel) ⟨Nat.le_of_ble_eq_true rfl, Nat.le_of_ble_eq_true rfl⟩) 0 rfl rfl rfl hl.1 rfl (Nat.le_of_ble_eq_true rfl) dX6_unmarked_13 ⟨Nat.zero_le _, Nat.zero_le _⟩ ?_
        refine lv_if_eq (tgt := 41) hx hb dX6_unmarked_16 (by decide) (fun c_16 => ?_) (fun c_16 => ?_)
        · have h := if_t h c_16
          refine lv_iconst (v := (0 : Int32)) hx hb dX6_unmarked_41 rfl ?_
          refine lv_iadd hx hb dX6_unmarked_42 ?_
          refine lv_topi (fun v1_43 e_43 => ?_)
          have h := lt'_e e_43 h
          refine lv_istore_n (lv' := [(1, .int v1_43), (2, .int v2_L4), (0, .ref a0)]) hx hb dX6_unmarked_43 rfl hl (by decide) rfl (fun ls hl => ?_)
          refine lv_iinc (v := (v2_L4 + (1 : Int32))) (lv' := [(2, .int (v2_L4 + (1 : Int32))), (1, .int v1_43), (0, .ref a0)]) hx hb dX6_unmarked_44 hl (k := 1) rfl rfl (by decide) rfl (fun ls hl => ?_)
          refine lv_goto (tgt := 4) hx hb dX6_unmarked_47 (by decide) ?_
          exact ih4 _ _ h _ (lv_sub hl [0, 1, 2] rfl)
        · have h := if_f h c_16
          refine lv_bipush (v := (18 : Int32)) hx hb dX6_unmarked_19 rfl ?_
          refine lv_aload_n hx hb dX6_unmarked_21 rfl (lv_at hl 2 rfl) ?_
          refine va_get (ci := 6) (v := .ref a0_yes) (C := RX6) (T := TX6) (N := 21) hx hb hts iu_X6 hown hK.1 hP 0 rfl rfl 7 (by decide) (hts (.fieldLink RX6 27 "SheetMarksModel" "yes" "[I") (List.mem_of_getElem? (i := 1) rfl)) (fun _ h9 => h9) rfl dX6_unmarked_22 ?_
          refine lv_iload_n hx hb dX6_unmarked_25 rfl (lv_at hl 0 rfl) ?_
          obtain ⟨g_26, h⟩ := gd_e h
          refine va_iald hx hb hK.1 hP 6 0 rfl rfl g_26 dX6_unmarked_26 ?_
          refine lv_aload_n hx hb dX6_unmarked_27 rfl (lv_at hl 2 rfl) ?_
          refine va_get (ci := 6) (v := .ref a0_no) (C := RX6) (T := TX6) (N := 21) hx hb hts iu_X6 hown hK.1 hP 0 rfl rfl 8 (by decide) (hts (.fieldLink RX6 30 "SheetMarksModel" "no" "[I") (List.mem_of_getElem? (i := 2) rfl)) (fun _ h9 => h9) rfl dX6_unmarked_28 ?_
          refine lv_iload_n hx hb dX6_unmarked_31 rfl (lv_at hl 0 rfl) ?_
          obtain ⟨g_32, h⟩ := gd_e h
          refine va_iald hx hb hK.1 hP 7 0 rfl rfl g_32 dX6_unmarked_32 ?_
          refine lv_ior hx hb dX6_unmarked_33 ?_
          obtain ⟨r_34, q_34, h⟩ := ob1_e h
          refine cRS (wc := []) ⟨hx, hb, hml, hown, hts⟩ hK hP [] rfl (c_X6_bits l dC dI ck ((c_yes v2_L4.toNatClampNeg) ||| (c_no v2_L4.toNatClampNeg)) r_34 q_34) (va_cwS 1 hts gX6_unmarked_X6_bits rfl rfl rfl (by decide +kernel) ⟨Nat.le_of_ble_eq_true rfl, Nat.le_of_ble_eq_true rfl⟩) rfl hl.1 rfl (Nat.le_of_ble_eq_true rfl) dX6_unmarked_34 ⟨Nat.zero_le _, Nat.zero_le _⟩ ?_
          refine lv_isub hx hb dX6_unmarked_37 ?_
          refine lv_goto (tgt := 42) hx hb dX6_unmarked_38 (by decide) ?_
          refine lv_iadd hx hb dX6_unmarked_42 ?_
          refine lv_topi (fun v1_43 e_43 => ?_)
          have h := lt'_e e_43 h
          refine lv_istore_n (lv' := [(1, .int v1_43), (2, .int v2_L4), (0, .ref a0)]) hx hb dX6_unmarked_43 rfl hl (by decide) rfl (fun ls hl => ?_)
          refine lv_iinc (v := (v2_L4 + (1 : Int32))) (lv' := [(2, .int (v2_L4 + (1 : Int32))), (1, .int v1_43), (0, .ref a0)]) hx hb dX6_unmarked_44 hl (k := 1) rfl rfl (by decide) rfl (fun ls hl => ?_)
          refine lv_goto (tgt := 4) hx hb dX6_unmarked_47 (by decide) ?_
          exact ih4 _ _ h _ (lv_sub hl [0, 1, 2] rfl)
  exact hL4 _ _ _ h _ (lv_sub hl [0, 1, 2] rfl)
noncomputable def f_X6_kindsFound_L4 (c_yes : Nat → Int32) (rec4 : Int32 → Int32 → Option (Int32)) (v1_L4 : Int32) (v2_L4 : Int32) : Option (Int32) :=
  if (3 : Int32) ≤ v2_L4 then (some v1_L4) else (gd (5 : Int32) 6 (ob1 (f_X6_kindSet v2_L4) (fun (r_17 : Int32) => if ((c_yes (5 : Int32).toNatClampNeg) &&& r_17) = (0 : Int32) then (lt' (v1_L4 + (0 : Int32)) (fun v1_30 : Int32 => rec4 v1_30 (v2_L4 + (1 : Int32)))) else (lt' (v1_L4 + (1 : Int32)) (fun v1_30 : Int32 => rec4 v1_30 (v2_L4 + (1 : Int32)))))))
noncomputable def f_X6_kindsFound (c_yes : Nat → Int32) : Option (Int32) :=
  lo2 (f_X6_kindsFound_L4 c_yes) FU (0 : Int32) (0 : Int32)
set_option maxHeartbeats 4000000 in
set_option maxRecDepth 100000 in
theorem c_X6_kindsFound (l : Launch) (dC : Nat → ClassId) (dI : Nat → Nat → Nat) (ck : Nat → ClassId) (a0 a0_z a0_past a0_slots a0_isSaved a0_pad a0_yes a0_no a0_yesThen a0_noThen a0_yesRound a0_yesRule a0_noRound a0_noRule a0_orders : Nat) (c_z : Nat → Int32) (c_past : Nat → Int32) (c_slots : Nat → Int32) (c_isSaved : Nat → Int32) (c_pastMany : Int32) (c_pad : Nat → Int32) (c_typed : Int32) (c_yes : Nat → Int32) (c_no : Nat → Int32) (c_yesThen : Nat → Int32) (c_noThen : Nat → Int32) (c_yesRound : Nat → Int32) (c_yesRule : Nat → Int32) (c_noRound : Nat → Int32) (c_noRule : Nat → Int32) (c_rounds : Int32) (c_isMore : Int32) (c_orders : Nat → Int32) (c_orderMany : Int32) (c_spot : Int32) (c_bad : Int32) (o0 : Int32) (h : f_X6_kindsFound c_yes = some o0) : RD l yX6_kindsFound wsX6_kindsFound ({ frames := 1, cells := 0, slots := 0, locals := 20 }) [.ref a0] (dC, dI) ck (wX6 ck a0 a0_z a0_past a0_slots a0_isSaved a0_pad a0_yes a0_no a0_yesThen a0_noThen a0_yesRound a0_yesRule a0_noRound a0_noRule a0_orders c_z c_past c_slots c_isSaved c_pastMany c_pad c_typed c_yes c_no c_yesThen c_noThen c_yesRound c_yesRule c_noRound c_noRule c_rounds c_isMore c_orders c_orderMany c_spot c_bad) o0 := by
  refine RD.ofW (cc := cX6_kindsFound) (maxL := 3) (ret := (some .int)) (by decide +kernel) rfl (Nat.le_of_ble_eq_true rfl) ?_
  intro p e s m below meth c hx hb hr hml hts hown hlk hK hP ls hl
  have hown : s.vm.findClass RX6 = some m.cls := hown
  have hl : lv_has ls 3 [(0, .ref a0)] := hl
  have iu_X6 : ∀ w ∈ u_ws RX6 TX6 21, w ∈ wsX6_kindsFound := fun w h => List.mem_cons_of_mem _ (List.mem_append_right _ h)
  unfold f_X6_kindsFound at h
  refine lv_iconst (v := (0 : Int32)) hx hb dX6_kindsFound_0 rfl ?_
  refine lv_istore_n (lv' := [(1, .int (0 : Int32)), (0, .ref a0)]) hx hb dX6_kindsFound_1 rfl hl (by decide) rfl (fun ls hl => ?_)
  refine lv_iconst (v := (0 : Int32)) hx hb dX6_kindsFound_2 rfl ?_
  refine lv_istore_n (lv' := [(2, .int (0 : Int32)), (1, .int (0 : Int32)), (0, .ref a0)]) hx hb dX6_kindsFound_3 rfl hl (by decide) rfl (fun ls hl => ?_)
  have hL4 : ∀ (n4 : Nat) (v1_L4 : Int32) (v2_L4 : Int32), lo2 (f_X6_kindsFound_L4 c_yes) n4 v1_L4 v2_L4 = some o0 → ∀ ls : Array Slot, lv_has ls 3 [(2, .int v2_L4), (1, .int v1_L4), (0, .ref a0)] → W p l e (headSpec wsX6_kindsFound ({ frames := 1, cells := 0, slots := 0, locals := 20 })).room s m [.ref a0].toArray below meth c s.heap [] 0 0 (MQ below (QcRead o0) [.ref a0].toArray s 0 0 (fun _ => False)) (F0 m 4 ls []) := by
    intro n4
    induction n4 with
    | zero => intro v1_L4 v2_L4 h; exact lo2_z h
    | succ n4 ih4 =>
      intro v1_L4 v2_L4 h ls hl
      have h := lo2_s h
      unfold f_X6_kindsFound_L4 at h
      refine lv_iload_n hx hb dX6_kindsFound_4 rfl (lv_at hl 0 rfl) ?_
      refine lv_iconst (v := (3 : Int32)) hx hb dX6_kindsFound_5 rfl ?_
      refine lv_icmp_ge (tgt := 37) hx hb dX6_kindsFound_6 (by decide) (fun c_6 => ?_) (fun c_6 => ?_)
      · have h := if_t h c_6
        refine lv_iload_n hx hb dX6_kindsFound_37 rfl (lv_at hl 1 rfl) ?_
        cases h
        exact eRi hx hb hr hlk rfl dX6_kindsFound_38
      · have h := if_f h c_6
        refine lv_iload_n hx hb dX6_kindsFound_9 rfl (lv_at hl 1 rfl) ?_
        refine lv_aload_n hx hb dX6_kindsFound_10 rfl (lv_at hl 2 rfl) ?_
        refine va_get (ci := 6) (v := .ref a0_yes) (C := RX6) (T := TX6) (N := 21) hx hb hts iu_X6 hown hK.1 hP 0 rfl rfl 7 (by decide) (hts (.fieldLink RX6 27 "SheetMarksModel" "yes" "[I") (List.mem_of_getElem? (i := 1) rfl)) (fun _ h9 => h9) rfl dX6_kindsFound_11 ?_
        refine lv_iconst (v := (5 : Int32)) hx hb dX6_kindsFound_14 rfl ?_
        obtain ⟨g_15, h⟩ := gd_e h
        refine va_iald hx hb hK.1 hP 6 0 rfl rfl g_15 dX6_kindsFound_15 ?_
        refine lv_iload_n hx hb dX6_kindsFound_16 rfl (lv_at hl 0 rfl) ?_
        obtain ⟨r_17, q_17, h⟩ := ob1_e h
        refine cRS (wc := []) ⟨hx, hb, hml, hown, hts⟩ hK hP [] rfl (c_X6_kindSet l dC dI ck v2_L4 r_17 q_17) (va_cwS 1 hts gX6_kindsFound_X6_kindSet rfl rfl rfl (by decide +kernel) ⟨Nat.le_of_ble_eq_true rfl, Nat.le_of_ble_eq_true rfl⟩) rfl hl.1 rfl (Nat.le_of_ble_eq_true rfl) dX6_kindsFound_17 ⟨Nat.zero_le _, Nat.zero_le _⟩ ?_
        refine lv_iand hx hb dX6_kindsFound_20 ?_
        refine lv_if_eq (tgt := 28) hx hb dX6_kindsFound_21 (by decide) (fun c_21 => ?_) (fun c_21 => ?_)
        · have h := if_t h c_21
          refine lv_iconst (v := (0 : Int32)) hx hb dX6_kindsFound_28 rfl ?_
          refine lv_iadd hx hb dX6_kindsFound_29 ?_
          refine lv_topi (fun v1_30 e_30 => ?_)
          have h := lt'_e e_30 h
          refine lv_istore_n (lv' := [(1, .int v1_30), (2, .int v2_L4), (0, .ref a0)]) hx hb dX6_kindsFound_30 rfl hl (by decide) rfl (fun ls hl => ?_)
          refine lv_iinc (v := (v2_L4 + (1 : Int32))) (lv' := [(2, .int (v2_L4 + (1 : Int32))), (1, .int v1_30), (0, .ref a0)]) hx hb dX6_kindsFound_31 hl (k := 1) rfl rfl (by decide) rfl (fun ls hl => ?_)
          refine lv_goto (tgt := 4) hx hb dX6_kindsFound_34 (by decide) ?_
          exact ih4 _ _ h _ (lv_sub hl [0, 1, 2] rfl)
        · have h := if_f h c_21
          refine lv_iconst (v := (1 : Int32)) hx hb dX6_kindsFound_24 rfl ?_
          refine lv_goto (tgt := 29) hx hb dX6_kindsFound_25 (by decide) ?_
          refine lv_iadd hx hb dX6_kindsFound_29 ?_
          refine lv_topi (fun v1_30 e_30 => ?_)
          have h := lt'_e e_30 h
          refine lv_istore_n (lv' := [(1, .int v1_30), (2, .int v2_L4), (0, .ref a0)]) hx hb dX6_kindsFound_30 rfl hl (by decide) rfl (fun ls hl => ?_)
          refine lv_iinc (v := (v2_L4 + (1 : Int32))) (lv' := [(2, .int (v2_L4 + (1 : Int32))), (1, .int v1_30), (0, .ref a0)]) hx hb dX6_kindsFound_31 hl (k := 1) rfl rfl (by decide) rfl (fun ls hl => ?_)
          refine lv_goto (tgt := 4) hx hb dX6_kindsFound_34 (by decide) ?_
          exact ih4 _ _ h _ (lv_sub hl [0, 1, 2] rfl)
  exact hL4 _ _ _ h _ (lv_sub hl [0, 1, 2] rfl)
noncomputable def f_X6_count (c_z : Nat → Int32) (c_pastMany : Int32) (c_typed : Int32) (c_yes : Nat → Int32) (c_no : Nat → Int32) (c_yesThen : Nat → Int32) (c_noThen : Nat → Int32) (c_yesRound : Nat → Int32) (c_yesRule : Nat → Int32) (c_noRound : Nat → Int32) (c_noRule : Nat → Int32) (c_rounds : Int32) (c_isMore : Int32) (v1 : Int32) : Option (Int32 × (Nat → Int32) × (Nat → Int32) × (Nat → Int32) × (Nat → Int32) × (Nat → Int32) × (Nat → Int32) × (Nat → Int32) × (Nat → Int32) × Int32 × Int32) :=
  ob10 (f_X6_lay c_z c_yes c_no c_yesThen c_noThen c_yesRound c_yesRule c_noRound c_noRule c_rounds c_isMore) (fun (c_yes_1 : Nat → Int32) (c_no_1 : Nat → Int32) (c_yesThen_1 : Nat → Int32) (c_noThen_1 : Nat → Int32) (c_yesRound_1 : Nat → Int32) (c_yesRule_1 : Nat → Int32) (c_noRound_1 : Nat → Int32) (c_noRule_1 : Nat → Int32) (c_rounds_1 : Int32) (c_isMore_1 : Int32) => if v1 = (0 : Int32) then (gd v1 207 (some ((c_z v1.toNatClampNeg), c_yes_1, c_no_1, c_yesThen_1, c_noThen_1, c_yesRound_1, c_yesRule_1, c_noRound_1, c_noRule_1, c_rounds_1, c_isMore_1))) else (if v1 = (1 : Int32) then (gd v1 207 (some ((c_z v1.toNatClampNeg), c_yes_1, c_no_1, c_yesThen_1, c_noThen_1, c_yesRound_1, c_yesRule_1, c_noRound_1, c_noRule_1, c_rounds_1, c_isMore_1))) else (if v1 = (2 : Int32) then (ob1 (f_X6_yesMany c_yes_1) (fun (r_68 : Int32) => some (r_68, c_yes_1, c_no_1, c_yesThen_1, c_noThen_1, c_yesRound_1, c_yesRule_1, c_noRound_1, c_noRule_1, c_rounds_1, c_isMore_1))) else (if v1 = (3 : Int32) then (ob1 (f_X6_noMany c_no_1) (fun (r_73 : Int32) => some (r_73, c_yes_1, c_no_1, c_yesThen_1, c_noThen_1, c_yesRound_1, c_yesRule_1, c_noRound_1, c_noRule_1, c_rounds_1, c_isMore_1))) else (if v1 = (4 : Int32) then (ob1 (f_X6_unmarked c_z c_yes_1 c_no_1) (fun (r_78 : Int32) => some (r_78, c_yes_1, c_no_1, c_yesThen_1, c_noThen_1, c_yesRound_1, c_yesRule_1, c_noRound_1, c_noRule_1, c_rounds_1, c_isMore_1))) else (if v1 = (5 : Int32) then (some (c_rounds_1, c_yes_1, c_no_1, c_yesThen_1, c_noThen_1, c_yesRound_1, c_yesRule_1, c_noRound_1, c_noRule_1, c_rounds_1, c_isMore_1)) else (if v1 = (6 : Int32) then (ob1 (f_X6_isBroken c_z c_yes_1 c_no_1) (fun (r_88 : Int32) => if r_88 = (0 : Int32) then (some ((0 : Int32), c_yes_1, c_no_1, c_yesThen_1, c_noThen_1, c_yesRound_1, c_yesRule_1, c_noRound_1, c_noRule_1, c_rounds_1, c_isMore_1)) else (some ((1 : Int32), c_yes_1, c_no_1, c_yesThen_1, c_noThen_1, c_yesRound_1, c_yesRule_1, c_noRound_1, c_noRule_1, c_rounds_1, c_isMore_1)))) else (if v1 = (7 : Int32) then (ob1 (f_X6_kindsFound c_yes_1) (fun (r_101 : Int32) => some (r_101, c_yes_1, c_no_1, c_yesThen_1, c_noThen_1, c_yesRound_1, c_yesRule_1, c_noRound_1, c_noRule_1, c_rounds_1, c_isMore_1))) else (if v1 = (8 : Int32) then (some (c_typed, c_yes_1, c_no_1, c_yesThen_1, c_noThen_1, c_yesRound_1, c_yesRule_1, c_noRound_1, c_noRule_1, c_rounds_1, c_isMore_1)) else (if v1 = (9 : Int32) then (some (c_pastMany, c_yes_1, c_no_1, c_yesThen_1, c_noThen_1, c_yesRound_1, c_yesRule_1, c_noRound_1, c_noRule_1, c_rounds_1, c_isMore_1)) else (some ((-2 : Int32), c_yes_1, c_no_1, c_yesThen_1, c_noThen_1, c_yesRound_1, c_yesRule_1, c_noRound_1, c_noRule_1, c_rounds_1, c_isMore_1))))))))))))
set_option maxHeartbeats 4000000 in
set_option maxRecDepth 100000 in
theorem c_X6_count (l : Launch) (dC : Nat → ClassId) (dI : Nat → Nat → Nat) (ck : Nat → ClassId) (a0 a0_z a0_past a0_slots a0_isSaved a0_pad a0_yes a0_no a0_yesThen a0_noThen a0_yesRound a0_yesRule a0_noRound a0_noRule a0_orders : Nat) (c_z : Nat → Int32) (c_past : Nat → Int32) (c_slots : Nat → Int32) (c_isSaved : Nat → Int32) (c_pastMany : Int32) (c_pad : Nat → Int32) (c_typed : Int32) (c_yes : Nat → Int32) (c_no : Nat → Int32) (c_yesThen : Nat → Int32) (c_noThen : Nat → Int32) (c_yesRound : Nat → Int32) (c_yesRule : Nat → Int32) (c_noRound : Nat → Int32) (c_noRule : Nat → Int32) (c_rounds : Int32) (c_isMore : Int32) (c_orders : Nat → Int32) (c_orderMany : Int32) (c_spot : Int32) (c_bad : Int32) (v1 : Int32) (o0 : Int32) (o1 : Nat → Int32) (o2 : Nat → Int32) (o3 : Nat → Int32) (o4 : Nat → Int32) (o5 : Nat → Int32) (o6 : Nat → Int32) (o7 : Nat → Int32) (o8 : Nat → Int32) (o9 : Int32) (o10 : Int32) (h : f_X6_count c_z c_pastMany c_typed c_yes c_no c_yesThen c_noThen c_yesRound c_yesRule c_noRound c_noRule c_rounds c_isMore v1 = some (o0, o1, o2, o3, o4, o5, o6, o7, o8, o9, o10)) : MI l yX6_count wsX6_count ({ frames := 6, cells := 0, slots := 0, locals := 139 }) [.ref a0, .int v1] (dC, dI) ck (wX6 ck a0 a0_z a0_past a0_slots a0_isSaved a0_pad a0_yes a0_no a0_yesThen a0_noThen a0_yesRound a0_yesRule a0_noRound a0_noRule a0_orders c_z c_past c_slots c_isSaved c_pastMany c_pad c_typed c_yes c_no c_yesThen c_noThen c_yesRound c_yesRule c_noRound c_noRule c_rounds c_isMore c_orders c_orderMany c_spot c_bad) (wX6 ck a0 a0_z a0_past a0_slots a0_isSaved a0_pad a0_yes a0_no a0_yesThen a0_noThen a0_yesRound a0_yesRule a0_noRound a0_noRule a0_orders c_z c_past c_slots c_isSaved c_pastMany c_pad c_typed o1 o2 o3 o4 o5 o6 o7 o8 o9 o10 c_orders c_orderMany c_spot c_bad) o0 := by
  refine MI.ofW (cc := cX6_count) (maxL := 2) (ret := (some .int)) (by decide +kernel) rfl (Nat.le_of_ble_eq_true rfl) ?_
  intro p e s m below meth c hx hb hr hml hts hown hlk hK hP A hA hD ls hl
  have hS : va_S A s.heap s.heap [] := va_S.rf
  have hown : s.vm.findClass RX6 = some m.cls := hown
  have hl : lv_has ls 2 [(0, .ref a0), (1, .int v1)] := hl
  have iu_X6 : ∀ w ∈ u_ws RX6 TX6 21, w ∈ wsX6_count := fun w h => List.mem_cons_of_mem _ (List.mem_append_right _ h)
  unfold f_X6_count at h
  refine lv_aload_n hx hb dX6_count_0 rfl (lv_at hl 0 rfl) ?_
  obtain ⟨c_yes_1, c_no_1, c_yesThen_1, c_noThen_1, c_yesRound_1, c_yesRule_1, c_noRound_1, c_noRule_1, c_rounds_1, c_isMore_1, q_1, h⟩ := ob10_e h
  refine cMV (wc := wX6 ck a0 a0_z a0_past a0_slots a0_isSaved a0_pad a0_yes a0_no a0_yesThen a0_noThen a0_yesRound a0_yesRule a0_noRound a0_noRule a0_orders c_z c_past c_slots c_isSaved c_pastMany c_pad c_typed c_yes c_no c_yesThen c_noThen c_yesRound c_yesRule c_noRound c_noRule c_rounds c_isMore c_orders c_orderMany c_spot c_bad) (wr := []) (w1 := wX6 ck a0 a0_z a0_past a0_slots a0_isSaved a0_pad a0_yes a0_no a0_yesThen a0_noThen a0_yesRound a0_yesRule a0_noRound a0_noRule a0_orders c_z c_past c_slots c_isSaved c_pastMany c_pad c_typed c_yes_1 c_no_1 c_yesThen_1 c_noThen_1 c_yesRound_1 c_yesRule_1 c_noRound_1 c_noRule_1 c_rounds_1 c_isMore_1 c_orders c_orderMany c_spot c_bad) (wn := wX6 ck a0 a0_z a0_past a0_slots a0_isSaved a0_pad a0_yes a0_no a0_yesThen a0_noThen a0_yesRound a0_yesRule a0_noRound a0_noRule a0_orders c_z c_past c_slots c_isSaved c_pastMany c_pad c_typed c_yes_1 c_no_1 c_yesThen_1 c_noThen_1 c_yesRound_1 c_yesRule_1 c_noRound_1 c_noRule_1 c_rounds_1 c_isMore_1 c_orders c_orderMany c_spot c_bad) ⟨hx, hb, hml, hown, hts⟩ hK hP hD hS hA [0, 1, 2, 3, 4, 5, 6, 7, 8, 9, 10, 11, 12, 13, 14] [] [0, 1, 2, 3, 4, 5, 6, 7, 8, 9, 10, 11, 12, 13, 14] rfl (by decide) rfl (by decide) (by decide) rfl (by decide) (c_X6_lay l dC dI ck a0 a0_z a0_past a0_slots a0_isSaved a0_pad a0_yes a0_no a0_yesThen a0_noThen a0_yesRound a0_yesRule a0_noRound a0_noRule a0_orders c_z c_past c_slots c_isSaved c_pastMany c_pad c_typed c_yes c_no c_yesThen c_noThen c_yesRound c_yesRule c_noRound c_noRule c_rounds c_isMore c_orders c_orderMany c_spot c_bad c_yes_1 c_no_1 c_yesThen_1 c_noThen_1 c_yesRound_1 c_yesRule_1 c_noRound_1 c_noRule_1 c_rounds_1 c_isMore_1 q_1) (cwV 0 hts gX6_count_X6_lay rfl rfl rfl (by decide +kernel) ⟨Nat.le_of_ble_eq_true rfl, Nat.le_of_ble_eq_true rfl⟩) 0 rfl rfl rfl hl.1 rfl (Nat.le_of_ble_eq_true rfl) dX6_count_1 ⟨Nat.zero_le _, Nat.zero_le _⟩ (fun H locs hP hD hS => ?_)
  refine lv_iload_n hx hb dX6_count_4 rfl (lv_at hl 1 rfl) ?_
  rcases Decidable.em (v1 = (0 : Int32)) with c_5_0 | c_5_0
  · have h := if_t h c_5_0
    refine lv_tableIn (tgt := 60) hx hb dX6_count_5 (by rw [c_5_0]; decide) (by rw [c_5_0]; decide) (by rw [c_5_0]; rfl) (by decide) ?_
    refine lv_aload_n hx hb dX6_count_60 rfl (lv_at hl 0 rfl) ?_
    refine va_get (ci := 6) (v := .ref a0_z) (C := RX6) (T := TX6) (N := 21) hx hb hts iu_X6 hown hK.1 hP 0 rfl rfl 0 (by decide) (hts (.fieldLink RX6 7 "SheetMarksModel" "z" "[I") (List.mem_of_getElem? (i := 1) rfl)) (fun _ h9 => h9) rfl dX6_count_61 ?_
    refine lv_iload_n hx hb dX6_count_64 rfl (lv_at hl 1 rfl) ?_
    obtain ⟨g_65, h⟩ := gd_e h
    refine va_iald hx hb hK.1 hP 1 0 rfl rfl g_65 dX6_count_65 ?_
    cases h
    exact eMi hx hb hr hlk hP hD hS rfl dX6_count_66
  have h := if_f h c_5_0
  rcases Decidable.em (v1 = (1 : Int32)) with c_5_1 | c_5_1
  · have h := if_t h c_5_1
    refine lv_tableIn (tgt := 60) hx hb dX6_count_5 (by rw [c_5_1]; decide) (by rw [c_5_1]; decide) (by rw [c_5_1]; rfl) (by decide) ?_
    refine lv_aload_n hx hb dX6_count_60 rfl (lv_at hl 0 rfl) ?_
    refine va_get (ci := 6) (v := .ref a0_z) (C := RX6) (T := TX6) (N := 21) hx hb hts iu_X6 hown hK.1 hP 0 rfl rfl 0 (by decide) (hts (.fieldLink RX6 7 "SheetMarksModel" "z" "[I") (List.mem_of_getElem? (i := 1) rfl)) (fun _ h9 => h9) rfl dX6_count_61 ?_
    refine lv_iload_n hx hb dX6_count_64 rfl (lv_at hl 1 rfl) ?_
    obtain ⟨g_65, h⟩ := gd_e h
    refine va_iald hx hb hK.1 hP 1 0 rfl rfl g_65 dX6_count_65 ?_
    cases h
    exact eMi hx hb hr hlk hP hD hS rfl dX6_count_66
  have h := if_f h c_5_1
  rcases Decidable.em (v1 = (2 : Int32)) with c_5_2 | c_5_2
  · have h := if_t h c_5_2
    refine lv_tableIn (tgt := 67) hx hb dX6_count_5 (by rw [c_5_2]; decide) (by rw [c_5_2]; decide) (by rw [c_5_2]; rfl) (by decide) ?_
    refine lv_aload_n hx hb dX6_count_67 rfl (lv_at hl 0 rfl) ?_
    obtain ⟨r_68, q_68, h⟩ := ob1_e h
    refine cRV (wc := wX6 ck a0 a0_z a0_past a0_slots a0_isSaved a0_pad a0_yes a0_no a0_yesThen a0_noThen a0_yesRound a0_yesRule a0_noRound a0_noRule a0_orders c_z c_past c_slots c_isSaved c_pastMany c_pad c_typed c_yes_1 c_no_1 c_yesThen_1 c_noThen_1 c_yesRound_1 c_yesRule_1 c_noRound_1 c_noRule_1 c_rounds_1 c_isMore_1 c_orders c_orderMany c_spot c_bad) ⟨hx, hb, hml, hown, hts⟩ hK hP [0, 1, 2, 3, 4, 5, 6, 7, 8, 9, 10, 11, 12, 13, 14] rfl (c_X6_yesMany l dC dI ck a0 a0_z a0_past a0_slots a0_isSaved a0_pad a0_yes a0_no a0_yesThen a0_noThen a0_yesRound a0_yesRule a0_noRound a0_noRule a0_orders c_z c_past c_slots c_isSaved c_pastMany c_pad c_typed c_yes_1 c_no_1 c_yesThen_1 c_noThen_1 c_yesRound_1 c_yesRule_1 c_noRound_1 c_noRule_1 c_rounds_1 c_isMore_1 c_orders c_orderMany c_spot c_bad r_68 q_68) (cwV 0 hts gX6_count_X6_yesMany rfl rfl rfl (by decide +kernel) ⟨Nat.le_of_ble_eq_true rfl, Nat.le_of_ble_eq_true rfl⟩) 0 rfl rfl rfl hl.1 rfl (Nat.le_of_ble_eq_true rfl) dX6_count_68 ⟨Nat.zero_le _, Nat.zero_le _⟩ ?_
    cases h
    exact eMi hx hb hr hlk hP hD hS rfl dX6_count_71
  have h := if_f h c_5_2
  rcases Decidable.em (v1 = (3 : Int32)) with c_5_3 | c_5_3
  · have h := if_t h c_5_3
    refine lv_tableIn (tgt := 72) hx hb dX6_count_5 (by rw [c_5_3]; decide) (by rw [c_5_3]; decide) (by rw [c_5_3]; rfl) (by decide) ?_
    refine lv_aload_n hx hb dX6_count_72 rfl (lv_at hl 0 rfl) ?_
    obtain ⟨r_73, q_73, h⟩ := ob1_e h
    refine cRV (wc := wX6 ck a0 a0_z a0_past a0_slots a0_isSaved a0_pad a0_yes a0_no a0_yesThen a0_noThen a0_yesRound a0_yesRule a0_noRound a0_noRule a0_orders c_z c_past c_slots c_isSaved c_pastMany c_pad c_typed c_yes_1 c_no_1 c_yesThen_1 c_noThen_1 c_yesRound_1 c_yesRule_1 c_noRound_1 c_noRule_1 c_rounds_1 c_isMore_1 c_orders c_orderMany c_spot c_bad) ⟨hx, hb, hml, hown, hts⟩ hK hP [0, 1, 2, 3, 4, 5, 6, 7, 8, 9, 10, 11, 12, 13, 14] rfl (c_X6_noMany l dC dI ck a0 a0_z a0_past a0_slots a0_isSaved a0_pad a0_yes a0_no a0_yesThen a0_noThen a0_yesRound a0_yesRule a0_noRound a0_noRule a0_orders c_z c_past c_slots c_isSaved c_pastMany c_pad c_typed c_yes_1 c_no_1 c_yesThen_1 c_noThen_1 c_yesRound_1 c_yesRule_1 c_noRound_1 c_noRule_1 c_rounds_1 c_isMore_1 c_orders c_orderMany c_spot c_bad r_73 q_73) (cwV 0 hts gX6_count_X6_noMany rfl rfl rfl (by decide +kernel) ⟨Nat.le_of_ble_eq_true rfl, Nat.le_of_ble_eq_true rfl⟩) 0 rfl rfl rfl hl.1 rfl (Nat.le_of_ble_eq_true rfl) dX6_count_73 ⟨Nat.zero_le _, Nat.zero_le _⟩ ?_
    cases h
    exact eMi hx hb hr hlk hP hD hS rfl dX6_count_76
  have h := if_f h c_5_3
  rcases Decidable.em (v1 = (4 : Int32)) with c_5_4 | c_5_4
  · have h := if_t h c_5_4
    refine lv_tableIn (tgt := 77) hx hb dX6_count_5 (by rw [c_5_4]; decide) (by rw [c_5_4]; decide) (by rw [c_5_4]; rfl) (by decide) ?_
    refine lv_aload_n hx hb dX6_count_77 rfl (lv_at hl 0 rfl) ?_
    obtain ⟨r_78, q_78, h⟩ := ob1_e h
    refine cRV (wc := wX6 ck a0 a0_z a0_past a0_slots a0_isSaved a0_pad a0_yes a0_no a0_yesThen a0_noThen a0_yesRound a0_yesRule a0_noRound a0_noRule a0_orders c_z c_past c_slots c_isSaved c_pastMany c_pad c_typed c_yes_1 c_no_1 c_yesThen_1 c_noThen_1 c_yesRound_1 c_yesRule_1 c_noRound_1 c_noRule_1 c_rounds_1 c_isMore_1 c_orders c_orderMany c_spot c_bad) ⟨hx, hb, hml, hown, hts⟩ hK hP [0, 1, 2, 3, 4, 5, 6, 7, 8, 9, 10, 11, 12, 13, 14] rfl (c_X6_unmarked l dC dI ck a0 a0_z a0_past a0_slots a0_isSaved a0_pad a0_yes a0_no a0_yesThen a0_noThen a0_yesRound a0_yesRule a0_noRound a0_noRule a0_orders c_z c_past c_slots c_isSaved c_pastMany c_pad c_typed c_yes_1 c_no_1 c_yesThen_1 c_noThen_1 c_yesRound_1 c_yesRule_1 c_noRound_1 c_noRule_1 c_rounds_1 c_isMore_1 c_orders c_orderMany c_spot c_bad r_78 q_78) (cwV 0 hts gX6_count_X6_unmarked rfl rfl rfl (by decide +kernel) ⟨Nat.le_of_ble_eq_true rfl, Nat.le_of_ble_eq_true rfl⟩) 0 rfl rfl rfl hl.1 rfl (Nat.le_of_ble_eq_true rfl) dX6_count_78 ⟨Nat.zero_le _, Nat.zero_le _⟩ ?_
    cases h
    exact eMi hx hb hr hlk hP hD hS rfl dX6_count_81
  have h := if_f h c_5_4
  rcases Decidable.em (v1 = (5 : Int32)) with c_5_5 | c_5_5
  · have h := if_t h c_5_5
    refine lv_tableIn (tgt := 82) hx hb dX6_count_5 (by rw [c_5_5]; decide) (by rw [c_5_5]; decide) (by rw [c_5_5]; rfl) (by decide) ?_
    refine lv_aload_n hx hb dX6_count_82 rfl (lv_at hl 0 rfl) ?_
    refine va_get (ci := 6) (v := .int c_rounds_1) (C := RX6) (T := TX6) (N := 21) hx hb hts iu_X6 hown hK.1 hP 0 rfl rfl 15 (by decide) (hts (.fieldLink RX6 73 "SheetMarksModel" "rounds" "I") (List.mem_of_getElem? (i := 2) rfl)) (fun _ h9 => h9) rfl dX6_count_83 ?_
    cases h
    exact eMi hx hb hr hlk hP hD hS rfl dX6_count_86
  have h := if_f h c_5_5
  rcases Decidable.em (v1 = (6 : Int32)) with c_5_6 | c_5_6
  · have h := if_t h c_5_6
    refine lv_tableIn (tgt := 87) hx hb dX6_count_5 (by rw [c_5_6]; decide) (by rw [c_5_6]; decide) (by rw [c_5_6]; rfl) (by decide) ?_
    refine lv_aload_n hx hb dX6_count_87 rfl (lv_at hl 0 rfl) ?_
    obtain ⟨r_88, q_88, h⟩ := ob1_e h
    refine cRV (wc := wX6 ck a0 a0_z a0_past a0_slots a0_isSaved a0_pad a0_yes a0_no a0_yesThen a0_noThen a0_yesRound a0_yesRule a0_noRound a0_noRule a0_orders c_z c_past c_slots c_isSaved c_pastMany c_pad c_typed c_yes_1 c_no_1 c_yesThen_1 c_noThen_1 c_yesRound_1 c_yesRule_1 c_noRound_1 c_noRule_1 c_rounds_1 c_isMore_1 c_orders c_orderMany c_spot c_bad) ⟨hx, hb, hml, hown, hts⟩ hK hP [0, 1, 2, 3, 4, 5, 6, 7, 8, 9, 10, 11, 12, 13, 14] rfl (c_X6_isBroken l dC dI ck a0 a0_z a0_past a0_slots a0_isSaved a0_pad a0_yes a0_no a0_yesThen a0_noThen a0_yesRound a0_yesRule a0_noRound a0_noRule a0_orders c_z c_past c_slots c_isSaved c_pastMany c_pad c_typed c_yes_1 c_no_1 c_yesThen_1 c_noThen_1 c_yesRound_1 c_yesRule_1 c_noRound_1 c_noRule_1 c_rounds_1 c_isMore_1 c_orders c_orderMany c_spot c_bad r_88 q_88) (cwV 0 hts gX6_count_X6_isBroken rfl rfl rfl (by decide +kernel) ⟨Nat.le_of_ble_eq_true rfl, Nat.le_of_ble_eq_true rfl⟩) 0 rfl rfl rfl hl.1 rfl (Nat.le_of_ble_eq_true rfl) dX6_count_88 ⟨Nat.zero_le _, Nat.zero_le _⟩ ?_
    refine lv_if_eq (tgt := 98) hx hb dX6_count_91 (by decide) (fun c_91 => ?_) (fun c_91 => ?_)
    · have h := if_t h c_91
      refine lv_iconst (v := (0 : Int32)) hx hb dX6_count_98 rfl ?_
      cases h
      exact eMi hx hb hr hlk hP hD hS rfl dX6_count_99
    · have h := if_f h c_91
      refine lv_iconst (v := (1 : Int32)) hx hb dX6_count_94 rfl ?_
      refine lv_goto (tgt := 99) hx hb dX6_count_95 (by decide) ?_
      cases h
      exact eMi hx hb hr hlk hP hD hS rfl dX6_count_99
  have h := if_f h c_5_6
  rcases Decidable.em (v1 = (7 : Int32)) with c_5_7 | c_5_7
  · have h := if_t h c_5_7
    refine lv_tableIn (tgt := 100) hx hb dX6_count_5 (by rw [c_5_7]; decide) (by rw [c_5_7]; decide) (by rw [c_5_7]; rfl) (by decide) ?_
    refine lv_aload_n hx hb dX6_count_100 rfl (lv_at hl 0 rfl) ?_
    obtain ⟨r_101, q_101, h⟩ := ob1_e h
    refine cRV (wc := wX6 ck a0 a0_z a0_past a0_slots a0_isSaved a0_pad a0_yes a0_no a0_yesThen a0_noThen a0_yesRound a0_yesRule a0_noRound a0_noRule a0_orders c_z c_past c_slots c_isSaved c_pastMany c_pad c_typed c_yes_1 c_no_1 c_yesThen_1 c_noThen_1 c_yesRound_1 c_yesRule_1 c_noRound_1 c_noRule_1 c_rounds_1 c_isMore_1 c_orders c_orderMany c_spot c_bad) ⟨hx, hb, hml, hown, hts⟩ hK hP [0, 1, 2, 3, 4, 5, 6, 7, 8, 9, 10, 11, 12, 13, 14] rfl (c_X6_kindsFound l dC dI ck a0 a0_z a0_past a0_slots a0_isSaved a0_pad a0_yes a0_no a0_yesThen a0_noThen a0_yesRound a0_yesRule a0_noRound a0_noRule a0_orders c_z c_past c_slots c_isSaved c_pastMany c_pad c_typed c_yes_1 c_no_1 c_yesThen_1 c_noThen_1 c_yesRound_1 c_yesRule_1 c_noRound_1 c_noRule_1 c_rounds_1 c_isMore_1 c_orders c_orderMany c_spot c_bad r_101 q_101) (cwV 0 hts gX6_count_X6_kindsFound rfl rfl rfl (by decide +kernel) ⟨Nat.le_of_ble_eq_true rfl, Nat.le_of_ble_eq_true rfl⟩) 0 rfl rfl rfl hl.1 rfl (Nat.le_of_ble_eq_true rfl) dX6_count_101 ⟨Nat.zero_le _, Nat.zero_le _⟩ ?_
    cases h
    exact eMi hx hb hr hlk hP hD hS rfl dX6_count_104
  have h := if_f h c_5_7
  rcases Decidable.em (v1 = (8 : Int32)) with c_5_8 | c_5_8
  · have h := if_t h c_5_8
    refine lv_tableIn (tgt := 105) hx hb dX6_count_5 (by rw [c_5_8]; decide) (by rw [c_5_8]; decide) (by rw [c_5_8]; rfl) (by decide) ?_
    refine lv_aload_n hx hb dX6_count_105 rfl (lv_at hl 0 rfl) ?_
    refine va_get (ci := 6) (v := .int c_typed) (C := RX6) (T := TX6) (N := 21) hx hb hts iu_X6 hown hK.1 hP 0 rfl rfl 6 (by decide) (hts (.fieldLink RX6 194 "SheetMarksModel" "typed" "I") (List.mem_of_getElem? (i := 3) rfl)) (fun _ h9 => h9) rfl dX6_count_106 ?_
    cases h
    exact eMi hx hb hr hlk hP hD hS rfl dX6_count_109
  have h := if_f h c_5_8
  rcases Decidable.em (v1 = (9 : Int32)) with c_5_9 | c_5_9
  · have h := if_t h c_5_9
    refine lv_tableIn (tgt := 110) hx hb dX6_count_5 (by rw [c_5_9]; decide) (by rw [c_5_9]; decide) (by rw [c_5_9]; rfl) (by decide) ?_
    refine lv_aload_n hx hb dX6_count_110 rfl (lv_at hl 0 rfl) ?_
    refine va_get (ci := 6) (v := .int c_pastMany) (C := RX6) (T := TX6) (N := 21) hx hb hts iu_X6 hown hK.1 hP 0 rfl rfl 4 (by decide) (hts (.fieldLink RX6 66 "SheetMarksModel" "pastMany" "I") (List.mem_of_getElem? (i := 4) rfl)) (fun _ h9 => h9) rfl dX6_count_111 ?_
    cases h
    exact eMi hx hb hr hlk hP hD hS rfl dX6_count_114
  have h := if_f h c_5_9
  refine lv_tableOut (tgt := 115) hx hb dX6_count_5 (by have t_0 := ti_ne (n := 0) rfl c_5_0; have t_1 := ti_ne (n := 1) rfl c_5_1; have t_2 := ti_ne (n := 2) rfl c_5_2; have t_3 := ti_ne (n := 3) rfl c_5_3; have t_4 := ti_ne (n := 4) rfl c_5_4; have t_5 := ti_ne (n := 5) rfl c_5_5; have t_6 := ti_ne (n := 6) rfl c_5_6; have t_7 := ti_ne (n := 7) rfl c_5_7; have t_8 := ti_ne (n := 8) rfl c_5_8; have t_9 := ti_ne (n := 9) rfl c_5_9; omega) (by decide) ?_
  refine lv_bipush (v := (-2 : Int32)) hx hb dX6_count_115 rfl ?_
  cases h
  exact eMi hx hb hr hlk hP hD hS rfl dX6_count_117
noncomputable def f_X6_envelope (c_z : Nat → Int32) (c_yes : Nat → Int32) (c_no : Nat → Int32) (c_yesThen : Nat → Int32) (c_noThen : Nat → Int32) (c_yesRound : Nat → Int32) (c_yesRule : Nat → Int32) (c_noRound : Nat → Int32) (c_noRule : Nat → Int32) (c_rounds : Int32) (c_isMore : Int32) (v1 : Int32) (v2 : Int32) : Option (Int32 × (Nat → Int32) × (Nat → Int32) × (Nat → Int32) × (Nat → Int32) × (Nat → Int32) × (Nat → Int32) × (Nat → Int32) × (Nat → Int32) × Int32 × Int32) :=
  ob1 (f_X6_in v1 (0 : Int32) (2 : Int32)) (fun (r_3 : Int32) => if r_3 = (0 : Int32) then (some ((-1 : Int32), c_yes, c_no, c_yesThen, c_noThen, c_yesRound, c_yesRule, c_noRound, c_noRule, c_rounds, c_isMore)) else (ob1 (f_X6_in v2 (0 : Int32) (1 : Int32)) (fun (r_14 : Int32) => if r_14 = (0 : Int32) then (some ((-2 : Int32), c_yes, c_no, c_yesThen, c_noThen, c_yesRound, c_yesRule, c_noRound, c_noRule, c_rounds, c_isMore)) else (ob10 (f_X6_lay c_z c_yes c_no c_yesThen c_noThen c_yesRound c_yesRule c_noRound c_noRule c_rounds c_isMore) (fun (c_yes_24 : Nat → Int32) (c_no_24 : Nat → Int32) (c_yesThen_24 : Nat → Int32) (c_noThen_24 : Nat → Int32) (c_yesRound_24 : Nat → Int32) (c_yesRule_24 : Nat → Int32) (c_noRound_24 : Nat → Int32) (c_noRule_24 : Nat → Int32) (c_rounds_24 : Int32) (c_isMore_24 : Int32) => gd (5 : Int32) 6 (ob1 (f_X6_kindSet v1) (fun (r_34 : Int32) => lt' ((c_yes_24 (5 : Int32).toNatClampNeg) &&& r_34) (fun v3_38 : Int32 => if v2 = (1 : Int32) then (ob1 (f_X6_kindSet v1) (fun (r_45 : Int32) => gd (5 : Int32) 6 (some ((r_45 &&& ((c_no_24 (5 : Int32).toNatClampNeg) ^^^ (-1 : Int32))), c_yes_24, c_no_24, c_yesThen_24, c_noThen_24, c_yesRound_24, c_yesRule_24, c_noRound_24, c_noRule_24, c_rounds_24, c_isMore_24)))) else (if v3_38 = (0 : Int32) then (some ((-6 : Int32), c_yes_24, c_no_24, c_yesThen_24, c_noThen_24, c_yesRound_24, c_yesRule_24, c_noRound_24, c_noRule_24, c_rounds_24, c_isMore_24)) else (ob1 (f_X6_bits ((v3_38 &&& (-v3_38)) - (1 : Int32))) (fun (r_75 : Int32) => some (r_75, c_yes_24, c_no_24, c_yesThen_24, c_noThen_24, c_yesRound_24, c_yesRule_24, c_noRound_24, c_noRule_24, c_rounds_24, c_isMore_24))))))))))))
set_option maxHeartbeats 4000000 in
set_option maxRecDepth 100000 in
theorem c_X6_envelope (l : Launch) (dC : Nat → ClassId) (dI : Nat → Nat → Nat) (ck : Nat → ClassId) (a0 a0_z a0_past a0_slots a0_isSaved a0_pad a0_yes a0_no a0_yesThen a0_noThen a0_yesRound a0_yesRule a0_noRound a0_noRule a0_orders : Nat) (c_z : Nat → Int32) (c_past : Nat → Int32) (c_slots : Nat → Int32) (c_isSaved : Nat → Int32) (c_pastMany : Int32) (c_pad : Nat → Int32) (c_typed : Int32) (c_yes : Nat → Int32) (c_no : Nat → Int32) (c_yesThen : Nat → Int32) (c_noThen : Nat → Int32) (c_yesRound : Nat → Int32) (c_yesRule : Nat → Int32) (c_noRound : Nat → Int32) (c_noRule : Nat → Int32) (c_rounds : Int32) (c_isMore : Int32) (c_orders : Nat → Int32) (c_orderMany : Int32) (c_spot : Int32) (c_bad : Int32) (v1 : Int32) (v2 : Int32) (o0 : Int32) (o1 : Nat → Int32) (o2 : Nat → Int32) (o3 : Nat → Int32) (o4 : Nat → Int32) (o5 : Nat → Int32) (o6 : Nat → Int32) (o7 : Nat → Int32) (o8 : Nat → Int32) (o9 : Int32) (o10 : Int32) (h : f_X6_envelope c_z c_yes c_no c_yesThen c_noThen c_yesRound c_yesRule c_noRound c_noRule c_rounds c_isMore v1 v2 = some (o0, o1, o2, o3, o4, o5, o6, o7, o8, o9, o10)) : MI l yX6_envelope wsX6_envelope ({ frames := 6, cells := 0, slots := 0, locals := 139 }) [.ref a0, .int v1, .int v2] (dC, dI) ck (wX6 ck a0 a0_z a0_past a0_slots a0_isSaved a0_pad a0_yes a0_no a0_yesThen a0_noThen a0_yesRound a0_yesRule a0_noRound a0_noRule a0_orders c_z c_past c_slots c_isSaved c_pastMany c_pad c_typed c_yes c_no c_yesThen c_noThen c_yesRound c_yesRule c_noRound c_noRule c_rounds c_isMore c_orders c_orderMany c_spot c_bad) (wX6 ck a0 a0_z a0_past a0_slots a0_isSaved a0_pad a0_yes a0_no a0_yesThen a0_noThen a0_yesRound a0_yesRule a0_noRound a0_noRule a0_orders c_z c_past c_slots c_isSaved c_pastMany c_pad c_typed o1 o2 o3 o4 o5 o6 o7 o8 o9 o10 c_orders c_orderMany c_spot c_bad) o0 := by
  refine MI.ofW (cc := cX6_envelope) (maxL := 4) (ret := (some .int)) (by decide +kernel) rfl (Nat.le_of_ble_eq_true rfl) ?_
  intro p e s m below meth c hx hb hr hml hts hown hlk hK hP A hA hD ls hl
  have hS : va_S A s.heap s.heap [] := va_S.rf
  have hown : s.vm.findClass RX6 = some m.cls := hown
  have hl : lv_has ls 4 [(0, .ref a0), (1, .int v1), (2, .int v2)] := hl
  have iu_X6 : ∀ w ∈ u_ws RX6 TX6 21, w ∈ wsX6_envelope := fun w h => List.mem_cons_of_mem _ (List.mem_append_right _ h)
  unfold f_X6_envelope at h
  refine lv_iload_n hx hb dX6_envelope_0 rfl (lv_at hl 1 rfl) ?_
  refine lv_iconst (v := (0 : Int32)) hx hb dX6_envelope_1 rfl ?_
  refine lv_iconst (v := (2 : Int32)) hx hb dX6_envelope_2 rfl ?_
  obtain ⟨r_3, q_3, h⟩ := ob1_e h
  refine cRS (wc := []) ⟨hx, hb, hml, hown, hts⟩ hK hP [] rfl (c_X6_in l dC dI ck v1 (0 : Int32) (2 : Int32) r_3 q_3) (va_cwS 3 hts gX6_envelope_X6_in rfl rfl rfl (by decide +kernel) ⟨Nat.le_of_ble_eq_true rfl, Nat.le_of_ble_eq_true rfl⟩) rfl hl.1 rfl (Nat.le_of_ble_eq_true rfl) dX6_envelope_3 ⟨Nat.zero_le _, Nat.zero_le _⟩ ?_
  refine lv_if_ne (tgt := 11) hx hb dX6_envelope_6 (by decide) (fun c_6 => ?_) (fun c_6 => ?_)
  · have h := if_f h c_6
    refine lv_iload_n hx hb dX6_envelope_11 rfl (lv_at hl 2 rfl) ?_
    refine lv_iconst (v := (0 : Int32)) hx hb dX6_envelope_12 rfl ?_
    refine lv_iconst (v := (1 : Int32)) hx hb dX6_envelope_13 rfl ?_
    obtain ⟨r_14, q_14, h⟩ := ob1_e h
    refine cRS (wc := []) ⟨hx, hb, hml, hown, hts⟩ hK hP [] rfl (c_X6_in l dC dI ck v2 (0 : Int32) (1 : Int32) r_14 q_14) (va_cwS 3 hts gX6_envelope_X6_in rfl rfl rfl (by decide +kernel) ⟨Nat.le_of_ble_eq_true rfl, Nat.le_of_ble_eq_true rfl⟩) rfl hl.1 rfl (Nat.le_of_ble_eq_true rfl) dX6_envelope_14 ⟨Nat.zero_le _, Nat.zero_le _⟩ ?_
    refine lv_if_ne (tgt := 23) hx hb dX6_envelope_17 (by decide) (fun c_17 => ?_) (fun c_17 => ?_)
    · have h := if_f h c_17
      refine lv_aload_n hx hb dX6_envelope_23 rfl (lv_at hl 0 rfl) ?_
      obtain ⟨c_yes_24, c_no_24, c_yesThen_24, c_noThen_24, c_yesRound_24, c_yesRule_24, c_noRound_24, c_noRule_24, c_rounds_24, c_isMore_24, q_24, h⟩ := ob10_e h
      refine cMV (wc := wX6 ck a0 a0_z a0_past a0_slots a0_isSaved a0_pad a0_yes a0_no a0_yesThen a0_noThen a0_yesRound a0_yesRule a0_noRound a0_noRule a0_orders c_z c_past c_slots c_isSaved c_pastMany c_pad c_typed c_yes c_no c_yesThen c_noThen c_yesRound c_yesRule c_noRound c_noRule c_rounds c_isMore c_orders c_orderMany c_spot c_bad) (wr := []) (w1 := wX6 ck a0 a0_z a0_past a0_slots a0_isSaved a0_pad a0_yes a0_no a0_yesThen a0_noThen a0_yesRound a0_yesRule a0_noRound a0_noRule a0_orders c_z c_past c_slots c_isSaved c_pastMany c_pad c_typed c_yes_24 c_no_24 c_yesThen_24 c_noThen_24 c_yesRound_24 c_yesRule_24 c_noRound_24 c_noRule_24 c_rounds_24 c_isMore_24 c_orders c_orderMany c_spot c_bad) (wn := wX6 ck a0 a0_z a0_past a0_slots a0_isSaved a0_pad a0_yes a0_no a0_yesThen a0_noThen a0_yesRound a0_yesRule a0_noRound a0_noRule a0_orders c_z c_past c_slots c_isSaved c_pastMany c_pad c_typed c_yes_24 c_no_24 c_yesThen_24 c_noThen_24 c_yesRound_24 c_yesRule_24 c_noRound_24 c_noRule_24 c_rounds_24 c_isMore_24 c_orders c_orderMany c_spot c_bad) ⟨hx, hb, hml, hown, hts⟩ hK hP hD hS hA [0, 1, 2, 3, 4, 5, 6, 7, 8, 9, 10, 11, 12, 13, 14] [] [0, 1, 2, 3, 4, 5, 6, 7, 8, 9, 10, 11, 12, 13, 14] rfl (by decide) rfl (by decide) (by decide) rfl (by decide) (c_X6_lay l dC dI ck a0 a0_z a0_past a0_slots a0_isSaved a0_pad a0_yes a0_no a0_yesThen a0_noThen a0_yesRound a0_yesRule a0_noRound a0_noRule a0_orders c_z c_past c_slots c_isSaved c_pastMany c_pad c_typed c_yes c_no c_yesThen c_noThen c_yesRound c_yesRule c_noRound c_noRule c_rounds c_isMore c_orders c_orderMany c_spot c_bad c_yes_24 c_no_24 c_yesThen_24 c_noThen_24 c_yesRound_24 c_yesRule_24 c_noRound_24 c_noRule_24 c_rounds_24 c_isMore_24 q_24) (cwV 0 hts gX6_envelope_X6_lay rfl rfl rfl (by decide +kernel) ⟨Nat.le_of_ble_eq_true rfl, Nat.le_of_ble_eq_true rfl⟩) 0 rfl rfl rfl hl.1 rfl (Nat.le_of_ble_eq_true rfl) dX6_envelope_24 ⟨Nat.zero_le _, Nat.zero_le _⟩ (fun H locs hP hD hS => ?_)
      refine lv_aload_n hx hb dX6_envelope_27 rfl (lv_at hl 0 rfl) ?_
      refine va_get (ci := 6) (v := .ref a0_yes) (C := RX6) (T := TX6) (N := 21) hx hb hts iu_X6 hown hK.1 hP 0 rfl rfl 7 (by decide) (hts (.fieldLink RX6 27 "SheetMarksModel" "yes" "[I") (List.mem_of_getElem? (i := 1) rfl)) (fun _ h9 => h9) rfl dX6_envelope_28 ?_
      refine lv_iconst (v := (5 : Int32)) hx hb dX6_envelope_31 rfl ?_
      obtain ⟨g_32, h⟩ := gd_e h
      refine va_iald hx hb hK.1 hP 6 0 rfl rfl g_32 dX6_envelope_32 ?_
      refine lv_iload_n hx hb dX6_envelope_33 rfl (lv_at hl 1 rfl) ?_
      obtain ⟨r_34, q_34, h⟩ := ob1_e h
      refine cRS (wc := []) ⟨hx, hb, hml, hown, hts⟩ hK hP [] rfl (c_X6_kindSet l dC dI ck v1 r_34 q_34) (va_cwS 1 hts gX6_envelope_X6_kindSet rfl rfl rfl (by decide +kernel) ⟨Nat.le_of_ble_eq_true rfl, Nat.le_of_ble_eq_true rfl⟩) rfl hl.1 rfl (Nat.le_of_ble_eq_true rfl) dX6_envelope_34 ⟨Nat.zero_le _, Nat.zero_le _⟩ ?_
      refine lv_iand hx hb dX6_envelope_37 ?_
      refine lv_topi (fun v3_38 e_38 => ?_)
      have h := lt'_e e_38 h
      refine lv_istore_n (lv' := [(3, .int v3_38), (0, .ref a0), (1, .int v1), (2, .int v2)]) hx hb dX6_envelope_38 rfl hl (by decide) rfl (fun ls hl => ?_)
      refine lv_iload_n hx hb dX6_envelope_39 rfl (lv_at hl 3 rfl) ?_
      refine lv_iconst (v := (1 : Int32)) hx hb dX6_envelope_40 rfl ?_
      refine lv_icmp_ne (tgt := 60) hx hb dX6_envelope_41 (by decide) (fun c_41 => ?_) (fun c_41 => ?_)
      · have h := if_f h c_41
        refine lv_iload_n hx hb dX6_envelope_60 rfl (lv_at hl 0 rfl) ?_
        refine lv_if_ne (tgt := 69) hx hb dX6_envelope_61 (by decide) (fun c_61 => ?_) (fun c_61 => ?_)
        · have h := if_f h c_61
          refine lv_iload_n hx hb dX6_envelope_69 rfl (lv_at hl 0 rfl) ?_
          refine lv_iload_n hx hb dX6_envelope_70 rfl (lv_at hl 0 rfl) ?_
          refine lv_ineg hx hb dX6_envelope_71 ?_
          refine lv_iand hx hb dX6_envelope_72 ?_
          refine lv_iconst (v := (1 : Int32)) hx hb dX6_envelope_73 rfl ?_
          refine lv_isub hx hb dX6_envelope_74 ?_
          obtain ⟨r_75, q_75, h⟩ := ob1_e h
          refine cRS (wc := []) ⟨hx, hb, hml, hown, hts⟩ hK hP [] rfl (c_X6_bits l dC dI ck ((v3_38 &&& (-v3_38)) - (1 : Int32)) r_75 q_75) (va_cwS 1 hts gX6_envelope_X6_bits rfl rfl rfl (by decide +kernel) ⟨Nat.le_of_ble_eq_true rfl, Nat.le_of_ble_eq_true rfl⟩) rfl hl.1 rfl (Nat.le_of_ble_eq_true rfl) dX6_envelope_75 ⟨Nat.zero_le _, Nat.zero_le _⟩ ?_
          cases h
          exact eMi hx hb hr hlk hP hD hS rfl dX6_envelope_78
        · have h := if_t h c_61
          refine lv_bipush (v := (-6 : Int32)) hx hb dX6_envelope_64 rfl ?_
          refine lv_goto (tgt := 78) hx hb dX6_envelope_66 (by decide) ?_
          cases h
          exact eMi hx hb hr hlk hP hD hS rfl dX6_envelope_78
      · have h := if_t h c_41
        refine lv_iload_n hx hb dX6_envelope_44 rfl (lv_at hl 2 rfl) ?_
        obtain ⟨r_45, q_45, h⟩ := ob1_e h
        refine cRS (wc := []) ⟨hx, hb, hml, hown, hts⟩ hK hP [] rfl (c_X6_kindSet l dC dI ck v1 r_45 q_45) (va_cwS 1 hts gX6_envelope_X6_kindSet rfl rfl rfl (by decide +kernel) ⟨Nat.le_of_ble_eq_true rfl, Nat.le_of_ble_eq_true rfl⟩) rfl hl.1 rfl (Nat.le_of_ble_eq_true rfl) dX6_envelope_45 ⟨Nat.zero_le _, Nat.zero_le _⟩ ?_
        refine lv_aload_n hx hb dX6_envelope_48 rfl (lv_at hl 1 rfl) ?_
        refine va_get (ci := 6) (v := .ref a0_no) (C := RX6) (T := TX6) (N := 21) hx hb hts iu_X6 hown hK.1 hP 0 rfl rfl 8 (by decide) (hts (.fieldLink RX6 30 "SheetMarksModel" "no" "[I") (List.mem_of_getElem? (i := 2) rfl)) (fun _ h9 => h9) rfl dX6_envelope_49 ?_
        refine lv_iconst (v := (5 : Int32)) hx hb dX6_envelope_52 rfl ?_
        obtain ⟨g_53, h⟩ := gd_e h
        refine va_iald hx hb hK.1 hP 7 0 rfl rfl g_53 dX6_envelope_53 ?_
        refine lv_iconst (v := (-1 : Int32)) hx hb dX6_envelope_54 rfl ?_
        refine lv_ixor hx hb dX6_envelope_55 ?_
        refine lv_iand hx hb dX6_envelope_56 ?_
        refine lv_goto (tgt := 78) hx hb dX6_envelope_57 (by decide) ?_
        cases h
        exact eMi hx hb hr hlk hP hD hS rfl dX6_envelope_78
    · have h := if_t h c_17
      refine lv_bipush (v := (-2 : Int32)) hx hb dX6_envelope_20 rfl ?_
      cases h
      exact eMi hx hb hr hlk hP hD hS rfl dX6_envelope_22
  · have h := if_t h c_6
    refine lv_iconst (v := (-1 : Int32)) hx hb dX6_envelope_9 rfl ?_
    cases h
    exact eMi hx hb hr hlk hP hD hS rfl dX6_envelope_10
noncomputable def f_X6_gained (c_z : Nat → Int32) (c_yes : Nat → Int32) (c_no : Nat → Int32) (c_yesThen : Nat → Int32) (c_noThen : Nat → Int32) (c_yesRound : Nat → Int32) (c_yesRule : Nat → Int32) (c_noRound : Nat → Int32) (c_noRule : Nat → Int32) (c_rounds : Int32) (c_isMore : Int32) (v1 : Int32) (v2 : Int32) (v3 : Int32) (v4 : Int32) (v5 : Int32) (v6 : Int32) : Option (Int32 × (Nat → Int32) × (Nat → Int32) × (Nat → Int32) × (Nat → Int32) × (Nat → Int32) × (Nat → Int32) × (Nat → Int32) × (Nat → Int32) × (Nat → Int32) × Int32 × Int32) :=
  ob1 (f_X6_addThree c_z ((1 : Int32) + v3) v2 v4 v5 v6) (fun (c_z_11 : Nat → Int32) => ob11 (f_X6_marks c_z_11 c_yes c_no c_yesThen c_noThen c_yesRound c_yesRule c_noRound c_noRule c_rounds c_isMore) (fun (r_15 : Int32) (c_yes_15 : Nat → Int32) (c_no_15 : Nat → Int32) (c_yesThen_15 : Nat → Int32) (c_noThen_15 : Nat → Int32) (c_yesRound_15 : Nat → Int32) (c_yesRule_15 : Nat → Int32) (c_noRound_15 : Nat → Int32) (c_noRule_15 : Nat → Int32) (c_rounds_15 : Int32) (c_isMore_15 : Int32) => lt' (r_15 - v1) (fun v7_20 : Int32 => ob1 (f_X6_isBroken c_z_11 c_yes_15 c_no_15) (fun (r_23 : Int32) => gd (1 : Int32) 207 (ob1 (f_X6_drop c_z_11 ((c_z_11 (1 : Int32).toNatClampNeg) - (1 : Int32))) (fun (c_z_37 : Nat → Int32) => if r_23 = (0 : Int32) then (some (v7_20, c_z_37, c_yes_15, c_no_15, c_yesThen_15, c_noThen_15, c_yesRound_15, c_yesRule_15, c_noRound_15, c_noRule_15, c_rounds_15, c_isMore_15)) else (some ((-6 : Int32), c_z_37, c_yes_15, c_no_15, c_yesThen_15, c_noThen_15, c_yesRound_15, c_yesRule_15, c_noRound_15, c_noRule_15, c_rounds_15, c_isMore_15))))))))
set_option maxHeartbeats 4000000 in
set_option maxRecDepth 100000 in
theorem c_X6_gained (l : Launch) (dC : Nat → ClassId) (dI : Nat → Nat → Nat) (ck : Nat → ClassId) (a0 a0_z a0_past a0_slots a0_isSaved a0_pad a0_yes a0_no a0_yesThen a0_noThen a0_yesRound a0_yesRule a0_noRound a0_noRule a0_orders : Nat) (c_z : Nat → Int32) (c_past : Nat → Int32) (c_slots : Nat → Int32) (c_isSaved : Nat → Int32) (c_pastMany : Int32) (c_pad : Nat → Int32) (c_typed : Int32) (c_yes : Nat → Int32) (c_no : Nat → Int32) (c_yesThen : Nat → Int32) (c_noThen : Nat → Int32) (c_yesRound : Nat → Int32) (c_yesRule : Nat → Int32) (c_noRound : Nat → Int32) (c_noRule : Nat → Int32) (c_rounds : Int32) (c_isMore : Int32) (c_orders : Nat → Int32) (c_orderMany : Int32) (c_spot : Int32) (c_bad : Int32) (v1 : Int32) (v2 : Int32) (v3 : Int32) (v4 : Int32) (v5 : Int32) (v6 : Int32) (o0 : Int32) (o1 : Nat → Int32) (o2 : Nat → Int32) (o3 : Nat → Int32) (o4 : Nat → Int32) (o5 : Nat → Int32) (o6 : Nat → Int32) (o7 : Nat → Int32) (o8 : Nat → Int32) (o9 : Nat → Int32) (o10 : Int32) (o11 : Int32) (h : f_X6_gained c_z c_yes c_no c_yesThen c_noThen c_yesRound c_yesRule c_noRound c_noRule c_rounds c_isMore v1 v2 v3 v4 v5 v6 = some (o0, o1, o2, o3, o4, o5, o6, o7, o8, o9, o10, o11)) : MI l yX6_gained wsX6_gained ({ frames := 7, cells := 0, slots := 0, locals := 159 }) [.ref a0, .int v1, .int v2, .int v3, .int v4, .int v5, .int v6] (dC, dI) ck (wX6 ck a0 a0_z a0_past a0_slots a0_isSaved a0_pad a0_yes a0_no a0_yesThen a0_noThen a0_yesRound a0_yesRule a0_noRound a0_noRule a0_orders c_z c_past c_slots c_isSaved c_pastMany c_pad c_typed c_yes c_no c_yesThen c_noThen c_yesRound c_yesRule c_noRound c_noRule c_rounds c_isMore c_orders c_orderMany c_spot c_bad) (wX6 ck a0 a0_z a0_past a0_slots a0_isSaved a0_pad a0_yes a0_no a0_yesThen a0_noThen a0_yesRound a0_yesRule a0_noRound a0_noRule a0_orders o1 c_past c_slots c_isSaved c_pastMany c_pad c_typed o2 o3 o4 o5 o6 o7 o8 o9 o10 o11 c_orders c_orderMany c_spot c_bad) o0 := by
  refine MI.ofW (cc := cX6_gained) (maxL := 9) (ret := (some .int)) (by decide +kernel) rfl (Nat.le_of_ble_eq_true rfl) ?_
  intro p e s m below meth c hx hb hr hml hts hown hlk hK hP A hA hD ls hl
  have hS : va_S A s.heap s.heap [] := va_S.rf
  have hown : s.vm.findClass RX6 = some m.cls := hown
  have hl : lv_has ls 9 [(0, .ref a0), (1, .int v1), (2, .int v2), (3, .int v3), (4, .int v4), (5, .int v5), (6, .int v6)] := hl
  have iu_X6 : ∀ w ∈ u_ws RX6 TX6 21, w ∈ wsX6_gained := fun w h => List.mem_cons_of_mem _ (List.mem_append_right _ h)
  unfold f_X6_gained at h
  refine lv_aload_n hx hb dX6_gained_0 rfl (lv_at hl 0 rfl) ?_
  refine lv_iconst (v := (1 : Int32)) hx hb dX6_gained_1 rfl ?_
  refine lv_iload_n hx hb dX6_gained_2 rfl (lv_at hl 3 rfl) ?_
  refine lv_iadd hx hb dX6_gained_3 ?_
  refine lv_iload_n hx hb dX6_gained_4 rfl (lv_at hl 2 rfl) ?_
  refine lv_iload hx hb dX6_gained_5 (lv_at hl 4 rfl) ?_
  refine lv_iload hx hb dX6_gained_7 (lv_at hl 5 rfl) ?_
  refine lv_iload hx hb dX6_gained_9 (lv_at hl 6 rfl) ?_
  obtain ⟨c_z_11, q_11, h⟩ := ob1_e h
  refine cMV (wc := wX6 ck a0 a0_z a0_past a0_slots a0_isSaved a0_pad a0_yes a0_no a0_yesThen a0_noThen a0_yesRound a0_yesRule a0_noRound a0_noRule a0_orders c_z c_past c_slots c_isSaved c_pastMany c_pad c_typed c_yes c_no c_yesThen c_noThen c_yesRound c_yesRule c_noRound c_noRule c_rounds c_isMore c_orders c_orderMany c_spot c_bad) (wr := []) (w1 := wX6 ck a0 a0_z a0_past a0_slots a0_isSaved a0_pad a0_yes a0_no a0_yesThen a0_noThen a0_yesRound a0_yesRule a0_noRound a0_noRule a0_orders c_z_11 c_past c_slots c_isSaved c_pastMany c_pad c_typed c_yes c_no c_yesThen c_noThen c_yesRound c_yesRule c_noRound c_noRule c_rounds c_isMore c_orders c_orderMany c_spot c_bad) (wn := wX6 ck a0 a0_z a0_past a0_slots a0_isSaved a0_pad a0_yes a0_no a0_yesThen a0_noThen a0_yesRound a0_yesRule a0_noRound a0_noRule a0_orders c_z_11 c_past c_slots c_isSaved c_pastMany c_pad c_typed c_yes c_no c_yesThen c_noThen c_yesRound c_yesRule c_noRound c_noRule c_rounds c_isMore c_orders c_orderMany c_spot c_bad) ⟨hx, hb, hml, hown, hts⟩ hK hP hD hS hA [0, 1, 2, 3, 4, 5, 6, 7, 8, 9, 10, 11, 12, 13, 14] [] [0, 1, 2, 3, 4, 5, 6, 7, 8, 9, 10, 11, 12, 13, 14] rfl (by decide) rfl (by decide) (by decide) rfl (by decide) (c_X6_addThree l dC dI ck a0 a0_z a0_past a0_slots a0_isSaved a0_pad a0_yes a0_no a0_yesThen a0_noThen a0_yesRound a0_yesRule a0_noRound a0_noRule a0_orders c_z c_past c_slots c_isSaved c_pastMany c_pad c_typed c_yes c_no c_yesThen c_noThen c_yesRound c_yesRule c_noRound c_noRule c_rounds c_isMore c_orders c_orderMany c_spot c_bad ((1 : Int32) + v3) v2 v4 v5 v6 c_z_11 q_11) (cwV 5 hts gX6_gained_X6_addThree rfl rfl rfl (by decide +kernel) ⟨Nat.le_of_ble_eq_true rfl, Nat.le_of_ble_eq_true rfl⟩) 0 rfl rfl rfl hl.1 rfl (Nat.le_of_ble_eq_true rfl) dX6_gained_11 ⟨Nat.zero_le _, Nat.zero_le _⟩ (fun H locs hP hD hS => ?_)
  refine lv_aload_n hx hb dX6_gained_14 rfl (lv_at hl 0 rfl) ?_
  obtain ⟨r_15, c_yes_15, c_no_15, c_yesThen_15, c_noThen_15, c_yesRound_15, c_yesRule_15, c_noRound_15, c_noRule_15, c_rounds_15, c_isMore_15, q_15, h⟩ := ob11_e h
  refine cMI (wc := wX6 ck a0 a0_z a0_past a0_slots a0_isSaved a0_pad a0_yes a0_no a0_yesThen a0_noThen a0_yesRound a0_yesRule a0_noRound a0_noRule a0_orders c_z_11 c_past c_slots c_isSaved c_pastMany c_pad c_typed c_yes c_no c_yesThen c_noThen c_yesRound c_yesRule c_noRound c_noRule c_rounds c_isMore c_orders c_orderMany c_spot c_bad) (wr := []) (w1 := wX6 ck a0 a0_z a0_past a0_slots a0_isSaved a0_pad a0_yes a0_no a0_yesThen a0_noThen a0_yesRound a0_yesRule a0_noRound a0_noRule a0_orders c_z_11 c_past c_slots c_isSaved c_pastMany c_pad c_typed c_yes_15 c_no_15 c_yesThen_15 c_noThen_15 c_yesRound_15 c_yesRule_15 c_noRound_15 c_noRule_15 c_rounds_15 c_isMore_15 c_orders c_orderMany c_spot c_bad) (wn := wX6 ck a0 a0_z a0_past a0_slots a0_isSaved a0_pad a0_yes a0_no a0_yesThen a0_noThen a0_yesRound a0_yesRule a0_noRound a0_noRule a0_orders c_z_11 c_past c_slots c_isSaved c_pastMany c_pad c_typed c_yes_15 c_no_15 c_yesThen_15 c_noThen_15 c_yesRound_15 c_yesRule_15 c_noRound_15 c_noRule_15 c_rounds_15 c_isMore_15 c_orders c_orderMany c_spot c_bad) ⟨hx, hb, hml, hown, hts⟩ hK hP hD hS hA [0, 1, 2, 3, 4, 5, 6, 7, 8, 9, 10, 11, 12, 13, 14] [] [0, 1, 2, 3, 4, 5, 6, 7, 8, 9, 10, 11, 12, 13, 14] rfl (by decide) rfl (by decide) (by decide) rfl (by decide) (c_X6_marks l dC dI ck a0 a0_z a0_past a0_slots a0_isSaved a0_pad a0_yes a0_no a0_yesThen a0_noThen a0_yesRound a0_yesRule a0_noRound a0_noRule a0_orders c_z_11 c_past c_slots c_isSaved c_pastMany c_pad c_typed c_yes c_no c_yesThen c_noThen c_yesRound c_yesRule c_noRound c_noRule c_rounds c_isMore c_orders c_orderMany c_spot c_bad r_15 c_yes_15 c_no_15 c_yesThen_15 c_noThen_15 c_yesRound_15 c_yesRule_15 c_noRound_15 c_noRule_15 c_rounds_15 c_isMore_15 q_15) (cwV 0 hts gX6_gained_X6_marks rfl rfl rfl (by decide +kernel) ⟨Nat.le_of_ble_eq_true rfl, Nat.le_of_ble_eq_true rfl⟩) 0 rfl rfl rfl hl.1 rfl (Nat.le_of_ble_eq_true rfl) dX6_gained_15 ⟨Nat.zero_le _, Nat.zero_le _⟩ (fun H locs hP hD hS => ?_)
  refine lv_iload_n hx hb dX6_gained_18 rfl (lv_at hl 1 rfl) ?_
  refine lv_isub hx hb dX6_gained_19 ?_
  refine lv_topi (fun v7_20 e_20 => ?_)
  have h := lt'_e e_20 h
  refine lv_istore (lv' := [(7, .int v7_20), (0, .ref a0), (1, .int v1), (2, .int v2), (3, .int v3), (4, .int v4), (5, .int v5), (6, .int v6)]) hx hb dX6_gained_20 hl (by decide) rfl (fun ls hl => ?_)
  refine lv_aload_n hx hb dX6_gained_22 rfl (lv_at hl 1 rfl) ?_
  obtain ⟨r_23, q_23, h⟩ := ob1_e h
  refine cRV (wc := wX6 ck a0 a0_z a0_past a0_slots a0_isSaved a0_pad a0_yes a0_no a0_yesThen a0_noThen a0_yesRound a0_yesRule a0_noRound a0_noRule a0_orders c_z_11 c_past c_slots c_isSaved c_pastMany c_pad c_typed c_yes_15 c_no_15 c_yesThen_15 c_noThen_15 c_yesRound_15 c_yesRule_15 c_noRound_15 c_noRule_15 c_rounds_15 c_isMore_15 c_orders c_orderMany c_spot c_bad) ⟨hx, hb, hml, hown, hts⟩ hK hP [0, 1, 2, 3, 4, 5, 6, 7, 8, 9, 10, 11, 12, 13, 14] rfl (c_X6_isBroken l dC dI ck a0 a0_z a0_past a0_slots a0_isSaved a0_pad a0_yes a0_no a0_yesThen a0_noThen a0_yesRound a0_yesRule a0_noRound a0_noRule a0_orders c_z_11 c_past c_slots c_isSaved c_pastMany c_pad c_typed c_yes_15 c_no_15 c_yesThen_15 c_noThen_15 c_yesRound_15 c_yesRule_15 c_noRound_15 c_noRule_15 c_rounds_15 c_isMore_15 c_orders c_orderMany c_spot c_bad r_23 q_23) (cwV 0 hts gX6_gained_X6_isBroken rfl rfl rfl (by decide +kernel) ⟨Nat.le_of_ble_eq_true rfl, Nat.le_of_ble_eq_true rfl⟩) 0 rfl rfl rfl hl.1 rfl (Nat.le_of_ble_eq_true rfl) dX6_gained_23 ⟨Nat.zero_le _, Nat.zero_le _⟩ ?_
  refine lv_istore (lv' := [(8, .int r_23), (7, .int v7_20), (0, .ref a0), (1, .int v1), (2, .int v2), (3, .int v3), (4, .int v4), (5, .int v5), (6, .int v6)]) hx hb dX6_gained_26 hl (by decide) rfl (fun ls hl => ?_)
  refine lv_aload_n hx hb dX6_gained_28 rfl (lv_at hl 2 rfl) ?_
  refine lv_aload_n hx hb dX6_gained_29 rfl (lv_at hl 2 rfl) ?_
  refine va_get (ci := 6) (v := .ref a0_z) (C := RX6) (T := TX6) (N := 21) hx hb hts iu_X6 hown hK.1 hP 0 rfl rfl 0 (by decide) (hts (.fieldLink RX6 7 "SheetMarksModel" "z" "[I") (List.mem_of_getElem? (i := 1) rfl)) (fun _ h9 => h9) rfl dX6_gained_30 ?_
  refine lv_iconst (v := (1 : Int32)) hx hb dX6_gained_33 rfl ?_
  obtain ⟨g_34, h⟩ := gd_e h
  refine va_iald hx hb hK.1 hP 1 0 rfl rfl g_34 dX6_gained_34 ?_
  refine lv_iconst (v := (1 : Int32)) hx hb dX6_gained_35 rfl ?_
  refine lv_isub hx hb dX6_gained_36 ?_
  obtain ⟨c_z_37, q_37, h⟩ := ob1_e h
  refine cMV (wc := wX6 ck a0 a0_z a0_past a0_slots a0_isSaved a0_pad a0_yes a0_no a0_yesThen a0_noThen a0_yesRound a0_yesRule a0_noRound a0_noRule a0_orders c_z_11 c_past c_slots c_isSaved c_pastMany c_pad c_typed c_yes_15 c_no_15 c_yesThen_15 c_noThen_15 c_yesRound_15 c_yesRule_15 c_noRound_15 c_noRule_15 c_rounds_15 c_isMore_15 c_orders c_orderMany c_spot c_bad) (wr := []) (w1 := wX6 ck a0 a0_z a0_past a0_slots a0_isSaved a0_pad a0_yes a0_no a0_yesThen a0_noThen a0_yesRound a0_yesRule a0_noRound a0_noRule a0_orders c_z_37 c_past c_slots c_isSaved c_pastMany c_pad c_typed c_yes_15 c_no_15 c_yesThen_15 c_noThen_15 c_yesRound_15 c_yesRule_15 c_noRound_15 c_noRule_15 c_rounds_15 c_isMore_15 c_orders c_orderMany c_spot c_bad) (wn := wX6 ck a0 a0_z a0_past a0_slots a0_isSaved a0_pad a0_yes a0_no a0_yesThen a0_noThen a0_yesRound a0_yesRule a0_noRound a0_noRule a0_orders c_z_37 c_past c_slots c_isSaved c_pastMany c_pad c_typed c_yes_15 c_no_15 c_yesThen_15 c_noThen_15 c_yesRound_15 c_yesRule_15 c_noRound_15 c_noRule_15 c_rounds_15 c_isMore_15 c_orders c_orderMany c_spot c_bad) ⟨hx, hb, hml, hown, hts⟩ hK hP hD hS hA [0, 1, 2, 3, 4, 5, 6, 7, 8, 9, 10, 11, 12, 13, 14] [] [0, 1, 2, 3, 4, 5, 6, 7, 8, 9, 10, 11, 12, 13, 14] rfl (by decide) rfl (by decide) (by decide) rfl (by decide) (c_X6_drop l dC dI ck a0 a0_z a0_past a0_slots a0_isSaved a0_pad a0_yes a0_no a0_yesThen a0_noThen a0_yesRound a0_yesRule a0_noRound a0_noRule a0_orders c_z_11 c_past c_slots c_isSaved c_pastMany c_pad c_typed c_yes_15 c_no_15 c_yesThen_15 c_noThen_15 c_yesRound_15 c_yesRule_15 c_noRound_15 c_noRule_15 c_rounds_15 c_isMore_15 c_orders c_orderMany c_spot c_bad ((c_z_11 (1 : Int32).toNatClampNeg) - (1 : Int32)) c_z_37 q_37) (cwV 1 hts gX6_gained_X6_drop rfl rfl rfl (by decide +kernel) ⟨Nat.le_of_ble_eq_true rfl, Nat.le_of_ble_eq_true rfl⟩) 0 rfl rfl rfl hl.1 rfl (Nat.le_of_ble_eq_true rfl) dX6_gained_37 ⟨Nat.zero_le _, Nat.zero_le _⟩ (fun H locs hP hD hS => ?_)
  refine lv_iload hx hb dX6_gained_40 (lv_at hl 0 rfl) ?_
  refine lv_if_eq (tgt := 50) hx hb dX6_gained_42 (by decide) (fun c_42 => ?_) (fun c_42 => ?_)
  · have h := if_t h c_42
    refine lv_iload hx hb dX6_gained_50 (lv_at hl 1 rfl) ?_
    cases h
    exact eMi hx hb hr hlk hP hD hS rfl dX6_gained_52
  · have h := if_f h c_42
    refine lv_bipush (v := (-6 : Int32)) hx hb dX6_gained_45 rfl ?_
    refine lv_goto (tgt := 52) hx hb dX6_gained_47 (by decide) ?_
    cases h
    exact eMi hx hb hr hlk hP hD hS rfl dX6_gained_52
noncomputable def f_X6_gain (c_z : Nat → Int32) (c_yes : Nat → Int32) (c_no : Nat → Int32) (c_yesThen : Nat → Int32) (c_noThen : Nat → Int32) (c_yesRound : Nat → Int32) (c_yesRule : Nat → Int32) (c_noRound : Nat → Int32) (c_noRule : Nat → Int32) (c_rounds : Int32) (c_isMore : Int32) (v1 : Int32) (v2 : Int32) (v3 : Int32) (v4 : Int32) (v5 : Int32) : Option (Int32 × (Nat → Int32) × (Nat → Int32) × (Nat → Int32) × (Nat → Int32) × (Nat → Int32) × (Nat → Int32) × (Nat → Int32) × (Nat → Int32) × (Nat → Int32) × Int32 × Int32) :=
  ob1 (f_X6_whyNotAnswer c_z v1 v2 v3 v4 v5) (fun (r_8 : Int32) => if (0 : Int32) ≤ r_8 then (ob11 (f_X6_marks c_z c_yes c_no c_yesThen c_noThen c_yesRound c_yesRule c_noRound c_noRule c_rounds c_isMore) (fun (r_25 : Int32) (c_yes_25 : Nat → Int32) (c_no_25 : Nat → Int32) (c_yesThen_25 : Nat → Int32) (c_noThen_25 : Nat → Int32) (c_yesRound_25 : Nat → Int32) (c_yesRule_25 : Nat → Int32) (c_noRound_25 : Nat → Int32) (c_noRule_25 : Nat → Int32) (c_rounds_25 : Int32) (c_isMore_25 : Int32) => ob12 (f_X6_gained c_z c_yes_25 c_no_25 c_yesThen_25 c_noThen_25 c_yesRound_25 c_yesRule_25 c_noRound_25 c_noRule_25 c_rounds_25 c_isMore_25 r_25 v1 v2 v3 v4 v5) (fun (r_35 : Int32) (c_z_35 : Nat → Int32) (c_yes_35 : Nat → Int32) (c_no_35 : Nat → Int32) (c_yesThen_35 : Nat → Int32) (c_noThen_35 : Nat → Int32) (c_yesRound_35 : Nat → Int32) (c_yesRule_35 : Nat → Int32) (c_noRound_35 : Nat → Int32) (c_noRule_35 : Nat → Int32) (c_rounds_35 : Int32) (c_isMore_35 : Int32) => some (r_35, c_z_35, c_yes_35, c_no_35, c_yesThen_35, c_noThen_35, c_yesRound_35, c_yesRule_35, c_noRound_35, c_noRule_35, c_rounds_35, c_isMore_35)))) else (some (r_8, c_z, c_yes, c_no, c_yesThen, c_noThen, c_yesRound, c_yesRule, c_noRound, c_noRule, c_rounds, c_isMore)))
set_option maxHeartbeats 4000000 in
set_option maxRecDepth 100000 in
theorem c_X6_gain (l : Launch) (dC : Nat → ClassId) (dI : Nat → Nat → Nat) (ck : Nat → ClassId) (a0 a0_z a0_past a0_slots a0_isSaved a0_pad a0_yes a0_no a0_yesThen a0_noThen a0_yesRound a0_yesRule a0_noRound a0_noRule a0_orders : Nat) (c_z : Nat → Int32) (c_past : Nat → Int32) (c_slots : Nat → Int32) (c_isSaved : Nat → Int32) (c_pastMany : Int32) (c_pad : Nat → Int32) (c_typed : Int32) (c_yes : Nat → Int32) (c_no : Nat → Int32) (c_yesThen : Nat → Int32) (c_noThen : Nat → Int32) (c_yesRound : Nat → Int32) (c_yesRule : Nat → Int32) (c_noRound : Nat → Int32) (c_noRule : Nat → Int32) (c_rounds : Int32) (c_isMore : Int32) (c_orders : Nat → Int32) (c_orderMany : Int32) (c_spot : Int32) (c_bad : Int32) (v1 : Int32) (v2 : Int32) (v3 : Int32) (v4 : Int32) (v5 : Int32) (o0 : Int32) (o1 : Nat → Int32) (o2 : Nat → Int32) (o3 : Nat → Int32) (o4 : Nat → Int32) (o5 : Nat → Int32) (o6 : Nat → Int32) (o7 : Nat → Int32) (o8 : Nat → Int32) (o9 : Nat → Int32) (o10 : Int32) (o11 : Int32) (h : f_X6_gain c_z c_yes c_no c_yesThen c_noThen c_yesRound c_yesRule c_noRound c_noRule c_rounds c_isMore v1 v2 v3 v4 v5 = some (o0, o1, o2, o3, o4, o5, o6, o7, o8, o9, o10, o11)) : MI l yX6_gain wsX6_gain ({ frames := 8, cells := 0, slots := 0, locals := 187 }) [.ref a0, .int v1, .int v2, .int v3, .int v4, .int v5] (dC, dI) ck (wX6 ck a0 a0_z a0_past a0_slots a0_isSaved a0_pad a0_yes a0_no a0_yesThen a0_noThen a0_yesRound a0_yesRule a0_noRound a0_noRule a0_orders c_z c_past c_slots c_isSaved c_pastMany c_pad c_typed c_yes c_no c_yesThen c_noThen c_yesRound c_yesRule c_noRound c_noRule c_rounds c_isMore c_orders c_orderMany c_spot c_bad) (wX6 ck a0 a0_z a0_past a0_slots a0_isSaved a0_pad a0_yes a0_no a0_yesThen a0_noThen a0_yesRound a0_yesRule a0_noRound a0_noRule a0_orders o1 c_past c_slots c_isSaved c_pastMany c_pad c_typed o2 o3 o4 o5 o6 o7 o8 o9 o10 o11 c_orders c_orderMany c_spot c_bad) o0 := by
  refine MI.ofW (cc := cX6_gain) (maxL := 7) (ret := (some .int)) (by decide +kernel) rfl (Nat.le_of_ble_eq_true rfl) ?_
  intro p e s m below meth c hx hb hr hml hts hown hlk hK hP A hA hD ls hl
  have hS : va_S A s.heap s.heap [] := va_S.rf
  have hown : s.vm.findClass RX6 = some m.cls := hown
  have hl : lv_has ls 7 [(0, .ref a0), (1, .int v1), (2, .int v2), (3, .int v3), (4, .int v4), (5, .int v5)] := hl
  unfold f_X6_gain at h
  refine lv_aload_n hx hb dX6_gain_0 rfl (lv_at hl 0 rfl) ?_
  refine lv_iload_n hx hb dX6_gain_1 rfl (lv_at hl 1 rfl) ?_
  refine lv_iload_n hx hb dX6_gain_2 rfl (lv_at hl 2 rfl) ?_
  refine lv_iload_n hx hb dX6_gain_3 rfl (lv_at hl 3 rfl) ?_
  refine lv_iload hx hb dX6_gain_4 (lv_at hl 4 rfl) ?_
  refine lv_iload hx hb dX6_gain_6 (lv_at hl 5 rfl) ?_
  obtain ⟨r_8, q_8, h⟩ := ob1_e h
  refine cRV (wc := wX6 ck a0 a0_z a0_past a0_slots a0_isSaved a0_pad a0_yes a0_no a0_yesThen a0_noThen a0_yesRound a0_yesRule a0_noRound a0_noRule a0_orders c_z c_past c_slots c_isSaved c_pastMany c_pad c_typed c_yes c_no c_yesThen c_noThen c_yesRound c_yesRule c_noRound c_noRule c_rounds c_isMore c_orders c_orderMany c_spot c_bad) ⟨hx, hb, hml, hown, hts⟩ hK hP [0, 1, 2, 3, 4, 5, 6, 7, 8, 9, 10, 11, 12, 13, 14] rfl (c_X6_whyNotAnswer l dC dI ck a0 a0_z a0_past a0_slots a0_isSaved a0_pad a0_yes a0_no a0_yesThen a0_noThen a0_yesRound a0_yesRule a0_noRound a0_noRule a0_orders c_z c_past c_slots c_isSaved c_pastMany c_pad c_typed c_yes c_no c_yesThen c_noThen c_yesRound c_yesRule c_noRound c_noRule c_rounds c_isMore c_orders c_orderMany c_spot c_bad v1 v2 v3 v4 v5 r_8 q_8) (cwV 5 hts gX6_gain_X6_whyNotAnswer rfl rfl rfl (by decide +kernel) ⟨Nat.le_of_ble_eq_true rfl, Nat.le_of_ble_eq_true rfl⟩) 0 rfl rfl rfl hl.1 rfl (Nat.le_of_ble_eq_true rfl) dX6_gain_8 ⟨Nat.zero_le _, Nat.zero_le _⟩ ?_
  refine lv_istore (lv' := [(6, .int r_8), (0, .ref a0), (1, .int v1), (2, .int v2), (3, .int v3), (4, .int v4), (5, .int v5)]) hx hb dX6_gain_11 hl (by decide) rfl (fun ls hl => ?_)
  refine lv_iload hx hb dX6_gain_13 (lv_at hl 0 rfl) ?_
  refine lv_if_ge (tgt := 23) hx hb dX6_gain_15 (by decide) (fun c_15 => ?_) (fun c_15 => ?_)
  · have h := if_t h c_15
    refine lv_aload_n hx hb dX6_gain_23 rfl (lv_at hl 1 rfl) ?_
    refine lv_aload_n hx hb dX6_gain_24 rfl (lv_at hl 1 rfl) ?_
    obtain ⟨r_25, c_yes_25, c_no_25, c_yesThen_25, c_noThen_25, c_yesRound_25, c_yesRule_25, c_noRound_25, c_noRule_25, c_rounds_25, c_isMore_25, q_25, h⟩ := ob11_e h
    refine cMI (wc := wX6 ck a0 a0_z a0_past a0_slots a0_isSaved a0_pad a0_yes a0_no a0_yesThen a0_noThen a0_yesRound a0_yesRule a0_noRound a0_noRule a0_orders c_z c_past c_slots c_isSaved c_pastMany c_pad c_typed c_yes c_no c_yesThen c_noThen c_yesRound c_yesRule c_noRound c_noRule c_rounds c_isMore c_orders c_orderMany c_spot c_bad) (wr := []) (w1 := wX6 ck a0 a0_z a0_past a0_slots a0_isSaved a0_pad a0_yes a0_no a0_yesThen a0_noThen a0_yesRound a0_yesRule a0_noRound a0_noRule a0_orders c_z c_past c_slots c_isSaved c_pastMany c_pad c_typed c_yes_25 c_no_25 c_yesThen_25 c_noThen_25 c_yesRound_25 c_yesRule_25 c_noRound_25 c_noRule_25 c_rounds_25 c_isMore_25 c_orders c_orderMany c_spot c_bad) (wn := wX6 ck a0 a0_z a0_past a0_slots a0_isSaved a0_pad a0_yes a0_no a0_yesThen a0_noThen a0_yesRound a0_yesRule a0_noRound a0_noRule a0_orders c_z c_past c_slots c_isSaved c_pastMany c_pad c_typed c_yes_25 c_no_25 c_yesThen_25 c_noThen_25 c_yesRound_25 c_yesRule_25 c_noRound_25 c_noRule_25 c_rounds_25 c_isMore_25 c_orders c_orderMany c_spot c_bad) ⟨hx, hb, hml, hown, hts⟩ hK hP hD hS hA [0, 1, 2, 3, 4, 5, 6, 7, 8, 9, 10, 11, 12, 13, 14] [] [0, 1, 2, 3, 4, 5, 6, 7, 8, 9, 10, 11, 12, 13, 14] rfl (by decide) rfl (by decide) (by decide) rfl (by decide) (c_X6_marks l dC dI ck a0 a0_z a0_past a0_slots a0_isSaved a0_pad a0_yes a0_no a0_yesThen a0_noThen a0_yesRound a0_yesRule a0_noRound a0_noRule a0_orders c_z c_past c_slots c_isSaved c_pastMany c_pad c_typed c_yes c_no c_yesThen c_noThen c_yesRound c_yesRule c_noRound c_noRule c_rounds c_isMore c_orders c_orderMany c_spot c_bad r_25 c_yes_25 c_no_25 c_yesThen_25 c_noThen_25 c_yesRound_25 c_yesRule_25 c_noRound_25 c_noRule_25 c_rounds_25 c_isMore_25 q_25) (cwV 0 hts gX6_gain_X6_marks rfl rfl rfl (by decide +kernel) ⟨Nat.le_of_ble_eq_true rfl, Nat.le_of_ble_eq_true rfl⟩) 0 rfl rfl rfl hl.1 rfl (Nat.le_of_ble_eq_true rfl) dX6_gain_25 ⟨Nat.zero_le _, Nat.zero_le _⟩ (fun H locs hP hD hS => ?_)
    refine lv_iload_n hx hb dX6_gain_28 rfl (lv_at hl 2 rfl) ?_
    refine lv_iload_n hx hb dX6_gain_29 rfl (lv_at hl 3 rfl) ?_
    refine lv_iload_n hx hb dX6_gain_30 rfl (lv_at hl 4 rfl) ?_
    refine lv_iload hx hb dX6_gain_31 (lv_at hl 5 rfl) ?_
    refine lv_iload hx hb dX6_gain_33 (lv_at hl 6 rfl) ?_
    obtain ⟨r_35, c_z_35, c_yes_35, c_no_35, c_yesThen_35, c_noThen_35, c_yesRound_35, c_yesRule_35, c_noRound_35, c_noRule_35, c_rounds_35, c_isMore_35, q_35, h⟩ := ob12_e h
    refine cMI (wc := wX6 ck a0 a0_z a0_past a0_slots a0_isSaved a0_pad a0_yes a0_no a0_yesThen a0_noThen a0_yesRound a0_yesRule a0_noRound a0_noRule a0_orders c_z c_past c_slots c_isSaved c_pastMany c_pad c_typed c_yes_25 c_no_25 c_yesThen_25 c_noThen_25 c_yesRound_25 c_yesRule_25 c_noRound_25 c_noRule_25 c_rounds_25 c_isMore_25 c_orders c_orderMany c_spot c_bad) (wr := []) (w1 := wX6 ck a0 a0_z a0_past a0_slots a0_isSaved a0_pad a0_yes a0_no a0_yesThen a0_noThen a0_yesRound a0_yesRule a0_noRound a0_noRule a0_orders c_z_35 c_past c_slots c_isSaved c_pastMany c_pad c_typed c_yes_35 c_no_35 c_yesThen_35 c_noThen_35 c_yesRound_35 c_yesRule_35 c_noRound_35 c_noRule_35 c_rounds_35 c_isMore_35 c_orders c_orderMany c_spot c_bad) (wn := wX6 ck a0 a0_z a0_past a0_slots a0_isSaved a0_pad a0_yes a0_no a0_yesThen a0_noThen a0_yesRound a0_yesRule a0_noRound a0_noRule a0_orders c_z_35 c_past c_slots c_isSaved c_pastMany c_pad c_typed c_yes_35 c_no_35 c_yesThen_35 c_noThen_35 c_yesRound_35 c_yesRule_35 c_noRound_35 c_noRule_35 c_rounds_35 c_isMore_35 c_orders c_orderMany c_spot c_bad) ⟨hx, hb, hml, hown, hts⟩ hK hP hD hS hA [0, 1, 2, 3, 4, 5, 6, 7, 8, 9, 10, 11, 12, 13, 14] [] [0, 1, 2, 3, 4, 5, 6, 7, 8, 9, 10, 11, 12, 13, 14] rfl (by decide) rfl (by decide) (by decide) rfl (by decide) (c_X6_gained l dC dI ck a0 a0_z a0_past a0_slots a0_isSaved a0_pad a0_yes a0_no a0_yesThen a0_noThen a0_yesRound a0_yesRule a0_noRound a0_noRule a0_orders c_z c_past c_slots c_isSaved c_pastMany c_pad c_typed c_yes_25 c_no_25 c_yesThen_25 c_noThen_25 c_yesRound_25 c_yesRule_25 c_noRound_25 c_noRule_25 c_rounds_25 c_isMore_25 c_orders c_orderMany c_spot c_bad r_25 v1 v2 v3 v4 v5 r_35 c_z_35 c_yes_35 c_no_35 c_yesThen_35 c_noThen_35 c_yesRound_35 c_yesRule_35 c_noRound_35 c_noRule_35 c_rounds_35 c_isMore_35 q_35) (cwV 6 hts gX6_gain_X6_gained rfl rfl rfl (by decide +kernel) ⟨Nat.le_of_ble_eq_true rfl, Nat.le_of_ble_eq_true rfl⟩) 0 rfl rfl rfl hl.1 rfl (Nat.le_of_ble_eq_true rfl) dX6_gain_35 ⟨Nat.zero_le _, Nat.zero_le _⟩ (fun H locs hP hD hS => ?_)
    cases h
    exact eMi hx hb hr hlk hP hD hS rfl dX6_gain_38
  · have h := if_f h c_15
    refine lv_iload hx hb dX6_gain_18 (lv_at hl 0 rfl) ?_
    refine lv_goto (tgt := 38) hx hb dX6_gain_20 (by decide) ?_
    cases h
    exact eMi hx hb hr hlk hP hD hS rfl dX6_gain_38
noncomputable def f_X6_breaks (c_z : Nat → Int32) (c_yes : Nat → Int32) (c_no : Nat → Int32) (c_yesThen : Nat → Int32) (c_noThen : Nat → Int32) (c_yesRound : Nat → Int32) (c_yesRule : Nat → Int32) (c_noRound : Nat → Int32) (c_noRule : Nat → Int32) (c_rounds : Int32) (c_isMore : Int32) (v1 : Int32) (v2 : Int32) (v3 : Int32) : Option (Int32 × (Nat → Int32) × (Nat → Int32) × (Nat → Int32) × (Nat → Int32) × (Nat → Int32) × (Nat → Int32) × (Nat → Int32) × (Nat → Int32) × Int32 × Int32) :=
  ob10 (f_X6_layWith c_z c_yes c_no c_yesThen c_noThen c_yesRound c_yesRule c_noRound c_noRule c_rounds c_isMore v1 v2 v3) (fun (c_yes_4 : Nat → Int32) (c_no_4 : Nat → Int32) (c_yesThen_4 : Nat → Int32) (c_noThen_4 : Nat → Int32) (c_yesRound_4 : Nat → Int32) (c_yesRule_4 : Nat → Int32) (c_noRound_4 : Nat → Int32) (c_noRule_4 : Nat → Int32) (c_rounds_4 : Int32) (c_isMore_4 : Int32) => ob1 (f_X6_isBroken c_z c_yes_4 c_no_4) (fun (r_8 : Int32) => bo r_8 (some (r_8, c_yes_4, c_no_4, c_yesThen_4, c_noThen_4, c_yesRound_4, c_yesRule_4, c_noRound_4, c_noRule_4, c_rounds_4, c_isMore_4))))
set_option maxHeartbeats 4000000 in
set_option maxRecDepth 100000 in
theorem c_X6_breaks (l : Launch) (dC : Nat → ClassId) (dI : Nat → Nat → Nat) (ck : Nat → ClassId) (a0 a0_z a0_past a0_slots a0_isSaved a0_pad a0_yes a0_no a0_yesThen a0_noThen a0_yesRound a0_yesRule a0_noRound a0_noRule a0_orders : Nat) (c_z : Nat → Int32) (c_past : Nat → Int32) (c_slots : Nat → Int32) (c_isSaved : Nat → Int32) (c_pastMany : Int32) (c_pad : Nat → Int32) (c_typed : Int32) (c_yes : Nat → Int32) (c_no : Nat → Int32) (c_yesThen : Nat → Int32) (c_noThen : Nat → Int32) (c_yesRound : Nat → Int32) (c_yesRule : Nat → Int32) (c_noRound : Nat → Int32) (c_noRule : Nat → Int32) (c_rounds : Int32) (c_isMore : Int32) (c_orders : Nat → Int32) (c_orderMany : Int32) (c_spot : Int32) (c_bad : Int32) (v1 : Int32) (v2 : Int32) (v3 : Int32) (o0 : Int32) (o1 : Nat → Int32) (o2 : Nat → Int32) (o3 : Nat → Int32) (o4 : Nat → Int32) (o5 : Nat → Int32) (o6 : Nat → Int32) (o7 : Nat → Int32) (o8 : Nat → Int32) (o9 : Int32) (o10 : Int32) (h : f_X6_breaks c_z c_yes c_no c_yesThen c_noThen c_yesRound c_yesRule c_noRound c_noRule c_rounds c_isMore v1 v2 v3 = some (o0, o1, o2, o3, o4, o5, o6, o7, o8, o9, o10)) : MI l yX6_breaks wsX6_breaks ({ frames := 5, cells := 0, slots := 0, locals := 119 }) [.ref a0, .int v1, .int v2, .int v3] (dC, dI) ck (wX6 ck a0 a0_z a0_past a0_slots a0_isSaved a0_pad a0_yes a0_no a0_yesThen a0_noThen a0_yesRound a0_yesRule a0_noRound a0_noRule a0_orders c_z c_past c_slots c_isSaved c_pastMany c_pad c_typed c_yes c_no c_yesThen c_noThen c_yesRound c_yesRule c_noRound c_noRule c_rounds c_isMore c_orders c_orderMany c_spot c_bad) (wX6 ck a0 a0_z a0_past a0_slots a0_isSaved a0_pad a0_yes a0_no a0_yesThen a0_noThen a0_yesRound a0_yesRule a0_noRound a0_noRule a0_orders c_z c_past c_slots c_isSaved c_pastMany c_pad c_typed o1 o2 o3 o4 o5 o6 o7 o8 o9 o10 c_orders c_orderMany c_spot c_bad) o0 := by
  refine MI.ofW (cc := cX6_breaks) (maxL := 4) (ret := (some .boolean)) (by decide +kernel) rfl (Nat.le_of_ble_eq_true rfl) ?_
  intro p e s m below meth c hx hb hr hml hts hown hlk hK hP A hA hD ls hl
  have hS : va_S A s.heap s.heap [] := va_S.rf
  have hown : s.vm.findClass RX6 = some m.cls := hown
  have hl : lv_has ls 4 [(0, .ref a0), (1, .int v1), (2, .int v2), (3, .int v3)] := hl
  unfold f_X6_breaks at h
  refine lv_aload_n hx hb dX6_breaks_0 rfl (lv_at hl 0 rfl) ?_
  refine lv_iload_n hx hb dX6_breaks_1 rfl (lv_at hl 1 rfl) ?_
  refine lv_iload_n hx hb dX6_breaks_2 rfl (lv_at hl 2 rfl) ?_
  refine lv_iload_n hx hb dX6_breaks_3 rfl (lv_at hl 3 rfl) ?_
  obtain ⟨c_yes_4, c_no_4, c_yesThen_4, c_noThen_4, c_yesRound_4, c_yesRule_4, c_noRound_4, c_noRule_4, c_rounds_4, c_isMore_4, q_4, h⟩ := ob10_e h
  refine cMV (wc := wX6 ck a0 a0_z a0_past a0_slots a0_isSaved a0_pad a0_yes a0_no a0_yesThen a0_noThen a0_yesRound a0_yesRule a0_noRound a0_noRule a0_orders c_z c_past c_slots c_isSaved c_pastMany c_pad c_typed c_yes c_no c_yesThen c_noThen c_yesRound c_yesRule c_noRound c_noRule c_rounds c_isMore c_orders c_orderMany c_spot c_bad) (wr := []) (w1 := wX6 ck a0 a0_z a0_past a0_slots a0_isSaved a0_pad a0_yes a0_no a0_yesThen a0_noThen a0_yesRound a0_yesRule a0_noRound a0_noRule a0_orders c_z c_past c_slots c_isSaved c_pastMany c_pad c_typed c_yes_4 c_no_4 c_yesThen_4 c_noThen_4 c_yesRound_4 c_yesRule_4 c_noRound_4 c_noRule_4 c_rounds_4 c_isMore_4 c_orders c_orderMany c_spot c_bad) (wn := wX6 ck a0 a0_z a0_past a0_slots a0_isSaved a0_pad a0_yes a0_no a0_yesThen a0_noThen a0_yesRound a0_yesRule a0_noRound a0_noRule a0_orders c_z c_past c_slots c_isSaved c_pastMany c_pad c_typed c_yes_4 c_no_4 c_yesThen_4 c_noThen_4 c_yesRound_4 c_yesRule_4 c_noRound_4 c_noRule_4 c_rounds_4 c_isMore_4 c_orders c_orderMany c_spot c_bad) ⟨hx, hb, hml, hown, hts⟩ hK hP hD hS hA [0, 1, 2, 3, 4, 5, 6, 7, 8, 9, 10, 11, 12, 13, 14] [] [0, 1, 2, 3, 4, 5, 6, 7, 8, 9, 10, 11, 12, 13, 14] rfl (by decide) rfl (by decide) (by decide) rfl (by decide) (c_X6_layWith l dC dI ck a0 a0_z a0_past a0_slots a0_isSaved a0_pad a0_yes a0_no a0_yesThen a0_noThen a0_yesRound a0_yesRule a0_noRound a0_noRule a0_orders c_z c_past c_slots c_isSaved c_pastMany c_pad c_typed c_yes c_no c_yesThen c_noThen c_yesRound c_yesRule c_noRound c_noRule c_rounds c_isMore c_orders c_orderMany c_spot c_bad v1 v2 v3 c_yes_4 c_no_4 c_yesThen_4 c_noThen_4 c_yesRound_4 c_yesRule_4 c_noRound_4 c_noRule_4 c_rounds_4 c_isMore_4 q_4) (cwV 3 hts gX6_breaks_X6_layWith rfl rfl rfl (by decide +kernel) ⟨Nat.le_of_ble_eq_true rfl, Nat.le_of_ble_eq_true rfl⟩) 0 rfl rfl rfl hl.1 rfl (Nat.le_of_ble_eq_true rfl) dX6_breaks_4 ⟨Nat.zero_le _, Nat.zero_le _⟩ (fun H locs hP hD hS => ?_)
  refine lv_aload_n hx hb dX6_breaks_7 rfl (lv_at hl 0 rfl) ?_
  obtain ⟨r_8, q_8, h⟩ := ob1_e h
  refine cRV (wc := wX6 ck a0 a0_z a0_past a0_slots a0_isSaved a0_pad a0_yes a0_no a0_yesThen a0_noThen a0_yesRound a0_yesRule a0_noRound a0_noRule a0_orders c_z c_past c_slots c_isSaved c_pastMany c_pad c_typed c_yes_4 c_no_4 c_yesThen_4 c_noThen_4 c_yesRound_4 c_yesRule_4 c_noRound_4 c_noRule_4 c_rounds_4 c_isMore_4 c_orders c_orderMany c_spot c_bad) ⟨hx, hb, hml, hown, hts⟩ hK hP [0, 1, 2, 3, 4, 5, 6, 7, 8, 9, 10, 11, 12, 13, 14] rfl (c_X6_isBroken l dC dI ck a0 a0_z a0_past a0_slots a0_isSaved a0_pad a0_yes a0_no a0_yesThen a0_noThen a0_yesRound a0_yesRule a0_noRound a0_noRule a0_orders c_z c_past c_slots c_isSaved c_pastMany c_pad c_typed c_yes_4 c_no_4 c_yesThen_4 c_noThen_4 c_yesRound_4 c_yesRule_4 c_noRound_4 c_noRule_4 c_rounds_4 c_isMore_4 c_orders c_orderMany c_spot c_bad r_8 q_8) (cwV 0 hts gX6_breaks_X6_isBroken rfl rfl rfl (by decide +kernel) ⟨Nat.le_of_ble_eq_true rfl, Nat.le_of_ble_eq_true rfl⟩) 0 rfl rfl rfl hl.1 rfl (Nat.le_of_ble_eq_true rfl) dX6_breaks_8 ⟨Nat.zero_le _, Nat.zero_le _⟩ ?_
  obtain ⟨n_11, h⟩ := bo_e h
  cases h
  exact eMz hx hb hr hlk hP hD hS rfl n_11.1 dX6_breaks_11
noncomputable def f_X6_mustBe (c_z : Nat → Int32) (c_yes : Nat → Int32) (c_no : Nat → Int32) (c_yesThen : Nat → Int32) (c_noThen : Nat → Int32) (c_yesRound : Nat → Int32) (c_yesRule : Nat → Int32) (c_noRound : Nat → Int32) (c_noRule : Nat → Int32) (c_rounds : Int32) (c_isMore : Int32) (v1 : Int32) (v2 : Int32) : Option (Int32 × (Nat → Int32) × (Nat → Int32) × (Nat → Int32) × (Nat → Int32) × (Nat → Int32) × (Nat → Int32) × (Nat → Int32) × (Nat → Int32) × Int32 × Int32) :=
  ob11 (f_X6_breaks c_z c_yes c_no c_yesThen c_noThen c_yesRound c_yesRule c_noRound c_noRule c_rounds c_isMore v1 v2 (0 : Int32)) (fun (r_4 : Int32) (c_yes_4 : Nat → Int32) (c_no_4 : Nat → Int32) (c_yesThen_4 : Nat → Int32) (c_noThen_4 : Nat → Int32) (c_yesRound_4 : Nat → Int32) (c_yesRule_4 : Nat → Int32) (c_noRound_4 : Nat → Int32) (c_noRule_4 : Nat → Int32) (c_rounds_4 : Int32) (c_isMore_4 : Int32) => if r_4 = (0 : Int32) then (ob11 (f_X6_breaks c_z c_yes_4 c_no_4 c_yesThen_4 c_noThen_4 c_yesRound_4 c_yesRule_4 c_noRound_4 c_noRule_4 c_rounds_4 c_isMore_4 v1 v2 (1 : Int32)) (fun (r_19 : Int32) (c_yes_19 : Nat → Int32) (c_no_19 : Nat → Int32) (c_yesThen_19 : Nat → Int32) (c_noThen_19 : Nat → Int32) (c_yesRound_19 : Nat → Int32) (c_yesRule_19 : Nat → Int32) (c_noRound_19 : Nat → Int32) (c_noRule_19 : Nat → Int32) (c_rounds_19 : Int32) (c_isMore_19 : Int32) => if r_19 = (0 : Int32) then (some (((0 : Int32) + (0 : Int32)), c_yes_19, c_no_19, c_yesThen_19, c_noThen_19, c_yesRound_19, c_yesRule_19, c_noRound_19, c_noRule_19, c_rounds_19, c_isMore_19)) else (some (((0 : Int32) + (2 : Int32)), c_yes_19, c_no_19, c_yesThen_19, c_noThen_19, c_yesRound_19, c_yesRule_19, c_noRound_19, c_noRule_19, c_rounds_19, c_isMore_19)))) else (ob11 (f_X6_breaks c_z c_yes_4 c_no_4 c_yesThen_4 c_noThen_4 c_yesRound_4 c_yesRule_4 c_noRound_4 c_noRule_4 c_rounds_4 c_isMore_4 v1 v2 (1 : Int32)) (fun (r_19 : Int32) (c_yes_19 : Nat → Int32) (c_no_19 : Nat → Int32) (c_yesThen_19 : Nat → Int32) (c_noThen_19 : Nat → Int32) (c_yesRound_19 : Nat → Int32) (c_yesRule_19 : Nat → Int32) (c_noRound_19 : Nat → Int32) (c_noRule_19 : Nat → Int32) (c_rounds_19 : Int32) (c_isMore_19 : Int32) => if r_19 = (0 : Int32) then (some (((1 : Int32) + (0 : Int32)), c_yes_19, c_no_19, c_yesThen_19, c_noThen_19, c_yesRound_19, c_yesRule_19, c_noRound_19, c_noRule_19, c_rounds_19, c_isMore_19)) else (some (((1 : Int32) + (2 : Int32)), c_yes_19, c_no_19, c_yesThen_19, c_noThen_19, c_yesRound_19, c_yesRule_19, c_noRound_19, c_noRule_19, c_rounds_19, c_isMore_19)))))
set_option maxHeartbeats 4000000 in
set_option maxRecDepth 100000 in
theorem c_X6_mustBe (l : Launch) (dC : Nat → ClassId) (dI : Nat → Nat → Nat) (ck : Nat → ClassId) (a0 a0_z a0_past a0_slots a0_isSaved a0_pad a0_yes a0_no a0_yesThen a0_noThen a0_yesRound a0_yesRule a0_noRound a0_noRule a0_orders : Nat) (c_z : Nat → Int32) (c_past : Nat → Int32) (c_slots : Nat → Int32) (c_isSaved : Nat → Int32) (c_pastMany : Int32) (c_pad : Nat → Int32) (c_typed : Int32) (c_yes : Nat → Int32) (c_no : Nat → Int32) (c_yesThen : Nat → Int32) (c_noThen : Nat → Int32) (c_yesRound : Nat → Int32) (c_yesRule : Nat → Int32) (c_noRound : Nat → Int32) (c_noRule : Nat → Int32) (c_rounds : Int32) (c_isMore : Int32) (c_orders : Nat → Int32) (c_orderMany : Int32) (c_spot : Int32) (c_bad : Int32) (v1 : Int32) (v2 : Int32) (o0 : Int32) (o1 : Nat → Int32) (o2 : Nat → Int32) (o3 : Nat → Int32) (o4 : Nat → Int32) (o5 : Nat → Int32) (o6 : Nat → Int32) (o7 : Nat → Int32) (o8 : Nat → Int32) (o9 : Int32) (o10 : Int32) (h : f_X6_mustBe c_z c_yes c_no c_yesThen c_noThen c_yesRound c_yesRule c_noRound c_noRule c_rounds c_isMore v1 v2 = some (o0, o1, o2, o3, o4, o5, o6, o7, o8, o9, o10)) : MI l yX6_mustBe wsX6_mustBe ({ frames := 6, cells := 0, slots := 0, locals := 142 }) [.ref a0, .int v1, .int v2] (dC, dI) ck (wX6 ck a0 a0_z a0_past a0_slots a0_isSaved a0_pad a0_yes a0_no a0_yesThen a0_noThen a0_yesRound a0_yesRule a0_noRound a0_noRule a0_orders c_z c_past c_slots c_isSaved c_pastMany c_pad c_typed c_yes c_no c_yesThen c_noThen c_yesRound c_yesRule c_noRound c_noRule c_rounds c_isMore c_orders c_orderMany c_spot c_bad) (wX6 ck a0 a0_z a0_past a0_slots a0_isSaved a0_pad a0_yes a0_no a0_yesThen a0_noThen a0_yesRound a0_yesRule a0_noRound a0_noRule a0_orders c_z c_past c_slots c_isSaved c_pastMany c_pad c_typed o1 o2 o3 o4 o5 o6 o7 o8 o9 o10 c_orders c_orderMany c_spot c_bad) o0 := by
  refine MI.ofW (cc := cX6_mustBe) (maxL := 3) (ret := (some .int)) (by decide +kernel) rfl (Nat.le_of_ble_eq_true rfl) ?_
  intro p e s m below meth c hx hb hr hml hts hown hlk hK hP A hA hD ls hl
  have hS : va_S A s.heap s.heap [] := va_S.rf
  have hown : s.vm.findClass RX6 = some m.cls := hown
  have hl : lv_has ls 3 [(0, .ref a0), (1, .int v1), (2, .int v2)] := hl
  unfold f_X6_mustBe at h
  refine lv_aload_n hx hb dX6_mustBe_0 rfl (lv_at hl 0 rfl) ?_
  refine lv_iload_n hx hb dX6_mustBe_1 rfl (lv_at hl 1 rfl) ?_
  refine lv_iload_n hx hb dX6_mustBe_2 rfl (lv_at hl 2 rfl) ?_
  refine lv_iconst (v := (0 : Int32)) hx hb dX6_mustBe_3 rfl ?_
  obtain ⟨r_4, c_yes_4, c_no_4, c_yesThen_4, c_noThen_4, c_yesRound_4, c_yesRule_4, c_noRound_4, c_noRule_4, c_rounds_4, c_isMore_4, q_4, h⟩ := ob11_e h
  refine cMI (wc := wX6 ck a0 a0_z a0_past a0_slots a0_isSaved a0_pad a0_yes a0_no a0_yesThen a0_noThen a0_yesRound a0_yesRule a0_noRound a0_noRule a0_orders c_z c_past c_slots c_isSaved c_pastMany c_pad c_typed c_yes c_no c_yesThen c_noThen c_yesRound c_yesRule c_noRound c_noRule c_rounds c_isMore c_orders c_orderMany c_spot c_bad) (wr := []) (w1 := wX6 ck a0 a0_z a0_past a0_slots a0_isSaved a0_pad a0_yes a0_no a0_yesThen a0_noThen a0_yesRound a0_yesRule a0_noRound a0_noRule a0_orders c_z c_past c_slots c_isSaved c_pastMany c_pad c_typed c_yes_4 c_no_4 c_yesThen_4 c_noThen_4 c_yesRound_4 c_yesRule_4 c_noRound_4 c_noRule_4 c_rounds_4 c_isMore_4 c_orders c_orderMany c_spot c_bad) (wn := wX6 ck a0 a0_z a0_past a0_slots a0_isSaved a0_pad a0_yes a0_no a0_yesThen a0_noThen a0_yesRound a0_yesRule a0_noRound a0_noRule a0_orders c_z c_past c_slots c_isSaved c_pastMany c_pad c_typed c_yes_4 c_no_4 c_yesThen_4 c_noThen_4 c_yesRound_4 c_yesRule_4 c_noRound_4 c_noRule_4 c_rounds_4 c_isMore_4 c_orders c_orderMany c_spot c_bad) ⟨hx, hb, hml, hown, hts⟩ hK hP hD hS hA [0, 1, 2, 3, 4, 5, 6, 7, 8, 9, 10, 11, 12, 13, 14] [] [0, 1, 2, 3, 4, 5, 6, 7, 8, 9, 10, 11, 12, 13, 14] rfl (by decide) rfl (by decide) (by decide) rfl (by decide) (c_X6_breaks l dC dI ck a0 a0_z a0_past a0_slots a0_isSaved a0_pad a0_yes a0_no a0_yesThen a0_noThen a0_yesRound a0_yesRule a0_noRound a0_noRule a0_orders c_z c_past c_slots c_isSaved c_pastMany c_pad c_typed c_yes c_no c_yesThen c_noThen c_yesRound c_yesRule c_noRound c_noRule c_rounds c_isMore c_orders c_orderMany c_spot c_bad v1 v2 (0 : Int32) r_4 c_yes_4 c_no_4 c_yesThen_4 c_noThen_4 c_yesRound_4 c_yesRule_4 c_noRound_4 c_noRule_4 c_rounds_4 c_isMore_4 q_4) (cwV 3 hts gX6_mustBe_X6_breaks rfl rfl rfl (by decide +kernel) ⟨Nat.le_of_ble_eq_true rfl, Nat.le_of_ble_eq_true rfl⟩) 0 rfl rfl rfl hl.1 rfl (Nat.le_of_ble_eq_true rfl) dX6_mustBe_4 ⟨Nat.zero_le _, Nat.zero_le _⟩ (fun H locs hP hD hS => ?_)
  refine lv_if_eq (tgt := 14) hx hb dX6_mustBe_7 (by decide) (fun c_7 => ?_) (fun c_7 => ?_)
  · have h := if_t h c_7
    refine lv_iconst (v := (0 : Int32)) hx hb dX6_mustBe_14 rfl ?_
    refine lv_aload_n hx hb dX6_mustBe_15 rfl (lv_at hl 0 rfl) ?_
    refine lv_iload_n hx hb dX6_mustBe_16 rfl (lv_at hl 1 rfl) ?_
    refine lv_iload_n hx hb dX6_mustBe_17 rfl (lv_at hl 2 rfl) ?_
    refine lv_iconst (v := (1 : Int32)) hx hb dX6_mustBe_18 rfl ?_
    obtain ⟨r_19, c_yes_19, c_no_19, c_yesThen_19, c_noThen_19, c_yesRound_19, c_yesRule_19, c_noRound_19, c_noRule_19, c_rounds_19, c_isMore_19, q_19, h⟩ := ob11_e h
    refine cMI (wc := wX6 ck a0 a0_z a0_past a0_slots a0_isSaved a0_pad a0_yes a0_no a0_yesThen a0_noThen a0_yesRound a0_yesRule a0_noRound a0_noRule a0_orders c_z c_past c_slots c_isSaved c_pastMany c_pad c_typed c_yes_4 c_no_4 c_yesThen_4 c_noThen_4 c_yesRound_4 c_yesRule_4 c_noRound_4 c_noRule_4 c_rounds_4 c_isMore_4 c_orders c_orderMany c_spot c_bad) (wr := []) (w1 := wX6 ck a0 a0_z a0_past a0_slots a0_isSaved a0_pad a0_yes a0_no a0_yesThen a0_noThen a0_yesRound a0_yesRule a0_noRound a0_noRule a0_orders c_z c_past c_slots c_isSaved c_pastMany c_pad c_typed c_yes_19 c_no_19 c_yesThen_19 c_noThen_19 c_yesRound_19 c_yesRule_19 c_noRound_19 c_noRule_19 c_rounds_19 c_isMore_19 c_orders c_orderMany c_spot c_bad) (wn := wX6 ck a0 a0_z a0_past a0_slots a0_isSaved a0_pad a0_yes a0_no a0_yesThen a0_noThen a0_yesRound a0_yesRule a0_noRound a0_noRule a0_orders c_z c_past c_slots c_isSaved c_pastMany c_pad c_typed c_yes_19 c_no_19 c_yesThen_19 c_noThen_19 c_yesRound_19 c_yesRule_19 c_noRound_19 c_noRule_19 c_rounds_19 c_isMore_19 c_orders c_orderMany c_spot c_bad) ⟨hx, hb, hml, hown, hts⟩ hK hP hD hS hA [0, 1, 2, 3, 4, 5, 6, 7, 8, 9, 10, 11, 12, 13, 14] [] [0, 1, 2, 3, 4, 5, 6, 7, 8, 9, 10, 11, 12, 13, 14] rfl (by decide) rfl (by decide) (by decide) rfl (by decide) (c_X6_breaks l dC dI ck a0 a0_z a0_past a0_slots a0_isSaved a0_pad a0_yes a0_no a0_yesThen a0_noThen a0_yesRound a0_yesRule a0_noRound a0_noRule a0_orders c_z c_past c_slots c_isSaved c_pastMany c_pad c_typed c_yes_4 c_no_4 c_yesThen_4 c_noThen_4 c_yesRound_4 c_yesRule_4 c_noRound_4 c_noRule_4 c_rounds_4 c_isMore_4 c_orders c_orderMany c_spot c_bad v1 v2 (1 : Int32) r_19 c_yes_19 c_no_19 c_yesThen_19 c_noThen_19 c_yesRound_19 c_yesRule_19 c_noRound_19 c_noRule_19 c_rounds_19 c_isMore_19 q_19) (cwV 3 hts gX6_mustBe_X6_breaks rfl rfl rfl (by decide +kernel) ⟨Nat.le_of_ble_eq_true rfl, Nat.le_of_ble_eq_true rfl⟩) 0 rfl rfl rfl hl.1 rfl (Nat.le_of_ble_eq_true rfl) dX6_mustBe_19 ⟨Nat.zero_le _, Nat.zero_le _⟩ (fun H locs hP hD hS => ?_)
    refine lv_if_eq (tgt := 29) hx hb dX6_mustBe_22 (by decide) (fun c_22 => ?_) (fun c_22 => ?_)
    · have h := if_t h c_22
      refine lv_iconst (v := (0 : Int32)) hx hb dX6_mustBe_29 rfl ?_
      refine lv_iadd hx hb dX6_mustBe_30 ?_
      cases h
      exact eMi hx hb hr hlk hP hD hS rfl dX6_mustBe_31
    · have h := if_f h c_22
      refine lv_iconst (v := (2 : Int32)) hx hb dX6_mustBe_25 rfl ?_
      refine lv_goto (tgt := 30) hx hb dX6_mustBe_26 (by decide) ?_
      refine lv_iadd hx hb dX6_mustBe_30 ?_
      cases h
      exact eMi hx hb hr hlk hP hD hS rfl dX6_mustBe_31
  · have h := if_f h c_7
    refine lv_iconst (v := (1 : Int32)) hx hb dX6_mustBe_10 rfl ?_
    refine lv_goto (tgt := 15) hx hb dX6_mustBe_11 (by decide) ?_
    refine lv_aload_n hx hb dX6_mustBe_15 rfl (lv_at hl 0 rfl) ?_
    refine lv_iload_n hx hb dX6_mustBe_16 rfl (lv_at hl 1 rfl) ?_
    refine lv_iload_n hx hb dX6_mustBe_17 rfl (lv_at hl 2 rfl) ?_
    refine lv_iconst (v := (1 : Int32)) hx hb dX6_mustBe_18 rfl ?_
    obtain ⟨r_19, c_yes_19, c_no_19, c_yesThen_19, c_noThen_19, c_yesRound_19, c_yesRule_19, c_noRound_19, c_noRule_19, c_rounds_19, c_isMore_19, q_19, h⟩ := ob11_e h
    refine cMI (wc := wX6 ck a0 a0_z a0_past a0_slots a0_isSaved a0_pad a0_yes a0_no a0_yesThen a0_noThen a0_yesRound a0_yesRule a0_noRound a0_noRule a0_orders c_z c_past c_slots c_isSaved c_pastMany c_pad c_typed c_yes_4 c_no_4 c_yesThen_4 c_noThen_4 c_yesRound_4 c_yesRule_4 c_noRound_4 c_noRule_4 c_rounds_4 c_isMore_4 c_orders c_orderMany c_spot c_bad) (wr := []) (w1 := wX6 ck a0 a0_z a0_past a0_slots a0_isSaved a0_pad a0_yes a0_no a0_yesThen a0_noThen a0_yesRound a0_yesRule a0_noRound a0_noRule a0_orders c_z c_past c_slots c_isSaved c_pastMany c_pad c_typed c_yes_19 c_no_19 c_yesThen_19 c_noThen_19 c_yesRound_19 c_yesRule_19 c_noRound_19 c_noRule_19 c_rounds_19 c_isMore_19 c_orders c_orderMany c_spot c_bad) (wn := wX6 ck a0 a0_z a0_past a0_slots a0_isSaved a0_pad a0_yes a0_no a0_yesThen a0_noThen a0_yesRound a0_yesRule a0_noRound a0_noRule a0_orders c_z c_past c_slots c_isSaved c_pastMany c_pad c_typed c_yes_19 c_no_19 c_yesThen_19 c_noThen_19 c_yesRound_19 c_yesRule_19 c_noRound_19 c_noRule_19 c_rounds_19 c_isMore_19 c_orders c_orderMany c_spot c_bad) ⟨hx, hb, hml, hown, hts⟩ hK hP hD hS hA [0, 1, 2, 3, 4, 5, 6, 7, 8, 9, 10, 11, 12, 13, 14] [] [0, 1, 2, 3, 4, 5, 6, 7, 8, 9, 10, 11, 12, 13, 14] rfl (by decide) rfl (by decide) (by decide) rfl (by decide) (c_X6_breaks l dC dI ck a0 a0_z a0_past a0_slots a0_isSaved a0_pad a0_yes a0_no a0_yesThen a0_noThen a0_yesRound a0_yesRule a0_noRound a0_noRule a0_orders c_z c_past c_slots c_isSaved c_pastMany c_pad c_typed c_yes_4 c_no_4 c_yesThen_4 c_noThen_4 c_yesRound_4 c_yesRule_4 c_noRound_4 c_noRule_4 c_rounds_4 c_isMore_4 c_orders c_orderMany c_spot c_bad v1 v2 (1 : Int32) r_19 c_yes_19 c_no_19 c_yesThen_19 c_noThen_19 c_yesRound_19 c_yesRule_19 c_noRound_19 c_noRule_19 c_rounds_19 c_isMore_19 q_19) (cwV 3 hts gX6_mustBe_X6_breaks rfl rfl rfl (by decide +kernel) ⟨Nat.le_of_ble_eq_true rfl, Nat.le_of_ble_eq_true rfl⟩) 0 rfl rfl rfl hl.1 rfl (Nat.le_of_ble_eq_true rfl) dX6_mustBe_19 ⟨Nat.zero_le _, Nat.zero_le _⟩ (fun H locs hP hD hS => ?_)
    refine lv_if_eq (tgt := 29) hx hb dX6_mustBe_22 (by decide) (fun c_22 => ?_) (fun c_22 => ?_)
    · have h := if_t h c_22
      refine lv_iconst (v := (0 : Int32)) hx hb dX6_mustBe_29 rfl ?_
      refine lv_iadd hx hb dX6_mustBe_30 ?_
      cases h
      exact eMi hx hb hr hlk hP hD hS rfl dX6_mustBe_31
    · have h := if_f h c_22
      refine lv_iconst (v := (2 : Int32)) hx hb dX6_mustBe_25 rfl ?_
      refine lv_goto (tgt := 30) hx hb dX6_mustBe_26 (by decide) ?_
      refine lv_iadd hx hb dX6_mustBe_30 ?_
      cases h
      exact eMi hx hb hr hlk hP hD hS rfl dX6_mustBe_31
noncomputable def f_X6_must (c_z : Nat → Int32) (c_yes : Nat → Int32) (c_no : Nat → Int32) (c_yesThen : Nat → Int32) (c_noThen : Nat → Int32) (c_yesRound : Nat → Int32) (c_yesRule : Nat → Int32) (c_noRound : Nat → Int32) (c_noRule : Nat → Int32) (c_rounds : Int32) (c_isMore : Int32) (v1 : Int32) (v2 : Int32) : Option (Int32 × (Nat → Int32) × (Nat → Int32) × (Nat → Int32) × (Nat → Int32) × (Nat → Int32) × (Nat → Int32) × (Nat → Int32) × (Nat → Int32) × Int32 × Int32) :=
  ob1 (f_X6_isOwner c_z v1) (fun (r_2 : Int32) => if r_2 = (0 : Int32) then (some ((-1 : Int32), c_yes, c_no, c_yesThen, c_noThen, c_yesRound, c_yesRule, c_noRound, c_noRule, c_rounds, c_isMore)) else (ob1 (f_X6_isCard v2) (fun (r_9 : Int32) => if r_9 = (0 : Int32) then (some ((-1 : Int32), c_yes, c_no, c_yesThen, c_noThen, c_yesRound, c_yesRule, c_noRound, c_noRule, c_rounds, c_isMore)) else (ob11 (f_X6_mustBe c_z c_yes c_no c_yesThen c_noThen c_yesRound c_yesRule c_noRound c_noRule c_rounds c_isMore v1 v2) (fun (r_18 : Int32) (c_yes_18 : Nat → Int32) (c_no_18 : Nat → Int32) (c_yesThen_18 : Nat → Int32) (c_noThen_18 : Nat → Int32) (c_yesRound_18 : Nat → Int32) (c_yesRule_18 : Nat → Int32) (c_noRound_18 : Nat → Int32) (c_noRule_18 : Nat → Int32) (c_rounds_18 : Int32) (c_isMore_18 : Int32) => some (r_18, c_yes_18, c_no_18, c_yesThen_18, c_noThen_18, c_yesRound_18, c_yesRule_18, c_noRound_18, c_noRule_18, c_rounds_18, c_isMore_18))))))
set_option maxHeartbeats 4000000 in
set_option maxRecDepth 100000 in
theorem c_X6_must (l : Launch) (dC : Nat → ClassId) (dI : Nat → Nat → Nat) (ck : Nat → ClassId) (a0 a0_z a0_past a0_slots a0_isSaved a0_pad a0_yes a0_no a0_yesThen a0_noThen a0_yesRound a0_yesRule a0_noRound a0_noRule a0_orders : Nat) (c_z : Nat → Int32) (c_past : Nat → Int32) (c_slots : Nat → Int32) (c_isSaved : Nat → Int32) (c_pastMany : Int32) (c_pad : Nat → Int32) (c_typed : Int32) (c_yes : Nat → Int32) (c_no : Nat → Int32) (c_yesThen : Nat → Int32) (c_noThen : Nat → Int32) (c_yesRound : Nat → Int32) (c_yesRule : Nat → Int32) (c_noRound : Nat → Int32) (c_noRule : Nat → Int32) (c_rounds : Int32) (c_isMore : Int32) (c_orders : Nat → Int32) (c_orderMany : Int32) (c_spot : Int32) (c_bad : Int32) (v1 : Int32) (v2 : Int32) (o0 : Int32) (o1 : Nat → Int32) (o2 : Nat → Int32) (o3 : Nat → Int32) (o4 : Nat → Int32) (o5 : Nat → Int32) (o6 : Nat → Int32) (o7 : Nat → Int32) (o8 : Nat → Int32) (o9 : Int32) (o10 : Int32) (h : f_X6_must c_z c_yes c_no c_yesThen c_noThen c_yesRound c_yesRule c_noRound c_noRule c_rounds c_isMore v1 v2 = some (o0, o1, o2, o3, o4, o5, o6, o7, o8, o9, o10)) : MI l yX6_must wsX6_must ({ frames := 7, cells := 0, slots := 0, locals := 164 }) [.ref a0, .int v1, .int v2] (dC, dI) ck (wX6 ck a0 a0_z a0_past a0_slots a0_isSaved a0_pad a0_yes a0_no a0_yesThen a0_noThen a0_yesRound a0_yesRule a0_noRound a0_noRule a0_orders c_z c_past c_slots c_isSaved c_pastMany c_pad c_typed c_yes c_no c_yesThen c_noThen c_yesRound c_yesRule c_noRound c_noRule c_rounds c_isMore c_orders c_orderMany c_spot c_bad) (wX6 ck a0 a0_z a0_past a0_slots a0_isSaved a0_pad a0_yes a0_no a0_yesThen a0_noThen a0_yesRound a0_yesRule a0_noRound a0_noRule a0_orders c_z c_past c_slots c_isSaved c_pastMany c_pad c_typed o1 o2 o3 o4 o5 o6 o7 o8 o9 o10 c_orders c_orderMany c_spot c_bad) o0 := by
  refine MI.ofW (cc := cX6_must) (maxL := 3) (ret := (some .int)) (by decide +kernel) rfl (Nat.le_of_ble_eq_true rfl) ?_
  intro p e s m below meth c hx hb hr hml hts hown hlk hK hP A hA hD ls hl
  have hS : va_S A s.heap s.heap [] := va_S.rf
  have hown : s.vm.findClass RX6 = some m.cls := hown
  have hl : lv_has ls 3 [(0, .ref a0), (1, .int v1), (2, .int v2)] := hl
  unfold f_X6_must at h
  refine lv_aload_n hx hb dX6_must_0 rfl (lv_at hl 0 rfl) ?_
  refine lv_iload_n hx hb dX6_must_1 rfl (lv_at hl 1 rfl) ?_
  obtain ⟨r_2, q_2, h⟩ := ob1_e h
  refine cRV (wc := wX6 ck a0 a0_z a0_past a0_slots a0_isSaved a0_pad a0_yes a0_no a0_yesThen a0_noThen a0_yesRound a0_yesRule a0_noRound a0_noRule a0_orders c_z c_past c_slots c_isSaved c_pastMany c_pad c_typed c_yes c_no c_yesThen c_noThen c_yesRound c_yesRule c_noRound c_noRule c_rounds c_isMore c_orders c_orderMany c_spot c_bad) ⟨hx, hb, hml, hown, hts⟩ hK hP [0, 1, 2, 3, 4, 5, 6, 7, 8, 9, 10, 11, 12, 13, 14] rfl (c_X6_isOwner l dC dI ck a0 a0_z a0_past a0_slots a0_isSaved a0_pad a0_yes a0_no a0_yesThen a0_noThen a0_yesRound a0_yesRule a0_noRound a0_noRule a0_orders c_z c_past c_slots c_isSaved c_pastMany c_pad c_typed c_yes c_no c_yesThen c_noThen c_yesRound c_yesRule c_noRound c_noRule c_rounds c_isMore c_orders c_orderMany c_spot c_bad v1 r_2 q_2) (cwV 1 hts gX6_must_X6_isOwner rfl rfl rfl (by decide +kernel) ⟨Nat.le_of_ble_eq_true rfl, Nat.le_of_ble_eq_true rfl⟩) 0 rfl rfl rfl hl.1 rfl (Nat.le_of_ble_eq_true rfl) dX6_must_2 ⟨Nat.zero_le _, Nat.zero_le _⟩ ?_
  refine lv_if_eq (tgt := 24) hx hb dX6_must_5 (by decide) (fun c_5 => ?_) (fun c_5 => ?_)
  · have h := if_t h c_5
    refine lv_iconst (v := (-1 : Int32)) hx hb dX6_must_24 rfl ?_
    cases h
    exact eMi hx hb hr hlk hP hD hS rfl dX6_must_25
  · have h := if_f h c_5
    refine lv_iload_n hx hb dX6_must_8 rfl (lv_at hl 2 rfl) ?_
    obtain ⟨r_9, q_9, h⟩ := ob1_e h
    refine cRS (wc := []) ⟨hx, hb, hml, hown, hts⟩ hK hP [] rfl (c_X6_isCard l dC dI ck v2 r_9 q_9) (va_cwS 1 hts gX6_must_X6_isCard rfl rfl rfl (by decide +kernel) ⟨Nat.le_of_ble_eq_true rfl, Nat.le_of_ble_eq_true rfl⟩) rfl hl.1 rfl (Nat.le_of_ble_eq_true rfl) dX6_must_9 ⟨Nat.zero_le _, Nat.zero_le _⟩ ?_
    refine lv_if_eq (tgt := 24) hx hb dX6_must_12 (by decide) (fun c_12 => ?_) (fun c_12 => ?_)
    · have h := if_t h c_12
      refine lv_iconst (v := (-1 : Int32)) hx hb dX6_must_24 rfl ?_
      cases h
      exact eMi hx hb hr hlk hP hD hS rfl dX6_must_25
    · have h := if_f h c_12
      refine lv_aload_n hx hb dX6_must_15 rfl (lv_at hl 0 rfl) ?_
      refine lv_iload_n hx hb dX6_must_16 rfl (lv_at hl 1 rfl) ?_
      refine lv_iload_n hx hb dX6_must_17 rfl (lv_at hl 2 rfl) ?_
      obtain ⟨r_18, c_yes_18, c_no_18, c_yesThen_18, c_noThen_18, c_yesRound_18, c_yesRule_18, c_noRound_18, c_noRule_18, c_rounds_18, c_isMore_18, q_18, h⟩ := ob11_e h
      refine cMI (wc := wX6 ck a0 a0_z a0_past a0_slots a0_isSaved a0_pad a0_yes a0_no a0_yesThen a0_noThen a0_yesRound a0_yesRule a0_noRound a0_noRule a0_orders c_z c_past c_slots c_isSaved c_pastMany c_pad c_typed c_yes c_no c_yesThen c_noThen c_yesRound c_yesRule c_noRound c_noRule c_rounds c_isMore c_orders c_orderMany c_spot c_bad) (wr := []) (w1 := wX6 ck a0 a0_z a0_past a0_slots a0_isSaved a0_pad a0_yes a0_no a0_yesThen a0_noThen a0_yesRound a0_yesRule a0_noRound a0_noRule a0_orders c_z c_past c_slots c_isSaved c_pastMany c_pad c_typed c_yes_18 c_no_18 c_yesThen_18 c_noThen_18 c_yesRound_18 c_yesRule_18 c_noRound_18 c_noRule_18 c_rounds_18 c_isMore_18 c_orders c_orderMany c_spot c_bad) (wn := wX6 ck a0 a0_z a0_past a0_slots a0_isSaved a0_pad a0_yes a0_no a0_yesThen a0_noThen a0_yesRound a0_yesRule a0_noRound a0_noRule a0_orders c_z c_past c_slots c_isSaved c_pastMany c_pad c_typed c_yes_18 c_no_18 c_yesThen_18 c_noThen_18 c_yesRound_18 c_yesRule_18 c_noRound_18 c_noRule_18 c_rounds_18 c_isMore_18 c_orders c_orderMany c_spot c_bad) ⟨hx, hb, hml, hown, hts⟩ hK hP hD hS hA [0, 1, 2, 3, 4, 5, 6, 7, 8, 9, 10, 11, 12, 13, 14] [] [0, 1, 2, 3, 4, 5, 6, 7, 8, 9, 10, 11, 12, 13, 14] rfl (by decide) rfl (by decide) (by decide) rfl (by decide) (c_X6_mustBe l dC dI ck a0 a0_z a0_past a0_slots a0_isSaved a0_pad a0_yes a0_no a0_yesThen a0_noThen a0_yesRound a0_yesRule a0_noRound a0_noRule a0_orders c_z c_past c_slots c_isSaved c_pastMany c_pad c_typed c_yes c_no c_yesThen c_noThen c_yesRound c_yesRule c_noRound c_noRule c_rounds c_isMore c_orders c_orderMany c_spot c_bad v1 v2 r_18 c_yes_18 c_no_18 c_yesThen_18 c_noThen_18 c_yesRound_18 c_yesRule_18 c_noRound_18 c_noRule_18 c_rounds_18 c_isMore_18 q_18) (cwV 2 hts gX6_must_X6_mustBe rfl rfl rfl (by decide +kernel) ⟨Nat.le_of_ble_eq_true rfl, Nat.le_of_ble_eq_true rfl⟩) 0 rfl rfl rfl hl.1 rfl (Nat.le_of_ble_eq_true rfl) dX6_must_18 ⟨Nat.zero_le _, Nat.zero_le _⟩ (fun H locs hP hD hS => ?_)
      refine lv_goto (tgt := 25) hx hb dX6_must_21 (by decide) ?_
      cases h
      exact eMi hx hb hr hlk hP hD hS rfl dX6_must_25
noncomputable def f_X6_deeper_J55 (c_z : Nat → Int32) (v2_L4 : Int32) (rec12 : Int32 → Int32 → (Nat → Int32) → (Nat → Int32) → (Nat → Int32) → (Nat → Int32) → (Nat → Int32) → (Nat → Int32) → (Nat → Int32) → (Nat → Int32) → Int32 → Int32 → Option (Int32 × (Nat → Int32) × (Nat → Int32) × (Nat → Int32) × (Nat → Int32) × (Nat → Int32) × (Nat → Int32) × (Nat → Int32) × (Nat → Int32) × Int32 × Int32)) (v1_L12 : Int32) (v3_L12 : Int32) (c_yes_27 : Nat → Int32) (c_no_27 : Nat → Int32) (c_yesThen_27 : Nat → Int32) (c_noThen_27 : Nat → Int32) (c_yesRound_27 : Nat → Int32) (c_yesRule_27 : Nat → Int32) (c_noRound_27 : Nat → Int32) (c_noRule_27 : Nat → Int32) (c_rounds_27 : Int32) (c_isMore_27 : Int32) (t0_J55 : Int32) : Option (Int32 × (Nat → Int32) × (Nat → Int32) × (Nat → Int32) × (Nat → Int32) × (Nat → Int32) × (Nat → Int32) × (Nat → Int32) × (Nat → Int32) × Int32 × Int32) :=
  if t0_J55 = (0 : Int32) then (lt' (v1_L12 + (0 : Int32)) (fun v1_78 : Int32 => rec12 v1_78 (v3_L12 + (1 : Int32)) c_yes_27 c_no_27 c_yesThen_27 c_noThen_27 c_yesRound_27 c_yesRule_27 c_noRound_27 c_noRule_27 c_rounds_27 c_isMore_27)) else (ob11 (f_X6_mustBe c_z c_yes_27 c_no_27 c_yesThen_27 c_noThen_27 c_yesRound_27 c_yesRule_27 c_noRound_27 c_noRule_27 c_rounds_27 c_isMore_27 v2_L4 v3_L12) (fun (r_66 : Int32) (c_yes_66 : Nat → Int32) (c_no_66 : Nat → Int32) (c_yesThen_66 : Nat → Int32) (c_noThen_66 : Nat → Int32) (c_yesRound_66 : Nat → Int32) (c_yesRule_66 : Nat → Int32) (c_noRound_66 : Nat → Int32) (c_noRule_66 : Nat → Int32) (c_rounds_66 : Int32) (c_isMore_66 : Int32) => if r_66 ≤ (0 : Int32) then (lt' (v1_L12 + (0 : Int32)) (fun v1_78 : Int32 => rec12 v1_78 (v3_L12 + (1 : Int32)) c_yes_66 c_no_66 c_yesThen_66 c_noThen_66 c_yesRound_66 c_yesRule_66 c_noRound_66 c_noRule_66 c_rounds_66 c_isMore_66)) else (lt' (v1_L12 + (1 : Int32)) (fun v1_78 : Int32 => rec12 v1_78 (v3_L12 + (1 : Int32)) c_yes_66 c_no_66 c_yesThen_66 c_noThen_66 c_yesRound_66 c_yesRule_66 c_noRound_66 c_noRule_66 c_rounds_66 c_isMore_66))))
noncomputable def f_X6_deeper_L12 (c_z : Nat → Int32) (rec4 : Int32 → Int32 → (Nat → Int32) → (Nat → Int32) → (Nat → Int32) → (Nat → Int32) → (Nat → Int32) → (Nat → Int32) → (Nat → Int32) → (Nat → Int32) → Int32 → Int32 → Option (Int32 × (Nat → Int32) × (Nat → Int32) × (Nat → Int32) × (Nat → Int32) × (Nat → Int32) × (Nat → Int32) × (Nat → Int32) × (Nat → Int32) × Int32 × Int32)) (v2_L4 : Int32) (rec12 : Int32 → Int32 → (Nat → Int32) → (Nat → Int32) → (Nat → Int32) → (Nat → Int32) → (Nat → Int32) → (Nat → Int32) → (Nat → Int32) → (Nat → Int32) → Int32 → Int32 → Option (Int32 × (Nat → Int32) × (Nat → Int32) × (Nat → Int32) × (Nat → Int32) × (Nat → Int32) × (Nat → Int32) × (Nat → Int32) × (Nat → Int32) × Int32 × Int32)) (v1_L12 : Int32) (v3_L12 : Int32) (c_yes_L12 : Nat → Int32) (c_no_L12 : Nat → Int32) (c_yesThen_L12 : Nat → Int32) (c_noThen_L12 : Nat → Int32) (c_yesRound_L12 : Nat → Int32) (c_yesRule_L12 : Nat → Int32) (c_noRound_L12 : Nat → Int32) (c_noRule_L12 : Nat → Int32) (c_rounds_L12 : Int32) (c_isMore_L12 : Int32) : Option (Int32 × (Nat → Int32) × (Nat → Int32) × (Nat → Int32) × (Nat → Int32) × (Nat → Int32) × (Nat → Int32) × (Nat → Int32) × (Nat → Int32) × Int32 × Int32) :=
  if (18 : Int32) ≤ v3_L12 then (rec4 v1_L12 (v2_L4 + (1 : Int32)) c_yes_L12 c_no_L12 c_yesThen_L12 c_noThen_L12 c_yesRound_L12 c_yesRule_L12 c_noRound_L12 c_noRule_L12 c_rounds_L12 c_isMore_L12) else (ob1 (f_X6_isOwner c_z v2_L4) (fun (r_20 : Int32) => if r_20 = (0 : Int32) then (rec4 v1_L12 (v2_L4 + (1 : Int32)) c_yes_L12 c_no_L12 c_yesThen_L12 c_noThen_L12 c_yesRound_L12 c_yesRule_L12 c_noRound_L12 c_noRule_L12 c_rounds_L12 c_isMore_L12) else (ob10 (f_X6_lay c_z c_yes_L12 c_no_L12 c_yesThen_L12 c_noThen_L12 c_yesRound_L12 c_yesRule_L12 c_noRound_L12 c_noRule_L12 c_rounds_L12 c_isMore_L12) (fun (c_yes_27 : Nat → Int32) (c_no_27 : Nat → Int32) (c_yesThen_27 : Nat → Int32) (c_noThen_27 : Nat → Int32) (c_yesRound_27 : Nat → Int32) (c_yesRule_27 : Nat → Int32) (c_noRound_27 : Nat → Int32) (c_noRule_27 : Nat → Int32) (c_rounds_27 : Int32) (c_isMore_27 : Int32) => gd v2_L4 6 (gd v2_L4 6 (if ((((c_yes_27 v2_L4.toNatClampNeg) ||| (c_no_27 v2_L4.toNatClampNeg)) >>> (v3_L12 &&& 31)) &&& (1 : Int32)) = (0 : Int32) then (f_X6_deeper_J55 c_z v2_L4 rec12 v1_L12 v3_L12 c_yes_27 c_no_27 c_yesThen_27 c_noThen_27 c_yesRound_27 c_yesRule_27 c_noRound_27 c_noRule_27 c_rounds_27 c_isMore_27 (1 : Int32)) else (f_X6_deeper_J55 c_z v2_L4 rec12 v1_L12 v3_L12 c_yes_27 c_no_27 c_yesThen_27 c_noThen_27 c_yesRound_27 c_yesRule_27 c_noRound_27 c_noRule_27 c_rounds_27 c_isMore_27 (0 : Int32))))))))
noncomputable def f_X6_deeper_L4 (c_z : Nat → Int32) (rec4 : Int32 → Int32 → (Nat → Int32) → (Nat → Int32) → (Nat → Int32) → (Nat → Int32) → (Nat → Int32) → (Nat → Int32) → (Nat → Int32) → (Nat → Int32) → Int32 → Int32 → Option (Int32 × (Nat → Int32) × (Nat → Int32) × (Nat → Int32) × (Nat → Int32) × (Nat → Int32) × (Nat → Int32) × (Nat → Int32) × (Nat → Int32) × Int32 × Int32)) (v1_L4 : Int32) (v2_L4 : Int32) (c_yes_L4 : Nat → Int32) (c_no_L4 : Nat → Int32) (c_yesThen_L4 : Nat → Int32) (c_noThen_L4 : Nat → Int32) (c_yesRound_L4 : Nat → Int32) (c_yesRule_L4 : Nat → Int32) (c_noRound_L4 : Nat → Int32) (c_noRule_L4 : Nat → Int32) (c_rounds_L4 : Int32) (c_isMore_L4 : Int32) : Option (Int32 × (Nat → Int32) × (Nat → Int32) × (Nat → Int32) × (Nat → Int32) × (Nat → Int32) × (Nat → Int32) × (Nat → Int32) × (Nat → Int32) × Int32 × Int32) :=
  if (6 : Int32) ≤ v2_L4 then (some (v1_L4, c_yes_L4, c_no_L4, c_yesThen_L4, c_noThen_L4, c_yesRound_L4, c_yesRule_L4, c_noRound_L4, c_noRule_L4, c_rounds_L4, c_isMore_L4)) else (lo12 (f_X6_deeper_L12 c_z rec4 v2_L4) FU v1_L4 (0 : Int32) c_yes_L4 c_no_L4 c_yesThen_L4 c_noThen_L4 c_yesRound_L4 c_yesRule_L4 c_noRound_L4 c_noRule_L4 c_rounds_L4 c_isMore_L4)
noncomputable def f_X6_deeper (c_z : Nat → Int32) (c_yes : Nat → Int32) (c_no : Nat → Int32) (c_yesThen : Nat → Int32) (c_noThen : Nat → Int32) (c_yesRound : Nat → Int32) (c_yesRule : Nat → Int32) (c_noRound : Nat → Int32) (c_noRule : Nat → Int32) (c_rounds : Int32) (c_isMore : Int32) : Option (Int32 × (Nat → Int32) × (Nat → Int32) × (Nat → Int32) × (Nat → Int32) × (Nat → Int32) × (Nat → Int32) × (Nat → Int32) × (Nat → Int32) × Int32 × Int32) :=
  lo12 (f_X6_deeper_L4 c_z) FU (0 : Int32) (0 : Int32) c_yes c_no c_yesThen c_noThen c_yesRound c_yesRule c_noRound c_noRule c_rounds c_isMore
set_option maxHeartbeats 4000000 in
set_option maxRecDepth 100000 in
theorem c_X6_deeper (l : Launch) (dC : Nat → ClassId) (dI : Nat → Nat → Nat) (ck : Nat → ClassId) (a0 a0_z a0_past a0_slots a0_isSaved a0_pad a0_yes a0_no a0_yesThen a0_noThen a0_yesRound a0_yesRule a0_noRound a0_noRule a0_orders : Nat) (c_z : Nat → Int32) (c_past : Nat → Int32) (c_slots : Nat → Int32) (c_isSaved : Nat → Int32) (c_pastMany : Int32) (c_pad : Nat → Int32) (c_typed : Int32) (c_yes : Nat → Int32) (c_no : Nat → Int32) (c_yesThen : Nat → Int32) (c_noThen : Nat → Int32) (c_yesRound : Nat → Int32) (c_yesRule : Nat → Int32) (c_noRound : Nat → Int32) (c_noRule : Nat → Int32) (c_rounds : Int32) (c_isMore : Int32) (c_orders : Nat → Int32) (c_orderMany : Int32) (c_spot : Int32) (c_bad : Int32) (o0 : Int32) (o1 : Nat → Int32) (o2 : Nat → Int32) (o3 : Nat → Int32) (o4 : Nat → Int32) (o5 : Nat → Int32) (o6 : Nat → Int32) (o7 : Nat → Int32) (o8 : Nat → Int32) (o9 : Int32) (o10 : Int32) (h : f_X6_deeper c_z c_yes c_no c_yesThen c_noThen c_yesRound c_yesRule c_noRound c_noRule c_rounds c_isMore = some (o0, o1, o2, o3, o4, o5, o6, o7, o8, o9, o10)) : MI l yX6_deeper wsX6_deeper ({ frames := 7, cells := 0, slots := 0, locals := 164 }) [.ref a0] (dC, dI) ck (wX6 ck a0 a0_z a0_past a0_slots a0_isSaved a0_pad a0_yes a0_no a0_yesThen a0_noThen a0_yesRound a0_yesRule a0_noRound a0_noRule a0_orders c_z c_past c_slots c_isSaved c_pastMany c_pad c_typed c_yes c_no c_yesThen c_noThen c_yesRound c_yesRule c_noRound c_noRule c_rounds c_isMore c_orders c_orderMany c_spot c_bad) (wX6 ck a0 a0_z a0_past a0_slots a0_isSaved a0_pad a0_yes a0_no a0_yesThen a0_noThen a0_yesRound a0_yesRule a0_noRound a0_noRule a0_orders c_z c_past c_slots c_isSaved c_pastMany c_pad c_typed o1 o2 o3 o4 o5 o6 o7 o8 o9 o10 c_orders c_orderMany c_spot c_bad) o0 := by
  refine MI.ofW (cc := cX6_deeper) (maxL := 5) (ret := (some .int)) (by decide +kernel) rfl (Nat.le_of_ble_eq_true rfl) ?_
  intro p e s m below meth c hx hb hr hml hts hown hlk hK hP A hA hD ls hl
  have hS : va_S A s.heap s.heap [] := va_S.rf
  have hown : s.vm.findClass RX6 = some m.cls := hown
  have hl : lv_has ls 5 [(0, .ref a0)] := hl
  have iu_X6 : ∀ w ∈ u_ws RX6 TX6 21, w ∈ wsX6_deeper := fun w h => List.mem_cons_of_mem _ (List.mem_append_right _ h)
  unfold f_X6_deeper at h
  refine lv_iconst (v := (0 : Int32)) hx hb dX6_deeper_0 rfl ?_
  refine lv_istore_n (lv' := [(1, .int (0 : Int32)), (0, .ref a0)]) hx hb dX6_deeper_1 rfl hl (by decide) rfl (fun ls hl => ?_)
  refine lv_iconst (v := (0 : Int32)) hx hb dX6_deeper_2 rfl ?_
  refine lv_istore_n (lv' := [(2, .int (0 : Int32)), (1, .int (0 : Int32)), (0, .ref a0)]) hx hb dX6_deeper_3 rfl hl (by decide) rfl (fun ls hl => ?_)
  have hL4 : ∀ (n4 : Nat) (v1_L4 : Int32) (v2_L4 : Int32) (c_yes_L4 : Nat → Int32) (c_no_L4 : Nat → Int32) (c_yesThen_L4 : Nat → Int32) (c_noThen_L4 : Nat → Int32) (c_yesRound_L4 : Nat → Int32) (c_yesRule_L4 : Nat → Int32) (c_noRound_L4 : Nat → Int32) (c_noRule_L4 : Nat → Int32) (c_rounds_L4 : Int32) (c_isMore_L4 : Int32), lo12 (f_X6_deeper_L4 c_z) n4 v1_L4 v2_L4 c_yes_L4 c_no_L4 c_yesThen_L4 c_noThen_L4 c_yesRound_L4 c_yesRule_L4 c_noRound_L4 c_noRule_L4 c_rounds_L4 c_isMore_L4 = some (o0, o1, o2, o3, o4, o5, o6, o7, o8, o9, o10) → ∀ (H : Heap) (locs : List Loc), va_P (dC, dI) vwCl (wX6 ck a0 a0_z a0_past a0_slots a0_isSaved a0_pad a0_yes a0_no a0_yesThen a0_noThen a0_yesRound a0_yesRule a0_noRound a0_noRule a0_orders c_z c_past c_slots c_isSaved c_pastMany c_pad c_typed c_yes_L4 c_no_L4 c_yesThen_L4 c_noThen_L4 c_yesRound_L4 c_yesRule_L4 c_noRound_L4 c_noRule_L4 c_rounds_L4 c_isMore_L4 c_orders c_orderMany c_spot c_bad) H → va_D A (wX6 ck a0 a0_z a0_past a0_slots a0_isSaved a0_pad a0_yes a0_no a0_yesThen a0_noThen a0_yesRound a0_yesRule a0_noRound a0_noRule a0_orders c_z c_past c_slots c_isSaved c_pastMany c_pad c_typed c_yes_L4 c_no_L4 c_yesThen_L4 c_noThen_L4 c_yesRound_L4 c_yesRule_L4 c_noRound_L4 c_noRule_L4 c_rounds_L4 c_isMore_L4 c_orders c_orderMany c_spot c_bad) → va_S A s.heap H locs → ∀ ls : Array Slot, lv_has ls 5 [(2, .int v2_L4), (1, .int v1_L4), (0, .ref a0)] → W p l e (headSpec wsX6_deeper ({ frames := 7, cells := 0, slots := 0, locals := 164 })).room s m [.ref a0].toArray below meth c H locs 0 0 (MQ below (QI (dC, dI) (wX6 ck a0 a0_z a0_past a0_slots a0_isSaved a0_pad a0_yes a0_no a0_yesThen a0_noThen a0_yesRound a0_yesRule a0_noRound a0_noRule a0_orders c_z c_past c_slots c_isSaved c_pastMany c_pad c_typed o1 o2 o3 o4 o5 o6 o7 o8 o9 o10 c_orders c_orderMany c_spot c_bad) o0 A) [.ref a0].toArray s 0 0 A) (F0 m 4 ls []) := by
    intro n4
    induction n4 with
    | zero => intro v1_L4 v2_L4 c_yes_L4 c_no_L4 c_yesThen_L4 c_noThen_L4 c_yesRound_L4 c_yesRule_L4 c_noRound_L4 c_noRule_L4 c_rounds_L4 c_isMore_L4 h; exact lo12_z h
    | succ n4 ih4 =>
      intro v1_L4 v2_L4 c_yes_L4 c_no_L4 c_yesThen_L4 c_noThen_L4 c_yesRound_L4 c_yesRule_L4 c_noRound_L4 c_noRule_L4 c_rounds_L4 c_isMore_L4 h H locs hP hD hS ls hl
      have h := lo12_s h
      unfold f_X6_deeper_L4 at h
      refine lv_iload_n hx hb dX6_deeper_4 rfl (lv_at hl 0 rfl) ?_
      refine lv_bipush (v := (6 : Int32)) hx hb dX6_deeper_5 rfl ?_
      refine lv_icmp_ge (tgt := 91) hx hb dX6_deeper_7 (by decide) (fun c_7 => ?_) (fun c_7 => ?_)
      · have h := if_t h c_7
        refine lv_iload_n hx hb dX6_deeper_91 rfl (lv_at hl 1 rfl) ?_
        cases h
        exact eMi hx hb hr hlk hP hD hS rfl dX6_deeper_92
      · have h := if_f h c_7
        refine lv_iconst (v := (0 : Int32)) hx hb dX6_deeper_10 rfl ?_
        refine lv_istore_n (lv' := [(3, .int (0 : Int32)), (2, .int v2_L4), (1, .int v1_L4), (0, .ref a0)]) hx hb dX6_deeper_11 rfl hl (by decide) rfl (fun ls hl => ?_)
        have hL12 : ∀ (n12 : Nat) (v1_L12 : Int32) (v3_L12 : Int32) (c_yes_L12 : Nat → Int32) (c_no_L12 : Nat → Int32) (c_yesThen_L12 : Nat → Int32) (c_noThen_L12 : Nat → Int32) (c_yesRound_L12 : Nat → Int32) (c_yesRule_L12 : Nat → Int32) (c_noRound_L12 : Nat → Int32) (c_noRule_L12 : Nat → Int32) (c_rounds_L12 : Int32) (c_isMore_L12 : Int32), lo12 (f_X6_deeper_L12 c_z (lo12 (f_X6_deeper_L4 c_z) n4) v2_L4) n12 v1_L12 v3_L12 c_yes_L12 c_no_L12 c_yesThen_L12 c_noThen_L12 c_yesRound_L12 c_yesRule_L12 c_noRound_L12 c_noRule_L12 c_rounds_L12 c_isMore_L12 = some (o0, o1, o2, o3, o4, o5, o6, o7, o8, o9, o10) → ∀ (H : Heap) (locs : List Loc), va_P (dC, dI) vwCl (wX6 ck a0 a0_z a0_past a0_slots a0_isSaved a0_pad a0_yes a0_no a0_yesThen a0_noThen a0_yesRound a0_yesRule a0_noRound a0_noRule a0_orders c_z c_past c_slots c_isSaved c_pastMany c_pad c_typed c_yes_L12 c_no_L12 c_yesThen_L12 c_noThen_L12 c_yesRound_L12 c_yesRule_L12 c_noRound_L12 c_noRule_L12 c_rounds_L12 c_isMore_L12 c_orders c_orderMany c_spot c_bad) H → va_D A (wX6 ck a0 a0_z a0_past a0_slots a0_isSaved a0_pad a0_yes a0_no a0_yesThen a0_noThen a0_yesRound a0_yesRule a0_noRound a0_noRule a0_orders c_z c_past c_slots c_isSaved c_pastMany c_pad c_typed c_yes_L12 c_no_L12 c_yesThen_L12 c_noThen_L12 c_yesRound_L12 c_yesRule_L12 c_noRound_L12 c_noRule_L12 c_rounds_L12 c_isMore_L12 c_orders c_orderMany c_spot c_bad) → va_S A s.heap H locs → ∀ ls : Array Slot, lv_has ls 5 [(3, .int v3_L12), (2, .int v2_L4), (1, .int v1_L12), (0, .ref a0)] → W p l e (headSpec wsX6_deeper ({ frames := 7, cells := 0, slots := 0, locals := 164 })).room s m [.ref a0].toArray below meth c H locs 0 0 (MQ below (QI (dC, dI) (wX6 ck a0 a0_z a0_past a0_slots a0_isSaved a0_pad a0_yes a0_no a0_yesThen a0_noThen a0_yesRound a0_yesRule a0_noRound a0_noRule a0_orders c_z c_past c_slots c_isSaved c_pastMany c_pad c_typed o1 o2 o3 o4 o5 o6 o7 o8 o9 o10 c_orders c_orderMany c_spot c_bad) o0 A) [.ref a0].toArray s 0 0 A) (F0 m 12 ls []) := by
          intro n12
          induction n12 with
          | zero => intro v1_L12 v3_L12 c_yes_L12 c_no_L12 c_yesThen_L12 c_noThen_L12 c_yesRound_L12 c_yesRule_L12 c_noRound_L12 c_noRule_L12 c_rounds_L12 c_isMore_L12 h; exact lo12_z h
          | succ n12 ih12 =>
            intro v1_L12 v3_L12 c_yes_L12 c_no_L12 c_yesThen_L12 c_noThen_L12 c_yesRound_L12 c_yesRule_L12 c_noRound_L12 c_noRule_L12 c_rounds_L12 c_isMore_L12 h H locs hP hD hS ls hl
            have h := lo12_s h
            unfold f_X6_deeper_L12 at h
            refine lv_iload_n hx hb dX6_deeper_12 rfl (lv_at hl 0 rfl) ?_
            refine lv_bipush (v := (18 : Int32)) hx hb dX6_deeper_13 rfl ?_
            refine lv_icmp_ge (tgt := 85) hx hb dX6_deeper_15 (by decide) (fun c_15 => ?_) (fun c_15 => ?_)
            · have h := if_t h c_15
              refine lv_iinc (v := (v2_L4 + (1 : Int32))) (lv' := [(2, .int (v2_L4 + (1 : Int32))), (3, .int v3_L12), (1, .int v1_L12), (0, .ref a0)]) hx hb dX6_deeper_85 hl (k := 1) rfl rfl (by decide) rfl (fun ls hl => ?_)
              refine lv_goto (tgt := 4) hx hb dX6_deeper_88 (by decide) ?_
              exact ih4 _ _ _ _ _ _ _ _ _ _ _ _ h _ _ hP hD hS _ (lv_sub hl [0, 2, 3] rfl)
            · have h := if_f h c_15
              refine lv_aload_n hx hb dX6_deeper_18 rfl (lv_at hl 3 rfl) ?_
              refine lv_iload_n hx hb dX6_deeper_19 rfl (lv_at hl 1 rfl) ?_
              obtain ⟨r_20, q_20, h⟩ := ob1_e h
              refine cRV (wc := wX6 ck a0 a0_z a0_past a0_slots a0_isSaved a0_pad a0_yes a0_no a0_yesThen a0_noThen a0_yesRound a0_yesRule a0_noRound a0_noRule a0_orders c_z c_past c_slots c_isSaved c_pastMany c_pad c_typed c_yes_L12 c_no_L12 c_yesThen_L12 c_noThen_L12 c_yesRound_L12 c_yesRule_L12 c_noRound_L12 c_noRule_L12 c_rounds_L12 c_isMore_L12 c_orders c_orderMany c_spot c_bad) ⟨hx, hb, hml, hown, hts⟩ hK hP [0, 1, 2, 3, 4, 5, 6, 7, 8, 9, 10, 11, 12, 13, 14] rfl (c_X6_isOwner l dC dI ck a0 a0_z a0_past a0_slots a0_isSaved a0_pad a0_yes a0_no a0_yesThen a0_noThen a0_yesRound a0_yesRule a0_noRound a0_noRule a0_orders c_z c_past c_slots c_isSaved c_pastMany c_pad c_typed c_yes_L12 c_no_L12 c_yesThen_L12 c_noThen_L12 c_yesRound_L12 c_yesRule_L12 c_noRound_L12 c_noRule_L12 c_rounds_L12 c_isMore_L12 c_orders c_orderMany c_spot c_bad v2_L4 r_20 q_20) (cwV 1 hts gX6_deeper_X6_isOwner rfl rfl rfl (by decide +kernel) ⟨Nat.le_of_ble_eq_true rfl, Nat.le_of_ble_eq_true rfl⟩) 0 rfl rfl rfl hl.1 rfl (Nat.le_of_ble_eq_true rfl) dX6_deeper_20 ⟨Nat.zero_le _, Nat.zero_le _⟩ ?_
              refine lv_if_eq (tgt := 85) hx hb dX6_deeper_23 (by decide) (fun c_23 => ?_) (fun c_23 => ?_)
              · have h := if_t h c_23
                refine lv_iinc (v := (v2_L4 + (1 : Int32))) (lv' := [(2, .int (v2_L4 + (1 : Int32))), (3, .int v3_L12), (1, .int v1_L12), (0, .ref a0)]) hx hb dX6_deeper_85 hl (k := 1) rfl rfl (by decide) rfl (fun ls hl => ?_)
                refine lv_goto (tgt := 4) hx hb dX6_deeper_88 (by decide) ?_
                exact ih4 _ _ _ _ _ _ _ _ _ _ _ _ h _ _ hP hD hS _ (lv_sub hl [0, 2, 3] rfl)
              · have h := if_f h c_23
                refine lv_aload_n hx hb dX6_deeper_26 rfl (lv_at hl 3 rfl) ?_
                obtain ⟨c_yes_27, c_no_27, c_yesThen_27, c_noThen_27, c_yesRound_27, c_yesRule_27, c_noRound_27, c_noRule_27, c_rounds_27, c_isMore_27, q_27, h⟩ := ob10_e h
                refine cMV (wc := wX6 ck a0 a0_z a0_past a0_slots a0_isSaved a0_pad a0_yes a0_no a0_yesThen a0_noThen a0_yesRound a0_yesRule a0_noRound a0_noRule a0_orders c_z c_past c_slots c_isSaved c_pastMany c_pad c_typed c_yes_L12 c_no_L12 c_yesThen_L12 c_noThen_L12 c_yesRound_L12 c_yesRule_L12 c_noRound_L12 c_noRule_L12 c_rounds_L12 c_isMore_L12 c_orders c_orderMany c_spot c_bad) (wr := []) (w1 := wX6 ck a0 a0_z a0_past a0_slots a0_isSaved a0_pad a0_yes a0_no a0_yesThen a0_noThen a0_yesRound a0_yesRule a0_noRound a0_noRule a0_orders c_z c_past c_slots c_isSaved c_pastMany c_pad c_typed c_yes_27 c_no_27 c_yesThen_27 c_noThen_27 c_yesRound_27 c_yesRule_27 c_noRound_27 c_noRule_27 c_rounds_27 c_isMore_27 c_orders c_orderMany c_spot c_bad) (wn := wX6 ck a0 a0_z a0_past a0_slots a0_isSaved a0_pad a0_yes a0_no a0_yesThen a0_noThen a0_yesRound a0_yesRule a0_noRound a0_noRule a0_orders c_z c_past c_slots c_isSaved c_pastMany c_pad c_typed c_yes_27 c_no_27 c_yesThen_27 c_noThen_27 c_yesRound_27 c_yesRule_27 c_noRound_27 c_noRule_27 c_rounds_27 c_isMore_27 c_orders c_orderMany c_spot c_bad) ⟨hx, hb, hml, hown, hts⟩ hK hP hD hS hA [0, 1, 2, 3, 4, 5, 6, 7, 8, 9, 10, 11, 12, 13, 14] [] [0, 1, 2, 3, 4, 5, 6, 7, 8, 9, 10, 11, 12, 13, 14] rfl (by decide) rfl (by decide) (by decide) rfl (by decide) (c_X6_lay l dC dI ck a0 a0_z a0_past a0_slots a0_isSaved a0_pad a0_yes a0_no a0_yesThen a0_noThen a0_yesRound a0_yesRule a0_noRound a0_noRule a0_orders c_z c_past c_slots c_isSaved c_pastMany c_pad c_typed c_yes_L12 c_no_L12 c_yesThen_L12 c_noThen_L12 c_yesRound_L12 c_yesRule_L12 c_noRound_L12 c_noRule_L12 c_rounds_L12 c_isMore_L12 c_orders c_orderMany c_spot c_bad c_yes_27 c_no_27 c_yesThen_27 c_noThen_27 c_yesRound_27 c_yesRule_27 c_noRound_27 c_noRule_27 c_rounds_27 c_isMore_27 q_27) (cwV 0 hts gX6_deeper_X6_lay rfl rfl rfl (by decide +kernel) ⟨Nat.le_of_ble_eq_true rfl, Nat.le_of_ble_eq_true rfl⟩) 0 rfl rfl rfl hl.1 rfl (Nat.le_of_ble_eq_true rfl) dX6_deeper_27 ⟨Nat.zero_le _, Nat.zero_le _⟩ (fun H locs hP hD hS => ?_)
                refine lv_aload_n hx hb dX6_deeper_30 rfl (lv_at hl 3 rfl) ?_
                refine va_get (ci := 6) (v := .ref a0_yes) (C := RX6) (T := TX6) (N := 21) hx hb hts iu_X6 hown hK.1 hP 0 rfl rfl 7 (by decide) (hts (.fieldLink RX6 27 "SheetMarksModel" "yes" "[I") (List.mem_of_getElem? (i := 1) rfl)) (fun _ h9 => h9) rfl dX6_deeper_31 ?_
                refine lv_iload_n hx hb dX6_deeper_34 rfl (lv_at hl 1 rfl) ?_
                obtain ⟨g_35, h⟩ := gd_e h
                refine va_iald hx hb hK.1 hP 6 0 rfl rfl g_35 dX6_deeper_35 ?_
                refine lv_aload_n hx hb dX6_deeper_36 rfl (lv_at hl 3 rfl) ?_
                refine va_get (ci := 6) (v := .ref a0_no) (C := RX6) (T := TX6) (N := 21) hx hb hts iu_X6 hown hK.1 hP 0 rfl rfl 8 (by decide) (hts (.fieldLink RX6 30 "SheetMarksModel" "no" "[I") (List.mem_of_getElem? (i := 2) rfl)) (fun _ h9 => h9) rfl dX6_deeper_37 ?_
                refine lv_iload_n hx hb dX6_deeper_40 rfl (lv_at hl 1 rfl) ?_
                obtain ⟨g_41, h⟩ := gd_e h
                refine va_iald hx hb hK.1 hP 7 0 rfl rfl g_41 dX6_deeper_41 ?_
                refine lv_ior hx hb dX6_deeper_42 ?_
                refine lv_iload_n hx hb dX6_deeper_43 rfl (lv_at hl 0 rfl) ?_
                refine lv_ishr hx hb dX6_deeper_44 ?_
                refine lv_iconst (v := (1 : Int32)) hx hb dX6_deeper_45 rfl ?_
                refine lv_iand hx hb dX6_deeper_46 ?_
                have hJ55 : ∀ (t0_J55 : Int32), f_X6_deeper_J55 c_z v2_L4 (lo12 (f_X6_deeper_L12 c_z (lo12 (f_X6_deeper_L4 c_z) n4) v2_L4) n12) v1_L12 v3_L12 c_yes_27 c_no_27 c_yesThen_27 c_noThen_27 c_yesRound_27 c_yesRule_27 c_noRound_27 c_noRule_27 c_rounds_27 c_isMore_27 t0_J55 = some (o0, o1, o2, o3, o4, o5, o6, o7, o8, o9, o10) → ∀ (H : Heap) (locs : List Loc), va_P (dC, dI) vwCl (wX6 ck a0 a0_z a0_past a0_slots a0_isSaved a0_pad a0_yes a0_no a0_yesThen a0_noThen a0_yesRound a0_yesRule a0_noRound a0_noRule a0_orders c_z c_past c_slots c_isSaved c_pastMany c_pad c_typed c_yes_27 c_no_27 c_yesThen_27 c_noThen_27 c_yesRound_27 c_yesRule_27 c_noRound_27 c_noRule_27 c_rounds_27 c_isMore_27 c_orders c_orderMany c_spot c_bad) H → va_D A (wX6 ck a0 a0_z a0_past a0_slots a0_isSaved a0_pad a0_yes a0_no a0_yesThen a0_noThen a0_yesRound a0_yesRule a0_noRound a0_noRule a0_orders c_z c_past c_slots c_isSaved c_pastMany c_pad c_typed c_yes_27 c_no_27 c_yesThen_27 c_noThen_27 c_yesRound_27 c_yesRule_27 c_noRound_27 c_noRule_27 c_rounds_27 c_isMore_27 c_orders c_orderMany c_spot c_bad) → va_S A s.heap H locs → ∀ ls : Array Slot, lv_has ls 5 [(3, .int v3_L12), (2, .int v2_L4), (1, .int v1_L12), (0, .ref a0)] → W p l e (headSpec wsX6_deeper ({ frames := 7, cells := 0, slots := 0, locals := 164 })).room s m [.ref a0].toArray below meth c H locs 0 0 (MQ below (QI (dC, dI) (wX6 ck a0 a0_z a0_past a0_slots a0_isSaved a0_pad a0_yes a0_no a0_yesThen a0_noThen a0_yesRound a0_yesRule a0_noRound a0_noRule a0_orders c_z c_past c_slots c_isSaved c_pastMany c_pad c_typed o1 o2 o3 o4 o5 o6 o7 o8 o9 o10 c_orders c_orderMany c_spot c_bad) o0 A) [.ref a0].toArray s 0 0 A) (F0 m 55 ls [.int t0_J55]) := by
                  intro t0_J55 h H locs hP hD hS ls hl
                  unfold f_X6_deeper_J55 at h
                  refine lv_istore (lv' := [(4, .int t0_J55), (3, .int v3_L12), (2, .int v2_L4), (1, .int v1_L12), (0, .ref a0)]) hx hb dX6_deeper_55 hl (by decide) rfl (fun ls hl => ?_)
                  refine lv_iload_n hx hb dX6_deeper_57 rfl (lv_at hl 3 rfl) ?_
                  refine lv_iload hx hb dX6_deeper_58 (lv_at hl 0 rfl) ?_
                  refine lv_if_eq (tgt := 76) hx hb dX6_deeper_60 (by decide) (fun c_60 => ?_) (fun c_60 => ?_)
                  · have h := if_t h c_60
                    refine lv_iconst (v := (0 : Int32)) hx hb dX6_deeper_76 rfl ?_
                    refine lv_iadd hx hb dX6_deeper_77 ?_
                    refine lv_topi (fun v1_78 e_78 => ?_)
                    have h := lt'_e e_78 h
                    refine lv_istore_n (lv' := [(1, .int v1_78), (4, .int t0_J55), (3, .int v3_L12), (2, .int v2_L4), (0, .ref a0)]) hx hb dX6_deeper_78 rfl hl (by decide) rfl (fun ls hl => ?_)
                    refine lv_iinc (v := (v3_L12 + (1 : Int32))) (lv' := [(3, .int (v3_L12 + (1 : Int32))), (1, .int v1_78), (4, .int t0_J55), (2, .int v2_L4), (0, .ref a0)]) hx hb dX6_deeper_79 hl (k := 2) rfl rfl (by decide) rfl (fun ls hl => ?_)
                    refine lv_goto (tgt := 12) hx hb dX6_deeper_82 (by decide) ?_
                    exact ih12 _ _ _ _ _ _ _ _ _ _ _ _ h _ _ hP hD hS _ (lv_sub hl [0, 3, 1, 4] rfl)
                  · have h := if_f h c_60
                    refine lv_aload_n hx hb dX6_deeper_63 rfl (lv_at hl 4 rfl) ?_
                    refine lv_iload_n hx hb dX6_deeper_64 rfl (lv_at hl 2 rfl) ?_
                    refine lv_iload_n hx hb dX6_deeper_65 rfl (lv_at hl 1 rfl) ?_
                    obtain ⟨r_66, c_yes_66, c_no_66, c_yesThen_66, c_noThen_66, c_yesRound_66, c_yesRule_66, c_noRound_66, c_noRule_66, c_rounds_66, c_isMore_66, q_66, h⟩ := ob11_e h
                    refine cMI (wc := wX6 ck a0 a0_z a0_past a0_slots a0_isSaved a0_pad a0_yes a0_no a0_yesThen a0_noThen a0_yesRound a0_yesRule a0_noRound a0_noRule a0_orders c_z c_past c_slots c_isSaved c_pastMany c_pad c_typed c_yes_27 c_no_27 c_yesThen_27 c_noThen_27 c_yesRound_27 c_yesRule_27 c_noRound_27 c_noRule_27 c_rounds_27 c_isMore_27 c_orders c_orderMany c_spot c_bad) (wr := []) (w1 := wX6 ck a0 a0_z a0_past a0_slots a0_isSaved a0_pad a0_yes a0_no a0_yesThen a0_noThen a0_yesRound a0_yesRule a0_noRound a0_noRule a0_orders c_z c_past c_slots c_isSaved c_pastMany c_pad c_typed c_yes_66 c_no_66 c_yesThen_66 c_noThen_66 c_yesRound_66 c_yesRule_66 c_noRound_66 c_noRule_66 c_rounds_66 c_isMore_66 c_orders c_orderMany c_spot c_bad) (wn := wX6 ck a0 a0_z a0_past a0_slots a0_isSaved a0_pad a0_yes a0_no a0_yesThen a0_noThen a0_yesRound a0_yesRule a0_noRound a0_noRule a0_orders c_z c_past c_slots c_isSaved c_pastMany c_pad c_typed c_yes_66 c_no_66 c_yesThen_66 c_noThen_66 c_yesRound_66 c_yesRule_66 c_noRound_66 c_noRule_66 c_rounds_66 c_isMore_66 c_orders c_orderMany c_spot c_bad) ⟨hx, hb, hml, hown, hts⟩ hK hP hD hS hA [0, 1, 2, 3, 4, 5, 6, 7, 8, 9, 10, 11, 12, 13, 14] [] [0, 1, 2, 3, 4, 5, 6, 7, 8, 9, 10, 11, 12, 13, 14] rfl (by decide) rfl (by decide) (by decide) rfl (by decide) (c_X6_mustBe l dC dI ck a0 a0_z a0_past a0_slots a0_isSaved a0_pad a0_yes a0_no a0_yesThen a0_noThen a0_yesRound a0_yesRule a0_noRound a0_noRule a0_orders c_z c_past c_slots c_isSaved c_pastMany c_pad c_typed c_yes_27 c_no_27 c_yesThen_27 c_noThen_27 c_yesRound_27 c_yesRule_27 c_noRound_27 c_noRule_27 c_rounds_27 c_isMore_27 c_orders c_orderMany c_spot c_bad v2_L4 v3_L12 r_66 c_yes_66 c_no_66 c_yesThen_66 c_noThen_66 c_yesRound_66 c_yesRule_66 c_noRound_66 c_noRule_66 c_rounds_66 c_isMore_66 q_66) (cwV 2 hts gX6_deeper_X6_mustBe rfl rfl rfl (by decide +kernel) ⟨Nat.le_of_ble_eq_true rfl, Nat.le_of_ble_eq_true rfl⟩) 0 rfl rfl rfl hl.1 rfl (Nat.le_of_ble_eq_true rfl) dX6_deeper_66 ⟨Nat.zero_le _, Nat.zero_le _⟩ (fun H locs hP hD hS => ?_)
                    refine lv_if_le (tgt := 76) hx hb dX6_deeper_69 (by decide) (fun c_69 => ?_) (fun c_69 => ?_)
                    · have h := if_t h c_69
                      refine lv_iconst (v := (0 : Int32)) hx hb dX6_deeper_76 rfl ?_
                      refine lv_iadd hx hb dX6_deeper_77 ?_
                      refine lv_topi (fun v1_78 e_78 => ?_)
                      have h := lt'_e e_78 h
                      refine lv_istore_n (lv' := [(1, .int v1_78), (4, .int t0_J55), (3, .int v3_L12), (2, .int v2_L4), (0, .ref a0)]) hx hb dX6_deeper_78 rfl hl (by decide) rfl (fun ls hl => ?_)
                      refine lv_iinc (v := (v3_L12 + (1 : Int32))) (lv' := [(3, .int (v3_L12 + (1 : Int32))), (1, .int v1_78), (4, .int t0_J55), (2, .int v2_L4), (0, .ref a0)]) hx hb dX6_deeper_79 hl (k := 2) rfl rfl (by decide) rfl (fun ls hl => ?_)
                      refine lv_goto (tgt := 12) hx hb dX6_deeper_82 (by decide) ?_
                      exact ih12 _ _ _ _ _ _ _ _ _ _ _ _ h _ _ hP hD hS _ (lv_sub hl [0, 3, 1, 4] rfl)
                    · have h := if_f h c_69
                      refine lv_iconst (v := (1 : Int32)) hx hb dX6_deeper_72 rfl ?_
                      refine lv_goto (tgt := 77) hx hb dX6_deeper_73 (by decide) ?_
                      refine lv_iadd hx hb dX6_deeper_77 ?_
                      refine lv_topi (fun v1_78 e_78 => ?_)
                      have h := lt'_e e_78 h
                      refine lv_istore_n (lv' := [(1, .int v1_78), (4, .int t0_J55), (3, .int v3_L12), (2, .int v2_L4), (0, .ref a0)]) hx hb dX6_deeper_78 rfl hl (by decide) rfl (fun ls hl => ?_)
                      refine lv_iinc (v := (v3_L12 + (1 : Int32))) (lv' := [(3, .int (v3_L12 + (1 : Int32))), (1, .int v1_78), (4, .int t0_J55), (2, .int v2_L4), (0, .ref a0)]) hx hb dX6_deeper_79 hl (k := 2) rfl rfl (by decide) rfl (fun ls hl => ?_)
                      refine lv_goto (tgt := 12) hx hb dX6_deeper_82 (by decide) ?_
                      exact ih12 _ _ _ _ _ _ _ _ _ _ _ _ h _ _ hP hD hS _ (lv_sub hl [0, 3, 1, 4] rfl)
                refine lv_if_ne (tgt := 54) hx hb dX6_deeper_47 (by decide) (fun c_47 => ?_) (fun c_47 => ?_)
                · have h := if_f h c_47
                  refine lv_iconst (v := (0 : Int32)) hx hb dX6_deeper_54 rfl ?_
                  exact hJ55 _ h _ _ hP hD hS _ (lv_sub hl [0, 1, 2, 3] rfl)
                · have h := if_t h c_47
                  refine lv_iconst (v := (1 : Int32)) hx hb dX6_deeper_50 rfl ?_
                  refine lv_goto (tgt := 55) hx hb dX6_deeper_51 (by decide) ?_
                  exact hJ55 _ h _ _ hP hD hS _ (lv_sub hl [0, 1, 2, 3] rfl)
        exact hL12 _ _ _ _ _ _ _ _ _ _ _ _ _ h _ _ hP hD hS _ (lv_sub hl [0, 1, 2, 3] rfl)
  exact hL4 _ _ _ _ _ _ _ _ _ _ _ _ _ h _ _ hP hD hS _ (lv_sub hl [0, 1, 2] rfl)
noncomputable def f_X6_lesserGain_J42 (r_9 : Int32) (r_23 : Int32) (c_z_23 : Nat → Int32) (c_yes_23 : Nat → Int32) (c_no_23 : Nat → Int32) (c_yesThen_23 : Nat → Int32) (c_noThen_23 : Nat → Int32) (c_yesRound_23 : Nat → Int32) (c_yesRule_23 : Nat → Int32) (c_noRound_23 : Nat → Int32) (c_noRule_23 : Nat → Int32) (c_rounds_23 : Int32) (c_isMore_23 : Int32) : Option (Int32 × (Nat → Int32) × (Nat → Int32) × (Nat → Int32) × (Nat → Int32) × (Nat → Int32) × (Nat → Int32) × (Nat → Int32) × (Nat → Int32) × (Nat → Int32) × Int32 × Int32) :=
  if r_9 = (-6 : Int32) then (if r_23 = (-6 : Int32) then (some ((0 : Int32), c_z_23, c_yes_23, c_no_23, c_yesThen_23, c_noThen_23, c_yesRound_23, c_yesRule_23, c_noRound_23, c_noRule_23, c_rounds_23, c_isMore_23)) else (if r_9 = (-6 : Int32) then (some (r_23, c_z_23, c_yes_23, c_no_23, c_yesThen_23, c_noThen_23, c_yesRound_23, c_yesRule_23, c_noRound_23, c_noRule_23, c_rounds_23, c_isMore_23)) else (some (r_9, c_z_23, c_yes_23, c_no_23, c_yesThen_23, c_noThen_23, c_yesRound_23, c_yesRule_23, c_noRound_23, c_noRule_23, c_rounds_23, c_isMore_23)))) else (if r_9 = (-6 : Int32) then (some (r_23, c_z_23, c_yes_23, c_no_23, c_yesThen_23, c_noThen_23, c_yesRound_23, c_yesRule_23, c_noRound_23, c_noRule_23, c_rounds_23, c_isMore_23)) else (some (r_9, c_z_23, c_yes_23, c_no_23, c_yesThen_23, c_noThen_23, c_yesRound_23, c_yesRule_23, c_noRound_23, c_noRule_23, c_rounds_23, c_isMore_23)))
noncomputable def f_X6_lesserGain (c_z : Nat → Int32) (c_yes : Nat → Int32) (c_no : Nat → Int32) (c_yesThen : Nat → Int32) (c_noThen : Nat → Int32) (c_yesRound : Nat → Int32) (c_yesRule : Nat → Int32) (c_noRound : Nat → Int32) (c_noRule : Nat → Int32) (c_rounds : Int32) (c_isMore : Int32) (v1 : Int32) (v2 : Int32) (v3 : Int32) (v4 : Int32) (v5 : Int32) : Option (Int32 × (Nat → Int32) × (Nat → Int32) × (Nat → Int32) × (Nat → Int32) × (Nat → Int32) × (Nat → Int32) × (Nat → Int32) × (Nat → Int32) × (Nat → Int32) × Int32 × Int32) :=
  ob12 (f_X6_gained c_z c_yes c_no c_yesThen c_noThen c_yesRound c_yesRule c_noRound c_noRule c_rounds c_isMore v1 v2 (0 : Int32) v3 v4 v5) (fun (r_9 : Int32) (c_z_9 : Nat → Int32) (c_yes_9 : Nat → Int32) (c_no_9 : Nat → Int32) (c_yesThen_9 : Nat → Int32) (c_noThen_9 : Nat → Int32) (c_yesRound_9 : Nat → Int32) (c_yesRule_9 : Nat → Int32) (c_noRound_9 : Nat → Int32) (c_noRule_9 : Nat → Int32) (c_rounds_9 : Int32) (c_isMore_9 : Int32) => ob12 (f_X6_gained c_z_9 c_yes_9 c_no_9 c_yesThen_9 c_noThen_9 c_yesRound_9 c_yesRule_9 c_noRound_9 c_noRule_9 c_rounds_9 c_isMore_9 v1 v2 (1 : Int32) v3 v4 v5) (fun (r_23 : Int32) (c_z_23 : Nat → Int32) (c_yes_23 : Nat → Int32) (c_no_23 : Nat → Int32) (c_yesThen_23 : Nat → Int32) (c_noThen_23 : Nat → Int32) (c_yesRound_23 : Nat → Int32) (c_yesRule_23 : Nat → Int32) (c_noRound_23 : Nat → Int32) (c_noRule_23 : Nat → Int32) (c_rounds_23 : Int32) (c_isMore_23 : Int32) => if r_9 = (-6 : Int32) then (f_X6_lesserGain_J42 r_9 r_23 c_z_23 c_yes_23 c_no_23 c_yesThen_23 c_noThen_23 c_yesRound_23 c_yesRule_23 c_noRound_23 c_noRule_23 c_rounds_23 c_isMore_23) else (if r_23 = (-6 : Int32) then (f_X6_lesserGain_J42 r_9 r_23 c_z_23 c_yes_23 c_no_23 c_yesThen_23 c_noThen_23 c_yesRound_23 c_yesRule_23 c_noRound_23 c_noRule_23 c_rounds_23 c_isMore_23) else (if r_23 ≤ r_9 then (some (r_23, c_z_23, c_yes_23, c_no_23, c_yesThen_23, c_noThen_23, c_yesRound_23, c_yesRule_23, c_noRound_23, c_noRule_23, c_rounds_23, c_isMore_23)) else (some (r_9, c_z_23, c_yes_23, c_no_23, c_yesThen_23, c_noThen_23, c_yesRound_23, c_yesRule_23, c_noRound_23, c_noRule_23, c_rounds_23, c_isMore_23))))))
set_option maxHeartbeats 4000000 in
set_option maxRecDepth 100000 in
theorem c_X6_lesserGain (l : Launch) (dC : Nat → ClassId) (dI : Nat → Nat → Nat) (ck : Nat → ClassId) (a0 a0_z a0_past a0_slots a0_isSaved a0_pad a0_yes a0_no a0_yesThen a0_noThen a0_yesRound a0_yesRule a0_noRound a0_noRule a0_orders : Nat) (c_z : Nat → Int32) (c_past : Nat → Int32) (c_slots : Nat → Int32) (c_isSaved : Nat → Int32) (c_pastMany : Int32) (c_pad : Nat → Int32) (c_typed : Int32) (c_yes : Nat → Int32) (c_no : Nat → Int32) (c_yesThen : Nat → Int32) (c_noThen : Nat → Int32) (c_yesRound : Nat → Int32) (c_yesRule : Nat → Int32) (c_noRound : Nat → Int32) (c_noRule : Nat → Int32) (c_rounds : Int32) (c_isMore : Int32) (c_orders : Nat → Int32) (c_orderMany : Int32) (c_spot : Int32) (c_bad : Int32) (v1 : Int32) (v2 : Int32) (v3 : Int32) (v4 : Int32) (v5 : Int32) (o0 : Int32) (o1 : Nat → Int32) (o2 : Nat → Int32) (o3 : Nat → Int32) (o4 : Nat → Int32) (o5 : Nat → Int32) (o6 : Nat → Int32) (o7 : Nat → Int32) (o8 : Nat → Int32) (o9 : Nat → Int32) (o10 : Int32) (o11 : Int32) (h : f_X6_lesserGain c_z c_yes c_no c_yesThen c_noThen c_yesRound c_yesRule c_noRound c_noRule c_rounds c_isMore v1 v2 v3 v4 v5 = some (o0, o1, o2, o3, o4, o5, o6, o7, o8, o9, o10, o11)) : MI l yX6_lesserGain wsX6_lesserGain ({ frames := 8, cells := 0, slots := 0, locals := 187 }) [.ref a0, .int v1, .int v2, .int v3, .int v4, .int v5] (dC, dI) ck (wX6 ck a0 a0_z a0_past a0_slots a0_isSaved a0_pad a0_yes a0_no a0_yesThen a0_noThen a0_yesRound a0_yesRule a0_noRound a0_noRule a0_orders c_z c_past c_slots c_isSaved c_pastMany c_pad c_typed c_yes c_no c_yesThen c_noThen c_yesRound c_yesRule c_noRound c_noRule c_rounds c_isMore c_orders c_orderMany c_spot c_bad) (wX6 ck a0 a0_z a0_past a0_slots a0_isSaved a0_pad a0_yes a0_no a0_yesThen a0_noThen a0_yesRound a0_yesRule a0_noRound a0_noRule a0_orders o1 c_past c_slots c_isSaved c_pastMany c_pad c_typed o2 o3 o4 o5 o6 o7 o8 o9 o10 o11 c_orders c_orderMany c_spot c_bad) o0 := by
  refine MI.ofW (cc := cX6_lesserGain) (maxL := 8) (ret := (some .int)) (by decide +kernel) rfl (Nat.le_of_ble_eq_true rfl) ?_
  intro p e s m below meth c hx hb hr hml hts hown hlk hK hP A hA hD ls hl
  have hS : va_S A s.heap s.heap [] := va_S.rf
  have hown : s.vm.findClass RX6 = some m.cls := hown
  have hl : lv_has ls 8 [(0, .ref a0), (1, .int v1), (2, .int v2), (3, .int v3), (4, .int v4), (5, .int v5)] := hl
  unfold f_X6_lesserGain at h
  refine lv_aload_n hx hb dX6_lesserGain_0 rfl (lv_at hl 0 rfl) ?_
  refine lv_iload_n hx hb dX6_lesserGain_1 rfl (lv_at hl 1 rfl) ?_
  refine lv_iload_n hx hb dX6_lesserGain_2 rfl (lv_at hl 2 rfl) ?_
  refine lv_iconst (v := (0 : Int32)) hx hb dX6_lesserGain_3 rfl ?_
  refine lv_iload_n hx hb dX6_lesserGain_4 rfl (lv_at hl 3 rfl) ?_
  refine lv_iload hx hb dX6_lesserGain_5 (lv_at hl 4 rfl) ?_
  refine lv_iload hx hb dX6_lesserGain_7 (lv_at hl 5 rfl) ?_
  obtain ⟨r_9, c_z_9, c_yes_9, c_no_9, c_yesThen_9, c_noThen_9, c_yesRound_9, c_yesRule_9, c_noRound_9, c_noRule_9, c_rounds_9, c_isMore_9, q_9, h⟩ := ob12_e h
  refine cMI (wc := wX6 ck a0 a0_z a0_past a0_slots a0_isSaved a0_pad a0_yes a0_no a0_yesThen a0_noThen a0_yesRound a0_yesRule a0_noRound a0_noRule a0_orders c_z c_past c_slots c_isSaved c_pastMany c_pad c_typed c_yes c_no c_yesThen c_noThen c_yesRound c_yesRule c_noRound c_noRule c_rounds c_isMore c_orders c_orderMany c_spot c_bad) (wr := []) (w1 := wX6 ck a0 a0_z a0_past a0_slots a0_isSaved a0_pad a0_yes a0_no a0_yesThen a0_noThen a0_yesRound a0_yesRule a0_noRound a0_noRule a0_orders c_z_9 c_past c_slots c_isSaved c_pastMany c_pad c_typed c_yes_9 c_no_9 c_yesThen_9 c_noThen_9 c_yesRound_9 c_yesRule_9 c_noRound_9 c_noRule_9 c_rounds_9 c_isMore_9 c_orders c_orderMany c_spot c_bad) (wn := wX6 ck a0 a0_z a0_past a0_slots a0_isSaved a0_pad a0_yes a0_no a0_yesThen a0_noThen a0_yesRound a0_yesRule a0_noRound a0_noRule a0_orders c_z_9 c_past c_slots c_isSaved c_pastMany c_pad c_typed c_yes_9 c_no_9 c_yesThen_9 c_noThen_9 c_yesRound_9 c_yesRule_9 c_noRound_9 c_noRule_9 c_rounds_9 c_isMore_9 c_orders c_orderMany c_spot c_bad) ⟨hx, hb, hml, hown, hts⟩ hK hP hD hS hA [0, 1, 2, 3, 4, 5, 6, 7, 8, 9, 10, 11, 12, 13, 14] [] [0, 1, 2, 3, 4, 5, 6, 7, 8, 9, 10, 11, 12, 13, 14] rfl (by decide) rfl (by decide) (by decide) rfl (by decide) (c_X6_gained l dC dI ck a0 a0_z a0_past a0_slots a0_isSaved a0_pad a0_yes a0_no a0_yesThen a0_noThen a0_yesRound a0_yesRule a0_noRound a0_noRule a0_orders c_z c_past c_slots c_isSaved c_pastMany c_pad c_typed c_yes c_no c_yesThen c_noThen c_yesRound c_yesRule c_noRound c_noRule c_rounds c_isMore c_orders c_orderMany c_spot c_bad v1 v2 (0 : Int32) v3 v4 v5 r_9 c_z_9 c_yes_9 c_no_9 c_yesThen_9 c_noThen_9 c_yesRound_9 c_yesRule_9 c_noRound_9 c_noRule_9 c_rounds_9 c_isMore_9 q_9) (cwV 6 hts gX6_lesserGain_X6_gained rfl rfl rfl (by decide +kernel) ⟨Nat.le_of_ble_eq_true rfl, Nat.le_of_ble_eq_true rfl⟩) 0 rfl rfl rfl hl.1 rfl (Nat.le_of_ble_eq_true rfl) dX6_lesserGain_9 ⟨Nat.zero_le _, Nat.zero_le _⟩ (fun H locs hP hD hS => ?_)
  refine lv_istore (lv' := [(6, .int r_9), (0, .ref a0), (1, .int v1), (2, .int v2), (3, .int v3), (4, .int v4), (5, .int v5)]) hx hb dX6_lesserGain_12 hl (by decide) rfl (fun ls hl => ?_)
  refine lv_aload_n hx hb dX6_lesserGain_14 rfl (lv_at hl 1 rfl) ?_
  refine lv_iload_n hx hb dX6_lesserGain_15 rfl (lv_at hl 2 rfl) ?_
  refine lv_iload_n hx hb dX6_lesserGain_16 rfl (lv_at hl 3 rfl) ?_
  refine lv_iconst (v := (1 : Int32)) hx hb dX6_lesserGain_17 rfl ?_
  refine lv_iload_n hx hb dX6_lesserGain_18 rfl (lv_at hl 4 rfl) ?_
  refine lv_iload hx hb dX6_lesserGain_19 (lv_at hl 5 rfl) ?_
  refine lv_iload hx hb dX6_lesserGain_21 (lv_at hl 6 rfl) ?_
  obtain ⟨r_23, c_z_23, c_yes_23, c_no_23, c_yesThen_23, c_noThen_23, c_yesRound_23, c_yesRule_23, c_noRound_23, c_noRule_23, c_rounds_23, c_isMore_23, q_23, h⟩ := ob12_e h
  refine cMI (wc := wX6 ck a0 a0_z a0_past a0_slots a0_isSaved a0_pad a0_yes a0_no a0_yesThen a0_noThen a0_yesRound a0_yesRule a0_noRound a0_noRule a0_orders c_z_9 c_past c_slots c_isSaved c_pastMany c_pad c_typed c_yes_9 c_no_9 c_yesThen_9 c_noThen_9 c_yesRound_9 c_yesRule_9 c_noRound_9 c_noRule_9 c_rounds_9 c_isMore_9 c_orders c_orderMany c_spot c_bad) (wr := []) (w1 := wX6 ck a0 a0_z a0_past a0_slots a0_isSaved a0_pad a0_yes a0_no a0_yesThen a0_noThen a0_yesRound a0_yesRule a0_noRound a0_noRule a0_orders c_z_23 c_past c_slots c_isSaved c_pastMany c_pad c_typed c_yes_23 c_no_23 c_yesThen_23 c_noThen_23 c_yesRound_23 c_yesRule_23 c_noRound_23 c_noRule_23 c_rounds_23 c_isMore_23 c_orders c_orderMany c_spot c_bad) (wn := wX6 ck a0 a0_z a0_past a0_slots a0_isSaved a0_pad a0_yes a0_no a0_yesThen a0_noThen a0_yesRound a0_yesRule a0_noRound a0_noRule a0_orders c_z_23 c_past c_slots c_isSaved c_pastMany c_pad c_typed c_yes_23 c_no_23 c_yesThen_23 c_noThen_23 c_yesRound_23 c_yesRule_23 c_noRound_23 c_noRule_23 c_rounds_23 c_isMore_23 c_orders c_orderMany c_spot c_bad) ⟨hx, hb, hml, hown, hts⟩ hK hP hD hS hA [0, 1, 2, 3, 4, 5, 6, 7, 8, 9, 10, 11, 12, 13, 14] [] [0, 1, 2, 3, 4, 5, 6, 7, 8, 9, 10, 11, 12, 13, 14] rfl (by decide) rfl (by decide) (by decide) rfl (by decide) (c_X6_gained l dC dI ck a0 a0_z a0_past a0_slots a0_isSaved a0_pad a0_yes a0_no a0_yesThen a0_noThen a0_yesRound a0_yesRule a0_noRound a0_noRule a0_orders c_z_9 c_past c_slots c_isSaved c_pastMany c_pad c_typed c_yes_9 c_no_9 c_yesThen_9 c_noThen_9 c_yesRound_9 c_yesRule_9 c_noRound_9 c_noRule_9 c_rounds_9 c_isMore_9 c_orders c_orderMany c_spot c_bad v1 v2 (1 : Int32) v3 v4 v5 r_23 c_z_23 c_yes_23 c_no_23 c_yesThen_23 c_noThen_23 c_yesRound_23 c_yesRule_23 c_noRound_23 c_noRule_23 c_rounds_23 c_isMore_23 q_23) (cwV 6 hts gX6_lesserGain_X6_gained rfl rfl rfl (by decide +kernel) ⟨Nat.le_of_ble_eq_true rfl, Nat.le_of_ble_eq_true rfl⟩) 0 rfl rfl rfl hl.1 rfl (Nat.le_of_ble_eq_true rfl) dX6_lesserGain_23 ⟨Nat.zero_le _, Nat.zero_le _⟩ (fun H locs hP hD hS => ?_)
  refine lv_istore (lv' := [(7, .int r_23), (6, .int r_9), (0, .ref a0), (1, .int v1), (2, .int v2), (3, .int v3), (4, .int v4), (5, .int v5)]) hx hb dX6_lesserGain_26 hl (by decide) rfl (fun ls hl => ?_)
  refine lv_iload hx hb dX6_lesserGain_28 (lv_at hl 1 rfl) ?_
  refine lv_bipush (v := (-6 : Int32)) hx hb dX6_lesserGain_30 rfl ?_
  have hJ42 : f_X6_lesserGain_J42 r_9 r_23 c_z_23 c_yes_23 c_no_23 c_yesThen_23 c_noThen_23 c_yesRound_23 c_yesRule_23 c_noRound_23 c_noRule_23 c_rounds_23 c_isMore_23 = some (o0, o1, o2, o3, o4, o5, o6, o7, o8, o9, o10, o11) → ∀ (H : Heap) (locs : List Loc), va_P (dC, dI) vwCl (wX6 ck a0 a0_z a0_past a0_slots a0_isSaved a0_pad a0_yes a0_no a0_yesThen a0_noThen a0_yesRound a0_yesRule a0_noRound a0_noRule a0_orders c_z_23 c_past c_slots c_isSaved c_pastMany c_pad c_typed c_yes_23 c_no_23 c_yesThen_23 c_noThen_23 c_yesRound_23 c_yesRule_23 c_noRound_23 c_noRule_23 c_rounds_23 c_isMore_23 c_orders c_orderMany c_spot c_bad) H → va_D A (wX6 ck a0 a0_z a0_past a0_slots a0_isSaved a0_pad a0_yes a0_no a0_yesThen a0_noThen a0_yesRound a0_yesRule a0_noRound a0_noRule a0_orders c_z_23 c_past c_slots c_isSaved c_pastMany c_pad c_typed c_yes_23 c_no_23 c_yesThen_23 c_noThen_23 c_yesRound_23 c_yesRule_23 c_noRound_23 c_noRule_23 c_rounds_23 c_isMore_23 c_orders c_orderMany c_spot c_bad) → va_S A s.heap H locs → ∀ ls : Array Slot, lv_has ls 8 [(7, .int r_23), (6, .int r_9)] → W p l e (headSpec wsX6_lesserGain ({ frames := 8, cells := 0, slots := 0, locals := 187 })).room s m [.ref a0, .int v1, .int v2, .int v3, .int v4, .int v5].toArray below meth c H locs 0 0 (MQ below (QI (dC, dI) (wX6 ck a0 a0_z a0_past a0_slots a0_isSaved a0_pad a0_yes a0_no a0_yesThen a0_noThen a0_yesRound a0_yesRule a0_noRound a0_noRule a0_orders o1 c_past c_slots c_isSaved c_pastMany c_pad c_typed o2 o3 o4 o5 o6 o7 o8 o9 o10 o11 c_orders c_orderMany c_spot c_bad) o0 A) [.ref a0, .int v1, .int v2, .int v3, .int v4, .int v5].toArray s 0 0 A) (F0 m 42 ls []) := by
    intro  h H locs hP hD hS ls hl
    unfold f_X6_lesserGain_J42 at h
    refine lv_iload hx hb dX6_lesserGain_42 (lv_at hl 1 rfl) ?_
    refine lv_bipush (v := (-6 : Int32)) hx hb dX6_lesserGain_44 rfl ?_
    refine lv_icmp_ne (tgt := 60) hx hb dX6_lesserGain_46 (by decide) (fun c_46 => ?_) (fun c_46 => ?_)
    · have h := if_f h c_46
      refine lv_iload hx hb dX6_lesserGain_60 (lv_at hl 1 rfl) ?_
      refine lv_bipush (v := (-6 : Int32)) hx hb dX6_lesserGain_62 rfl ?_
      refine lv_icmp_ne (tgt := 72) hx hb dX6_lesserGain_64 (by decide) (fun c_64 => ?_) (fun c_64 => ?_)
      · have h := if_f h c_64
        refine lv_iload hx hb dX6_lesserGain_72 (lv_at hl 1 rfl) ?_
        cases h
        exact eMi hx hb hr hlk hP hD hS rfl dX6_lesserGain_74
      · have h := if_t h c_64
        refine lv_iload hx hb dX6_lesserGain_67 (lv_at hl 0 rfl) ?_
        refine lv_goto (tgt := 74) hx hb dX6_lesserGain_69 (by decide) ?_
        cases h
        exact eMi hx hb hr hlk hP hD hS rfl dX6_lesserGain_74
    · have h := if_t h c_46
      refine lv_iload hx hb dX6_lesserGain_49 (lv_at hl 0 rfl) ?_
      refine lv_bipush (v := (-6 : Int32)) hx hb dX6_lesserGain_51 rfl ?_
      refine lv_icmp_ne (tgt := 60) hx hb dX6_lesserGain_53 (by decide) (fun c_53 => ?_) (fun c_53 => ?_)
      · have h := if_f h c_53
        refine lv_iload hx hb dX6_lesserGain_60 (lv_at hl 1 rfl) ?_
        refine lv_bipush (v := (-6 : Int32)) hx hb dX6_lesserGain_62 rfl ?_
        refine lv_icmp_ne (tgt := 72) hx hb dX6_lesserGain_64 (by decide) (fun c_64 => ?_) (fun c_64 => ?_)
        · have h := if_f h c_64
          refine lv_iload hx hb dX6_lesserGain_72 (lv_at hl 1 rfl) ?_
          cases h
          exact eMi hx hb hr hlk hP hD hS rfl dX6_lesserGain_74
        · have h := if_t h c_64
          refine lv_iload hx hb dX6_lesserGain_67 (lv_at hl 0 rfl) ?_
          refine lv_goto (tgt := 74) hx hb dX6_lesserGain_69 (by decide) ?_
          cases h
          exact eMi hx hb hr hlk hP hD hS rfl dX6_lesserGain_74
      · have h := if_t h c_53
        refine lv_iconst (v := (0 : Int32)) hx hb dX6_lesserGain_56 rfl ?_
        refine lv_goto (tgt := 74) hx hb dX6_lesserGain_57 (by decide) ?_
        cases h
        exact eMi hx hb hr hlk hP hD hS rfl dX6_lesserGain_74
  refine lv_icmp_eq (tgt := 42) hx hb dX6_lesserGain_32 (by decide) (fun c_32 => ?_) (fun c_32 => ?_)
  · have h := if_t h c_32
    exact hJ42 h _ _ hP hD hS _ (lv_sub hl [0, 1] rfl)
  · have h := if_f h c_32
    refine lv_iload hx hb dX6_lesserGain_35 (lv_at hl 0 rfl) ?_
    refine lv_bipush (v := (-6 : Int32)) hx hb dX6_lesserGain_37 rfl ?_
    refine lv_icmp_ne (tgt := 75) hx hb dX6_lesserGain_39 (by decide) (fun c_39 => ?_) (fun c_39 => ?_)
    · have h := if_f h c_39
      refine lv_iload hx hb dX6_lesserGain_75 (lv_at hl 1 rfl) ?_
      refine lv_iload hx hb dX6_lesserGain_77 (lv_at hl 0 rfl) ?_
      refine lv_icmp_ge (tgt := 87) hx hb dX6_lesserGain_79 (by decide) (fun c_79 => ?_) (fun c_79 => ?_)
      · have h := if_t h c_79
        refine lv_iload hx hb dX6_lesserGain_87 (lv_at hl 0 rfl) ?_
        cases h
        exact eMi hx hb hr hlk hP hD hS rfl dX6_lesserGain_89
      · have h := if_f h c_79
        refine lv_iload hx hb dX6_lesserGain_82 (lv_at hl 1 rfl) ?_
        refine lv_goto (tgt := 89) hx hb dX6_lesserGain_84 (by decide) ?_
        cases h
        exact eMi hx hb hr hlk hP hD hS rfl dX6_lesserGain_89
    · have h := if_t h c_39
      exact hJ42 h _ _ hP hD hS _ (lv_sub hl [0, 1] rfl)
noncomputable def f_X6_bestQuestion_L37 (v1 : Int32) (v2 : Int32) (r_29 : Int32) (rec37 : Int32 → Int32 → Int32 → (Nat → Int32) → (Nat → Int32) → (Nat → Int32) → (Nat → Int32) → (Nat → Int32) → (Nat → Int32) → (Nat → Int32) → (Nat → Int32) → (Nat → Int32) → Int32 → Int32 → Option (Int32 × (Nat → Int32) × (Nat → Int32) × (Nat → Int32) × (Nat → Int32) × (Nat → Int32) × (Nat → Int32) × (Nat → Int32) × (Nat → Int32) × (Nat → Int32) × Int32 × Int32)) (v3_L37 : Int32) (v4_L37 : Int32) (v6_L37 : Int32) (c_z_L37 : Nat → Int32) (c_yes_L37 : Nat → Int32) (c_no_L37 : Nat → Int32) (c_yesThen_L37 : Nat → Int32) (c_noThen_L37 : Nat → Int32) (c_yesRound_L37 : Nat → Int32) (c_yesRule_L37 : Nat → Int32) (c_noRound_L37 : Nat → Int32) (c_noRule_L37 : Nat → Int32) (c_rounds_L37 : Int32) (c_isMore_L37 : Int32) : Option (Int32 × (Nat → Int32) × (Nat → Int32) × (Nat → Int32) × (Nat → Int32) × (Nat → Int32) × (Nat → Int32) × (Nat → Int32) × (Nat → Int32) × (Nat → Int32) × Int32 × Int32) :=
  if (216 : Int32) ≤ v6_L37 then (if v2 = (0 : Int32) then (some ((v3_L37 / (36 : Int32)), c_z_L37, c_yes_L37, c_no_L37, c_yesThen_L37, c_noThen_L37, c_yesRound_L37, c_yesRule_L37, c_noRound_L37, c_noRule_L37, c_rounds_L37, c_isMore_L37)) else (if v2 = (1 : Int32) then (some (((v3_L37 / (6 : Int32)) - (v3_L37 / (6 : Int32)) / (6 : Int32) * (6 : Int32)), c_z_L37, c_yes_L37, c_no_L37, c_yesThen_L37, c_noThen_L37, c_yesRound_L37, c_yesRule_L37, c_noRound_L37, c_noRule_L37, c_rounds_L37, c_isMore_L37)) else (if v2 = (2 : Int32) then (some ((v3_L37 - v3_L37 / (6 : Int32) * (6 : Int32)), c_z_L37, c_yes_L37, c_no_L37, c_yesThen_L37, c_noThen_L37, c_yesRound_L37, c_yesRule_L37, c_noRound_L37, c_noRule_L37, c_rounds_L37, c_isMore_L37)) else (some (v4_L37, c_z_L37, c_yes_L37, c_no_L37, c_yesThen_L37, c_noThen_L37, c_yesRound_L37, c_yesRule_L37, c_noRound_L37, c_noRule_L37, c_rounds_L37, c_isMore_L37))))) else (ob12 (f_X6_lesserGain c_z_L37 c_yes_L37 c_no_L37 c_yesThen_L37 c_noThen_L37 c_yesRound_L37 c_yesRule_L37 c_noRound_L37 c_noRule_L37 c_rounds_L37 c_isMore_L37 r_29 v1 (v6_L37 / (36 : Int32)) ((v6_L37 / (6 : Int32)) - (v6_L37 / (6 : Int32)) / (6 : Int32) * (6 : Int32)) (v6_L37 - v6_L37 / (6 : Int32) * (6 : Int32))) (fun (r_67 : Int32) (c_z_67 : Nat → Int32) (c_yes_67 : Nat → Int32) (c_no_67 : Nat → Int32) (c_yesThen_67 : Nat → Int32) (c_noThen_67 : Nat → Int32) (c_yesRound_67 : Nat → Int32) (c_yesRule_67 : Nat → Int32) (c_noRound_67 : Nat → Int32) (c_noRule_67 : Nat → Int32) (c_rounds_67 : Int32) (c_isMore_67 : Int32) => if r_67 ≤ v4_L37 then (if r_67 ≤ v4_L37 then (rec37 v3_L37 v4_L37 (v6_L37 + (1 : Int32)) c_z_67 c_yes_67 c_no_67 c_yesThen_67 c_noThen_67 c_yesRound_67 c_yesRule_67 c_noRound_67 c_noRule_67 c_rounds_67 c_isMore_67) else (rec37 v3_L37 r_67 (v6_L37 + (1 : Int32)) c_z_67 c_yes_67 c_no_67 c_yesThen_67 c_noThen_67 c_yesRound_67 c_yesRule_67 c_noRound_67 c_noRule_67 c_rounds_67 c_isMore_67)) else (if r_67 ≤ v4_L37 then (rec37 v6_L37 v4_L37 (v6_L37 + (1 : Int32)) c_z_67 c_yes_67 c_no_67 c_yesThen_67 c_noThen_67 c_yesRound_67 c_yesRule_67 c_noRound_67 c_noRule_67 c_rounds_67 c_isMore_67) else (rec37 v6_L37 r_67 (v6_L37 + (1 : Int32)) c_z_67 c_yes_67 c_no_67 c_yesThen_67 c_noThen_67 c_yesRound_67 c_yesRule_67 c_noRound_67 c_noRule_67 c_rounds_67 c_isMore_67))))
noncomputable def f_X6_bestQuestion (c_z : Nat → Int32) (c_yes : Nat → Int32) (c_no : Nat → Int32) (c_yesThen : Nat → Int32) (c_noThen : Nat → Int32) (c_yesRound : Nat → Int32) (c_yesRule : Nat → Int32) (c_noRound : Nat → Int32) (c_noRule : Nat → Int32) (c_rounds : Int32) (c_isMore : Int32) (v1 : Int32) (v2 : Int32) : Option (Int32 × (Nat → Int32) × (Nat → Int32) × (Nat → Int32) × (Nat → Int32) × (Nat → Int32) × (Nat → Int32) × (Nat → Int32) × (Nat → Int32) × (Nat → Int32) × Int32 × Int32) :=
  ob1 (f_X6_isPlayer c_z v1) (fun (r_2 : Int32) => if r_2 = (0 : Int32) then (some ((-1 : Int32), c_z, c_yes, c_no, c_yesThen, c_noThen, c_yesRound, c_yesRule, c_noRound, c_noRule, c_rounds, c_isMore)) else (ob1 (f_X6_in v2 (0 : Int32) (3 : Int32)) (fun (r_13 : Int32) => if r_13 = (0 : Int32) then (some ((-2 : Int32), c_z, c_yes, c_no, c_yesThen, c_noThen, c_yesRound, c_yesRule, c_noRound, c_noRule, c_rounds, c_isMore)) else (ob11 (f_X6_marks c_z c_yes c_no c_yesThen c_noThen c_yesRound c_yesRule c_noRound c_noRule c_rounds c_isMore) (fun (r_29 : Int32) (c_yes_29 : Nat → Int32) (c_no_29 : Nat → Int32) (c_yesThen_29 : Nat → Int32) (c_noThen_29 : Nat → Int32) (c_yesRound_29 : Nat → Int32) (c_yesRule_29 : Nat → Int32) (c_noRound_29 : Nat → Int32) (c_noRule_29 : Nat → Int32) (c_rounds_29 : Int32) (c_isMore_29 : Int32) => lo14 (f_X6_bestQuestion_L37 v1 v2 r_29) FU (0 : Int32) (-6 : Int32) (0 : Int32) c_z c_yes_29 c_no_29 c_yesThen_29 c_noThen_29 c_yesRound_29 c_yesRule_29 c_noRound_29 c_noRule_29 c_rounds_29 c_isMore_29)))))
set_option maxHeartbeats 4000000 in
set_option maxRecDepth 100000 in
theorem c_X6_bestQuestion (l : Launch) (dC : Nat → ClassId) (dI : Nat → Nat → Nat) (ck : Nat → ClassId) (a0 a0_z a0_past a0_slots a0_isSaved a0_pad a0_yes a0_no a0_yesThen a0_noThen a0_yesRound a0_yesRule a0_noRound a0_noRule a0_orders : Nat) (c_z : Nat → Int32) (c_past : Nat → Int32) (c_slots : Nat → Int32) (c_isSaved : Nat → Int32) (c_pastMany : Int32) (c_pad : Nat → Int32) (c_typed : Int32) (c_yes : Nat → Int32) (c_no : Nat → Int32) (c_yesThen : Nat → Int32) (c_noThen : Nat → Int32) (c_yesRound : Nat → Int32) (c_yesRule : Nat → Int32) (c_noRound : Nat → Int32) (c_noRule : Nat → Int32) (c_rounds : Int32) (c_isMore : Int32) (c_orders : Nat → Int32) (c_orderMany : Int32) (c_spot : Int32) (c_bad : Int32) (v1 : Int32) (v2 : Int32) (o0 : Int32) (o1 : Nat → Int32) (o2 : Nat → Int32) (o3 : Nat → Int32) (o4 : Nat → Int32) (o5 : Nat → Int32) (o6 : Nat → Int32) (o7 : Nat → Int32) (o8 : Nat → Int32) (o9 : Nat → Int32) (o10 : Int32) (o11 : Int32) (h : f_X6_bestQuestion c_z c_yes c_no c_yesThen c_noThen c_yesRound c_yesRule c_noRound c_noRule c_rounds c_isMore v1 v2 = some (o0, o1, o2, o3, o4, o5, o6, o7, o8, o9, o10, o11)) : MI l yX6_bestQuestion wsX6_bestQuestion ({ frames := 9, cells := 0, slots := 0, locals := 214 }) [.ref a0, .int v1, .int v2] (dC, dI) ck (wX6 ck a0 a0_z a0_past a0_slots a0_isSaved a0_pad a0_yes a0_no a0_yesThen a0_noThen a0_yesRound a0_yesRule a0_noRound a0_noRule a0_orders c_z c_past c_slots c_isSaved c_pastMany c_pad c_typed c_yes c_no c_yesThen c_noThen c_yesRound c_yesRule c_noRound c_noRule c_rounds c_isMore c_orders c_orderMany c_spot c_bad) (wX6 ck a0 a0_z a0_past a0_slots a0_isSaved a0_pad a0_yes a0_no a0_yesThen a0_noThen a0_yesRound a0_yesRule a0_noRound a0_noRule a0_orders o1 c_past c_slots c_isSaved c_pastMany c_pad c_typed o2 o3 o4 o5 o6 o7 o8 o9 o10 o11 c_orders c_orderMany c_spot c_bad) o0 := by
  refine MI.ofW (cc := cX6_bestQuestion) (maxL := 8) (ret := (some .int)) (by decide +kernel) rfl (Nat.le_of_ble_eq_true rfl) ?_
  intro p e s m below meth c hx hb hr hml hts hown hlk hK hP A hA hD ls hl
  have hS : va_S A s.heap s.heap [] := va_S.rf
  have hown : s.vm.findClass RX6 = some m.cls := hown
  have hl : lv_has ls 8 [(0, .ref a0), (1, .int v1), (2, .int v2)] := hl
  unfold f_X6_bestQuestion at h
  refine lv_aload_n hx hb dX6_bestQuestion_0 rfl (lv_at hl 0 rfl) ?_
  refine lv_iload_n hx hb dX6_bestQuestion_1 rfl (lv_at hl 1 rfl) ?_
  obtain ⟨r_2, q_2, h⟩ := ob1_e h
  refine cRV (wc := wX6 ck a0 a0_z a0_past a0_slots a0_isSaved a0_pad a0_yes a0_no a0_yesThen a0_noThen a0_yesRound a0_yesRule a0_noRound a0_noRule a0_orders c_z c_past c_slots c_isSaved c_pastMany c_pad c_typed c_yes c_no c_yesThen c_noThen c_yesRound c_yesRule c_noRound c_noRule c_rounds c_isMore c_orders c_orderMany c_spot c_bad) ⟨hx, hb, hml, hown, hts⟩ hK hP [0, 1, 2, 3, 4, 5, 6, 7, 8, 9, 10, 11, 12, 13, 14] rfl (c_X6_isPlayer l dC dI ck a0 a0_z a0_past a0_slots a0_isSaved a0_pad a0_yes a0_no a0_yesThen a0_noThen a0_yesRound a0_yesRule a0_noRound a0_noRule a0_orders c_z c_past c_slots c_isSaved c_pastMany c_pad c_typed c_yes c_no c_yesThen c_noThen c_yesRound c_yesRule c_noRound c_noRule c_rounds c_isMore c_orders c_orderMany c_spot c_bad v1 r_2 q_2) (cwV 1 hts gX6_bestQuestion_X6_isPlayer rfl rfl rfl (by decide +kernel) ⟨Nat.le_of_ble_eq_true rfl, Nat.le_of_ble_eq_true rfl⟩) 0 rfl rfl rfl hl.1 rfl (Nat.le_of_ble_eq_true rfl) dX6_bestQuestion_2 ⟨Nat.zero_le _, Nat.zero_le _⟩ ?_
  refine lv_if_ne (tgt := 10) hx hb dX6_bestQuestion_5 (by decide) (fun c_5 => ?_) (fun c_5 => ?_)
  · have h := if_f h c_5
    refine lv_iload_n hx hb dX6_bestQuestion_10 rfl (lv_at hl 2 rfl) ?_
    refine lv_iconst (v := (0 : Int32)) hx hb dX6_bestQuestion_11 rfl ?_
    refine lv_iconst (v := (3 : Int32)) hx hb dX6_bestQuestion_12 rfl ?_
    obtain ⟨r_13, q_13, h⟩ := ob1_e h
    refine cRS (wc := []) ⟨hx, hb, hml, hown, hts⟩ hK hP [] rfl (c_X6_in l dC dI ck v2 (0 : Int32) (3 : Int32) r_13 q_13) (va_cwS 3 hts gX6_bestQuestion_X6_in rfl rfl rfl (by decide +kernel) ⟨Nat.le_of_ble_eq_true rfl, Nat.le_of_ble_eq_true rfl⟩) rfl hl.1 rfl (Nat.le_of_ble_eq_true rfl) dX6_bestQuestion_13 ⟨Nat.zero_le _, Nat.zero_le _⟩ ?_
    refine lv_if_ne (tgt := 22) hx hb dX6_bestQuestion_16 (by decide) (fun c_16 => ?_) (fun c_16 => ?_)
    · have h := if_f h c_16
      refine lv_iconst (v := (0 : Int32)) hx hb dX6_bestQuestion_22 rfl ?_
      refine lv_istore_n (lv' := [(3, .int (0 : Int32)), (0, .ref a0), (1, .int v1), (2, .int v2)]) hx hb dX6_bestQuestion_23 rfl hl (by decide) rfl (fun ls hl => ?_)
      refine lv_bipush (v := (-6 : Int32)) hx hb dX6_bestQuestion_24 rfl ?_
      refine lv_istore (lv' := [(4, .int (-6 : Int32)), (3, .int (0 : Int32)), (0, .ref a0), (1, .int v1), (2, .int v2)]) hx hb dX6_bestQuestion_26 hl (by decide) rfl (fun ls hl => ?_)
      refine lv_aload_n hx hb dX6_bestQuestion_28 rfl (lv_at hl 2 rfl) ?_
      obtain ⟨r_29, c_yes_29, c_no_29, c_yesThen_29, c_noThen_29, c_yesRound_29, c_yesRule_29, c_noRound_29, c_noRule_29, c_rounds_29, c_isMore_29, q_29, h⟩ := ob11_e h
      refine cMI (wc := wX6 ck a0 a0_z a0_past a0_slots a0_isSaved a0_pad a0_yes a0_no a0_yesThen a0_noThen a0_yesRound a0_yesRule a0_noRound a0_noRule a0_orders c_z c_past c_slots c_isSaved c_pastMany c_pad c_typed c_yes c_no c_yesThen c_noThen c_yesRound c_yesRule c_noRound c_noRule c_rounds c_isMore c_orders c_orderMany c_spot c_bad) (wr := []) (w1 := wX6 ck a0 a0_z a0_past a0_slots a0_isSaved a0_pad a0_yes a0_no a0_yesThen a0_noThen a0_yesRound a0_yesRule a0_noRound a0_noRule a0_orders c_z c_past c_slots c_isSaved c_pastMany c_pad c_typed c_yes_29 c_no_29 c_yesThen_29 c_noThen_29 c_yesRound_29 c_yesRule_29 c_noRound_29 c_noRule_29 c_rounds_29 c_isMore_29 c_orders c_orderMany c_spot c_bad) (wn := wX6 ck a0 a0_z a0_past a0_slots a0_isSaved a0_pad a0_yes a0_no a0_yesThen a0_noThen a0_yesRound a0_yesRule a0_noRound a0_noRule a0_orders c_z c_past c_slots c_isSaved c_pastMany c_pad c_typed c_yes_29 c_no_29 c_yesThen_29 c_noThen_29 c_yesRound_29 c_yesRule_29 c_noRound_29 c_noRule_29 c_rounds_29 c_isMore_29 c_orders c_orderMany c_spot c_bad) ⟨hx, hb, hml, hown, hts⟩ hK hP hD hS hA [0, 1, 2, 3, 4, 5, 6, 7, 8, 9, 10, 11, 12, 13, 14] [] [0, 1, 2, 3, 4, 5, 6, 7, 8, 9, 10, 11, 12, 13, 14] rfl (by decide) rfl (by decide) (by decide) rfl (by decide) (c_X6_marks l dC dI ck a0 a0_z a0_past a0_slots a0_isSaved a0_pad a0_yes a0_no a0_yesThen a0_noThen a0_yesRound a0_yesRule a0_noRound a0_noRule a0_orders c_z c_past c_slots c_isSaved c_pastMany c_pad c_typed c_yes c_no c_yesThen c_noThen c_yesRound c_yesRule c_noRound c_noRule c_rounds c_isMore c_orders c_orderMany c_spot c_bad r_29 c_yes_29 c_no_29 c_yesThen_29 c_noThen_29 c_yesRound_29 c_yesRule_29 c_noRound_29 c_noRule_29 c_rounds_29 c_isMore_29 q_29) (cwV 0 hts gX6_bestQuestion_X6_marks rfl rfl rfl (by decide +kernel) ⟨Nat.le_of_ble_eq_true rfl, Nat.le_of_ble_eq_true rfl⟩) 0 rfl rfl rfl hl.1 rfl (Nat.le_of_ble_eq_true rfl) dX6_bestQuestion_29 ⟨Nat.zero_le _, Nat.zero_le _⟩ (fun H locs hP hD hS => ?_)
      refine lv_istore (lv' := [(5, .int r_29), (4, .int (-6 : Int32)), (3, .int (0 : Int32)), (0, .ref a0), (1, .int v1), (2, .int v2)]) hx hb dX6_bestQuestion_32 hl (by decide) rfl (fun ls hl => ?_)
      refine lv_iconst (v := (0 : Int32)) hx hb dX6_bestQuestion_34 rfl ?_
      refine lv_istore (lv' := [(6, .int (0 : Int32)), (5, .int r_29), (4, .int (-6 : Int32)), (3, .int (0 : Int32)), (0, .ref a0), (1, .int v1), (2, .int v2)]) hx hb dX6_bestQuestion_35 hl (by decide) rfl (fun ls hl => ?_)
      have hL37 : ∀ (n37 : Nat) (v3_L37 : Int32) (v4_L37 : Int32) (v6_L37 : Int32) (c_z_L37 : Nat → Int32) (c_yes_L37 : Nat → Int32) (c_no_L37 : Nat → Int32) (c_yesThen_L37 : Nat → Int32) (c_noThen_L37 : Nat → Int32) (c_yesRound_L37 : Nat → Int32) (c_yesRule_L37 : Nat → Int32) (c_noRound_L37 : Nat → Int32) (c_noRule_L37 : Nat → Int32) (c_rounds_L37 : Int32) (c_isMore_L37 : Int32), lo14 (f_X6_bestQuestion_L37 v1 v2 r_29) n37 v3_L37 v4_L37 v6_L37 c_z_L37 c_yes_L37 c_no_L37 c_yesThen_L37 c_noThen_L37 c_yesRound_L37 c_yesRule_L37 c_noRound_L37 c_noRule_L37 c_rounds_L37 c_isMore_L37 = some (o0, o1, o2, o3, o4, o5, o6, o7, o8, o9, o10, o11) → ∀ (H : Heap) (locs : List Loc), va_P (dC, dI) vwCl (wX6 ck a0 a0_z a0_past a0_slots a0_isSaved a0_pad a0_yes a0_no a0_yesThen a0_noThen a0_yesRound a0_yesRule a0_noRound a0_noRule a0_orders c_z_L37 c_past c_slots c_isSaved c_pastMany c_pad c_typed c_yes_L37 c_no_L37 c_yesThen_L37 c_noThen_L37 c_yesRound_L37 c_yesRule_L37 c_noRound_L37 c_noRule_L37 c_rounds_L37 c_isMore_L37 c_orders c_orderMany c_spot c_bad) H → va_D A (wX6 ck a0 a0_z a0_past a0_slots a0_isSaved a0_pad a0_yes a0_no a0_yesThen a0_noThen a0_yesRound a0_yesRule a0_noRound a0_noRule a0_orders c_z_L37 c_past c_slots c_isSaved c_pastMany c_pad c_typed c_yes_L37 c_no_L37 c_yesThen_L37 c_noThen_L37 c_yesRound_L37 c_yesRule_L37 c_noRound_L37 c_noRule_L37 c_rounds_L37 c_isMore_L37 c_orders c_orderMany c_spot c_bad) → va_S A s.heap H locs → ∀ ls : Array Slot, lv_has ls 8 [(6, .int v6_L37), (5, .int r_29), (4, .int v4_L37), (3, .int v3_L37), (0, .ref a0), (1, .int v1), (2, .int v2)] → W p l e (headSpec wsX6_bestQuestion ({ frames := 9, cells := 0, slots := 0, locals := 214 })).room s m [.ref a0, .int v1, .int v2].toArray below meth c H locs 0 0 (MQ below (QI (dC, dI) (wX6 ck a0 a0_z a0_past a0_slots a0_isSaved a0_pad a0_yes a0_no a0_yesThen a0_noThen a0_yesRound a0_yesRule a0_noRound a0_noRule a0_orders o1 c_past c_slots c_isSaved c_pastMany c_pad c_typed o2 o3 o4 o5 o6 o7 o8 o9 o10 o11 c_orders c_orderMany c_spot c_bad) o0 A) [.ref a0, .int v1, .int v2].toArray s 0 0 A) (F0 m 37 ls []) := by
        intro n37
        induction n37 with
        | zero => intro v3_L37 v4_L37 v6_L37 c_z_L37 c_yes_L37 c_no_L37 c_yesThen_L37 c_noThen_L37 c_yesRound_L37 c_yesRule_L37 c_noRound_L37 c_noRule_L37 c_rounds_L37 c_isMore_L37 h; exact lo14_z h
        | succ n37 ih37 =>
          intro v3_L37 v4_L37 v6_L37 c_z_L37 c_yes_L37 c_no_L37 c_yesThen_L37 c_noThen_L37 c_yesRound_L37 c_yesRule_L37 c_noRound_L37 c_noRule_L37 c_rounds_L37 c_isMore_L37 h H locs hP hD hS ls hl
          have h := lo14_s h
          unfold f_X6_bestQuestion_L37 at h
          refine lv_iload hx hb dX6_bestQuestion_37 (lv_at hl 0 rfl) ?_
          refine lv_sipush (v := (216 : Int32)) hx hb dX6_bestQuestion_39 rfl ?_
          refine lv_icmp_ge (tgt := 108) hx hb dX6_bestQuestion_42 (by decide) (fun c_42 => ?_) (fun c_42 => ?_)
          · have h := if_t h c_42
            refine lv_iload_n hx hb dX6_bestQuestion_108 rfl (lv_at hl 6 rfl) ?_
            refine lv_if_ne (tgt := 119) hx hb dX6_bestQuestion_109 (by decide) (fun c_109 => ?_) (fun c_109 => ?_)
            · have h := if_f h c_109
              refine lv_iload_n hx hb dX6_bestQuestion_119 rfl (lv_at hl 6 rfl) ?_
              refine lv_iconst (v := (1 : Int32)) hx hb dX6_bestQuestion_120 rfl ?_
              refine lv_icmp_ne (tgt := 134) hx hb dX6_bestQuestion_121 (by decide) (fun c_121 => ?_) (fun c_121 => ?_)
              · have h := if_f h c_121
                refine lv_iload_n hx hb dX6_bestQuestion_134 rfl (lv_at hl 6 rfl) ?_
                refine lv_iconst (v := (2 : Int32)) hx hb dX6_bestQuestion_135 rfl ?_
                refine lv_icmp_ne (tgt := 146) hx hb dX6_bestQuestion_136 (by decide) (fun c_136 => ?_) (fun c_136 => ?_)
                · have h := if_f h c_136
                  refine lv_iload hx hb dX6_bestQuestion_146 (lv_at hl 2 rfl) ?_
                  cases h
                  exact eMi hx hb hr hlk hP hD hS rfl dX6_bestQuestion_148
                · have h := if_t h c_136
                  refine lv_iload_n hx hb dX6_bestQuestion_139 rfl (lv_at hl 3 rfl) ?_
                  refine lv_bipush (v := (6 : Int32)) hx hb dX6_bestQuestion_140 rfl ?_
                  refine lv_irem hx hb dX6_bestQuestion_142 (by decide) ?_
                  refine lv_goto (tgt := 148) hx hb dX6_bestQuestion_143 (by decide) ?_
                  cases h
                  exact eMi hx hb hr hlk hP hD hS rfl dX6_bestQuestion_148
              · have h := if_t h c_121
                refine lv_iload_n hx hb dX6_bestQuestion_124 rfl (lv_at hl 3 rfl) ?_
                refine lv_bipush (v := (6 : Int32)) hx hb dX6_bestQuestion_125 rfl ?_
                refine lv_idiv hx hb dX6_bestQuestion_127 (by decide) ?_
                refine lv_bipush (v := (6 : Int32)) hx hb dX6_bestQuestion_128 rfl ?_
                refine lv_irem hx hb dX6_bestQuestion_130 (by decide) ?_
                refine lv_goto (tgt := 148) hx hb dX6_bestQuestion_131 (by decide) ?_
                cases h
                exact eMi hx hb hr hlk hP hD hS rfl dX6_bestQuestion_148
            · have h := if_t h c_109
              refine lv_iload_n hx hb dX6_bestQuestion_112 rfl (lv_at hl 3 rfl) ?_
              refine lv_bipush (v := (36 : Int32)) hx hb dX6_bestQuestion_113 rfl ?_
              refine lv_idiv hx hb dX6_bestQuestion_115 (by decide) ?_
              refine lv_goto (tgt := 148) hx hb dX6_bestQuestion_116 (by decide) ?_
              cases h
              exact eMi hx hb hr hlk hP hD hS rfl dX6_bestQuestion_148
          · have h := if_f h c_42
            refine lv_aload_n hx hb dX6_bestQuestion_45 rfl (lv_at hl 4 rfl) ?_
            refine lv_iload hx hb dX6_bestQuestion_46 (lv_at hl 1 rfl) ?_
            refine lv_iload_n hx hb dX6_bestQuestion_48 rfl (lv_at hl 5 rfl) ?_
            refine lv_iload hx hb dX6_bestQuestion_49 (lv_at hl 0 rfl) ?_
            refine lv_bipush (v := (36 : Int32)) hx hb dX6_bestQuestion_51 rfl ?_
            refine lv_idiv hx hb dX6_bestQuestion_53 (by decide) ?_
            refine lv_iload hx hb dX6_bestQuestion_54 (lv_at hl 0 rfl) ?_
            refine lv_bipush (v := (6 : Int32)) hx hb dX6_bestQuestion_56 rfl ?_
            refine lv_idiv hx hb dX6_bestQuestion_58 (by decide) ?_
            refine lv_bipush (v := (6 : Int32)) hx hb dX6_bestQuestion_59 rfl ?_
            refine lv_irem hx hb dX6_bestQuestion_61 (by decide) ?_
            refine lv_iload hx hb dX6_bestQuestion_62 (lv_at hl 0 rfl) ?_
            refine lv_bipush (v := (6 : Int32)) hx hb dX6_bestQuestion_64 rfl ?_
            refine lv_irem hx hb dX6_bestQuestion_66 (by decide) ?_
            obtain ⟨r_67, c_z_67, c_yes_67, c_no_67, c_yesThen_67, c_noThen_67, c_yesRound_67, c_yesRule_67, c_noRound_67, c_noRule_67, c_rounds_67, c_isMore_67, q_67, h⟩ := ob12_e h
            refine cMI (wc := wX6 ck a0 a0_z a0_past a0_slots a0_isSaved a0_pad a0_yes a0_no a0_yesThen a0_noThen a0_yesRound a0_yesRule a0_noRound a0_noRule a0_orders c_z_L37 c_past c_slots c_isSaved c_pastMany c_pad c_typed c_yes_L37 c_no_L37 c_yesThen_L37 c_noThen_L37 c_yesRound_L37 c_yesRule_L37 c_noRound_L37 c_noRule_L37 c_rounds_L37 c_isMore_L37 c_orders c_orderMany c_spot c_bad) (wr := []) (w1 := wX6 ck a0 a0_z a0_past a0_slots a0_isSaved a0_pad a0_yes a0_no a0_yesThen a0_noThen a0_yesRound a0_yesRule a0_noRound a0_noRule a0_orders c_z_67 c_past c_slots c_isSaved c_pastMany c_pad c_typed c_yes_67 c_no_67 c_yesThen_67 c_noThen_67 c_yesRound_67 c_yesRule_67 c_noRound_67 c_noRule_67 c_rounds_67 c_isMore_67 c_orders c_orderMany c_spot c_bad) (wn := wX6 ck a0 a0_z a0_past a0_slots a0_isSaved a0_pad a0_yes a0_no a0_yesThen a0_noThen a0_yesRound a0_yesRule a0_noRound a0_noRule a0_orders c_z_67 c_past c_slots c_isSaved c_pastMany c_pad c_typed c_yes_67 c_no_67 c_yesThen_67 c_noThen_67 c_yesRound_67 c_yesRule_67 c_noRound_67 c_noRule_67 c_rounds_67 c_isMore_67 c_orders c_orderMany c_spot c_bad) ⟨hx, hb, hml, hown, hts⟩ hK hP hD hS hA [0, 1, 2, 3, 4, 5, 6, 7, 8, 9, 10, 11, 12, 13, 14] [] [0, 1, 2, 3, 4, 5, 6, 7, 8, 9, 10, 11, 12, 13, 14] rfl (by decide) rfl (by decide) (by decide) rfl (by decide) (c_X6_lesserGain l dC dI ck a0 a0_z a0_past a0_slots a0_isSaved a0_pad a0_yes a0_no a0_yesThen a0_noThen a0_yesRound a0_yesRule a0_noRound a0_noRule a0_orders c_z_L37 c_past c_slots c_isSaved c_pastMany c_pad c_typed c_yes_L37 c_no_L37 c_yesThen_L37 c_noThen_L37 c_yesRound_L37 c_yesRule_L37 c_noRound_L37 c_noRule_L37 c_rounds_L37 c_isMore_L37 c_orders c_orderMany c_spot c_bad r_29 v1 (v6_L37 / (36 : Int32)) ((v6_L37 / (6 : Int32)) - (v6_L37 / (6 : Int32)) / (6 : Int32) * (6 : Int32)) (v6_L37 - v6_L37 / (6 : Int32) * (6 : Int32)) r_67 c_z_67 c_yes_67 c_no_67 c_yesThen_67 c_noThen_67 c_yesRound_67 c_yesRule_67 c_noRound_67 c_noRule_67 c_rounds_67 c_isMore_67 q_67) (cwV 5 hts gX6_bestQuestion_X6_lesserGain rfl rfl rfl (by decide +kernel) ⟨Nat.le_of_ble_eq_true rfl, Nat.le_of_ble_eq_true rfl⟩) 0 rfl rfl rfl hl.1 rfl (Nat.le_of_ble_eq_true rfl) dX6_bestQuestion_67 ⟨Nat.zero_le _, Nat.zero_le _⟩ (fun H locs hP hD hS => ?_)
            refine lv_istore (lv' := [(7, .int r_67), (6, .int v6_L37), (5, .int r_29), (4, .int v4_L37), (3, .int v3_L37), (0, .ref a0), (1, .int v1), (2, .int v2)]) hx hb dX6_bestQuestion_70 hl (by decide) rfl (fun ls hl => ?_)
            refine lv_iload hx hb dX6_bestQuestion_72 (lv_at hl 0 rfl) ?_
            refine lv_iload hx hb dX6_bestQuestion_74 (lv_at hl 3 rfl) ?_
            refine lv_icmp_le (tgt := 84) hx hb dX6_bestQuestion_76 (by decide) (fun c_76 => ?_) (fun c_76 => ?_)
            · have h := if_t h c_76
              refine lv_iload_n hx hb dX6_bestQuestion_84 rfl (lv_at hl 4 rfl) ?_
              refine lv_istore_n (lv' := [(3, .int v3_L37), (7, .int r_67), (6, .int v6_L37), (5, .int r_29), (4, .int v4_L37), (0, .ref a0), (1, .int v1), (2, .int v2)]) hx hb dX6_bestQuestion_85 rfl hl (by decide) rfl (fun ls hl => ?_)
              refine lv_iload hx hb dX6_bestQuestion_86 (lv_at hl 1 rfl) ?_
              refine lv_iload hx hb dX6_bestQuestion_88 (lv_at hl 4 rfl) ?_
              refine lv_icmp_le (tgt := 98) hx hb dX6_bestQuestion_90 (by decide) (fun c_90 => ?_) (fun c_90 => ?_)
              · have h := if_t h c_90
                refine lv_iload hx hb dX6_bestQuestion_98 (lv_at hl 4 rfl) ?_
                refine lv_istore (lv' := [(4, .int v4_L37), (3, .int v3_L37), (7, .int r_67), (6, .int v6_L37), (5, .int r_29), (0, .ref a0), (1, .int v1), (2, .int v2)]) hx hb dX6_bestQuestion_100 hl (by decide) rfl (fun ls hl => ?_)
                refine lv_iinc (v := (v6_L37 + (1 : Int32))) (lv' := [(6, .int (v6_L37 + (1 : Int32))), (4, .int v4_L37), (3, .int v3_L37), (7, .int r_67), (5, .int r_29), (0, .ref a0), (1, .int v1), (2, .int v2)]) hx hb dX6_bestQuestion_102 hl (k := 3) rfl rfl (by decide) rfl (fun ls hl => ?_)
                refine lv_goto (tgt := 37) hx hb dX6_bestQuestion_105 (by decide) ?_
                exact ih37 _ _ _ _ _ _ _ _ _ _ _ _ _ _ h _ _ hP hD hS _ (lv_sub hl [0, 4, 1, 2, 5, 6, 7] rfl)
              · have h := if_f h c_90
                refine lv_iload hx hb dX6_bestQuestion_93 (lv_at hl 1 rfl) ?_
                refine lv_goto (tgt := 100) hx hb dX6_bestQuestion_95 (by decide) ?_
                refine lv_istore (lv' := [(4, .int r_67), (3, .int v3_L37), (7, .int r_67), (6, .int v6_L37), (5, .int r_29), (0, .ref a0), (1, .int v1), (2, .int v2)]) hx hb dX6_bestQuestion_100 hl (by decide) rfl (fun ls hl => ?_)
                refine lv_iinc (v := (v6_L37 + (1 : Int32))) (lv' := [(6, .int (v6_L37 + (1 : Int32))), (4, .int r_67), (3, .int v3_L37), (7, .int r_67), (5, .int r_29), (0, .ref a0), (1, .int v1), (2, .int v2)]) hx hb dX6_bestQuestion_102 hl (k := 3) rfl rfl (by decide) rfl (fun ls hl => ?_)
                refine lv_goto (tgt := 37) hx hb dX6_bestQuestion_105 (by decide) ?_
                exact ih37 _ _ _ _ _ _ _ _ _ _ _ _ _ _ h _ _ hP hD hS _ (lv_sub hl [0, 4, 1, 2, 5, 6, 7] rfl)
            · have h := if_f h c_76
              refine lv_iload hx hb dX6_bestQuestion_79 (lv_at hl 1 rfl) ?_
              refine lv_goto (tgt := 85) hx hb dX6_bestQuestion_81 (by decide) ?_
              refine lv_istore_n (lv' := [(3, .int v6_L37), (7, .int r_67), (6, .int v6_L37), (5, .int r_29), (4, .int v4_L37), (0, .ref a0), (1, .int v1), (2, .int v2)]) hx hb dX6_bestQuestion_85 rfl hl (by decide) rfl (fun ls hl => ?_)
              refine lv_iload hx hb dX6_bestQuestion_86 (lv_at hl 1 rfl) ?_
              refine lv_iload hx hb dX6_bestQuestion_88 (lv_at hl 4 rfl) ?_
              refine lv_icmp_le (tgt := 98) hx hb dX6_bestQuestion_90 (by decide) (fun c_90 => ?_) (fun c_90 => ?_)
              · have h := if_t h c_90
                refine lv_iload hx hb dX6_bestQuestion_98 (lv_at hl 4 rfl) ?_
                refine lv_istore (lv' := [(4, .int v4_L37), (3, .int v6_L37), (7, .int r_67), (6, .int v6_L37), (5, .int r_29), (0, .ref a0), (1, .int v1), (2, .int v2)]) hx hb dX6_bestQuestion_100 hl (by decide) rfl (fun ls hl => ?_)
                refine lv_iinc (v := (v6_L37 + (1 : Int32))) (lv' := [(6, .int (v6_L37 + (1 : Int32))), (4, .int v4_L37), (3, .int v6_L37), (7, .int r_67), (5, .int r_29), (0, .ref a0), (1, .int v1), (2, .int v2)]) hx hb dX6_bestQuestion_102 hl (k := 3) rfl rfl (by decide) rfl (fun ls hl => ?_)
                refine lv_goto (tgt := 37) hx hb dX6_bestQuestion_105 (by decide) ?_
                exact ih37 _ _ _ _ _ _ _ _ _ _ _ _ _ _ h _ _ hP hD hS _ (lv_sub hl [0, 4, 1, 2, 5, 6, 7] rfl)
              · have h := if_f h c_90
                refine lv_iload hx hb dX6_bestQuestion_93 (lv_at hl 1 rfl) ?_
                refine lv_goto (tgt := 100) hx hb dX6_bestQuestion_95 (by decide) ?_
                refine lv_istore (lv' := [(4, .int r_67), (3, .int v6_L37), (7, .int r_67), (6, .int v6_L37), (5, .int r_29), (0, .ref a0), (1, .int v1), (2, .int v2)]) hx hb dX6_bestQuestion_100 hl (by decide) rfl (fun ls hl => ?_)
                refine lv_iinc (v := (v6_L37 + (1 : Int32))) (lv' := [(6, .int (v6_L37 + (1 : Int32))), (4, .int r_67), (3, .int v6_L37), (7, .int r_67), (5, .int r_29), (0, .ref a0), (1, .int v1), (2, .int v2)]) hx hb dX6_bestQuestion_102 hl (k := 3) rfl rfl (by decide) rfl (fun ls hl => ?_)
                refine lv_goto (tgt := 37) hx hb dX6_bestQuestion_105 (by decide) ?_
                exact ih37 _ _ _ _ _ _ _ _ _ _ _ _ _ _ h _ _ hP hD hS _ (lv_sub hl [0, 4, 1, 2, 5, 6, 7] rfl)
      exact hL37 _ _ _ _ _ _ _ _ _ _ _ _ _ _ _ h _ _ hP hD hS _ (lv_sub hl [0, 1, 2, 3, 4, 5, 6] rfl)
    · have h := if_t h c_16
      refine lv_bipush (v := (-2 : Int32)) hx hb dX6_bestQuestion_19 rfl ?_
      cases h
      exact eMi hx hb hr hlk hP hD hS rfl dX6_bestQuestion_21
  · have h := if_t h c_5
    refine lv_iconst (v := (-1 : Int32)) hx hb dX6_bestQuestion_8 rfl ?_
    cases h
    exact eMi hx hb hr hlk hP hD hS rfl dX6_bestQuestion_9
