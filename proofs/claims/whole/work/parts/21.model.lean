noncomputable def f_X6_in (v0 : Int32) (v1 : Int32) (v2 : Int32) : Option (Int32) :=
  if v0 < v1 then (some (0 : Int32)) else (if v2 < v0 then (some (0 : Int32)) else (some (1 : Int32)))
set_option maxHeartbeats 4000000 in
set_option maxRecDepth 100000 in
theorem c_X6_in (l : Launch) (dC : Nat → ClassId) (dI : Nat → Nat → Nat) (ck : Nat → ClassId) (v0 : Int32) (v1 : Int32) (v2 : Int32) (o0 : Int32) (h : f_X6_in v0 v1 v2 = some o0) : RD l yX6_in wsX6_in ({ frames := 0, cells := 0, slots := 0, locals := 0 }) [.int v0, .int v1, .int v2] (dC, dI) ck ([]) o0 := by
  refine RD.ofW (cc := cX6_in) (maxL := 3) (ret := (some .boolean)) (by decide +kernel) rfl (Nat.le_of_ble_eq_true rfl) ?_
  intro p e s m below meth c hx hb hr hml hts hown hlk hK hP ls hl
  have hown : s.vm.findClass RX6 = some m.cls := hown
  have hl : lv_has ls 3 [(0, .int v0), (1, .int v1), (2, .int v2)] := hl
  unfold f_X6_in at h
  refine lv_iload_n hx hb dX6_in_0 rfl (lv_at hl 0 rfl) ?_
  refine lv_iload_n hx hb dX6_in_1 rfl (lv_at hl 1 rfl) ?_
  refine lv_icmp_lt (tgt := 14) hx hb dX6_in_2 (by decide) (fun c_2 => ?_) (fun c_2 => ?_)
  · have h := if_t h c_2
    refine lv_iconst (v := (0 : Int32)) hx hb dX6_in_14 rfl ?_
    cases h
    exact eRz hx hb hr hlk rfl rfl dX6_in_15
  · have h := if_f h c_2
    refine lv_iload_n hx hb dX6_in_5 rfl (lv_at hl 0 rfl) ?_
    refine lv_iload_n hx hb dX6_in_6 rfl (lv_at hl 2 rfl) ?_
    refine lv_icmp_gt (tgt := 14) hx hb dX6_in_7 (by decide) (fun c_7 => ?_) (fun c_7 => ?_)
    · have h := if_t h c_7
      refine lv_iconst (v := (0 : Int32)) hx hb dX6_in_14 rfl ?_
      cases h
      exact eRz hx hb hr hlk rfl rfl dX6_in_15
    · have h := if_f h c_7
      refine lv_iconst (v := (1 : Int32)) hx hb dX6_in_10 rfl ?_
      refine lv_goto (tgt := 15) hx hb dX6_in_11 (by decide) ?_
      cases h
      exact eRz hx hb hr hlk rfl rfl dX6_in_15
noncomputable def f_X6_isPlayer (c_z : Nat → Int32) (v1 : Int32) : Option (Int32) :=
  if v1 < (0 : Int32) then (some (0 : Int32)) else (gd (0 : Int32) 207 (if (c_z (0 : Int32).toNatClampNeg) ≤ v1 then (some (0 : Int32)) else (some (1 : Int32))))
set_option maxHeartbeats 4000000 in
set_option maxRecDepth 100000 in
theorem c_X6_isPlayer (l : Launch) (dC : Nat → ClassId) (dI : Nat → Nat → Nat) (ck : Nat → ClassId) (a0 a0_z a0_past a0_slots a0_isSaved a0_pad a0_yes a0_no a0_yesThen a0_noThen a0_yesRound a0_yesRule a0_noRound a0_noRule a0_orders : Nat) (c_z : Nat → Int32) (c_past : Nat → Int32) (c_slots : Nat → Int32) (c_isSaved : Nat → Int32) (c_pastMany : Int32) (c_pad : Nat → Int32) (c_typed : Int32) (c_yes : Nat → Int32) (c_no : Nat → Int32) (c_yesThen : Nat → Int32) (c_noThen : Nat → Int32) (c_yesRound : Nat → Int32) (c_yesRule : Nat → Int32) (c_noRound : Nat → Int32) (c_noRule : Nat → Int32) (c_rounds : Int32) (c_isMore : Int32) (c_orders : Nat → Int32) (c_orderMany : Int32) (c_spot : Int32) (c_bad : Int32) (v1 : Int32) (o0 : Int32) (h : f_X6_isPlayer c_z v1 = some o0) : RD l yX6_isPlayer wsX6_isPlayer ({ frames := 0, cells := 0, slots := 0, locals := 0 }) [.ref a0, .int v1] (dC, dI) ck (wX6 ck a0 a0_z a0_past a0_slots a0_isSaved a0_pad a0_yes a0_no a0_yesThen a0_noThen a0_yesRound a0_yesRule a0_noRound a0_noRule a0_orders c_z c_past c_slots c_isSaved c_pastMany c_pad c_typed c_yes c_no c_yesThen c_noThen c_yesRound c_yesRule c_noRound c_noRule c_rounds c_isMore c_orders c_orderMany c_spot c_bad) o0 := by
  refine RD.ofW (cc := cX6_isPlayer) (maxL := 2) (ret := (some .boolean)) (by decide +kernel) rfl (Nat.le_of_ble_eq_true rfl) ?_
  intro p e s m below meth c hx hb hr hml hts hown hlk hK hP ls hl
  have hown : s.vm.findClass RX6 = some m.cls := hown
  have hl : lv_has ls 2 [(0, .ref a0), (1, .int v1)] := hl
  have iu_X6 : ∀ w ∈ u_ws RX6 TX6 21, w ∈ wsX6_isPlayer := fun w h => List.mem_cons_of_mem _ (List.mem_append_right _ h)
  unfold f_X6_isPlayer at h
  refine lv_iload_n hx hb dX6_isPlayer_0 rfl (lv_at hl 1 rfl) ?_
  refine lv_if_lt (tgt := 18) hx hb dX6_isPlayer_1 (by decide) (fun c_1 => ?_) (fun c_1 => ?_)
  · have h := if_t h c_1
    refine lv_iconst (v := (0 : Int32)) hx hb dX6_isPlayer_18 rfl ?_
    cases h
    exact eRz hx hb hr hlk rfl rfl dX6_isPlayer_19
  · have h := if_f h c_1
    refine lv_iload_n hx hb dX6_isPlayer_4 rfl (lv_at hl 1 rfl) ?_
    refine lv_aload_n hx hb dX6_isPlayer_5 rfl (lv_at hl 0 rfl) ?_
    refine va_get (ci := 6) (v := .ref a0_z) (C := RX6) (T := TX6) (N := 21) hx hb hts iu_X6 hown hK.1 hP 0 rfl rfl 0 (by decide) (hts (.fieldLink RX6 7 "SheetMarksModel" "z" "[I") (List.mem_of_getElem? (i := 1) rfl)) (fun _ h9 => h9) rfl dX6_isPlayer_6 ?_
    refine lv_iconst (v := (0 : Int32)) hx hb dX6_isPlayer_9 rfl ?_
    obtain ⟨g_10, h⟩ := gd_e h
    refine va_iald hx hb hK.1 hP 1 0 rfl rfl g_10 dX6_isPlayer_10 ?_
    refine lv_icmp_ge (tgt := 18) hx hb dX6_isPlayer_11 (by decide) (fun c_11 => ?_) (fun c_11 => ?_)
    · have h := if_t h c_11
      refine lv_iconst (v := (0 : Int32)) hx hb dX6_isPlayer_18 rfl ?_
      cases h
      exact eRz hx hb hr hlk rfl rfl dX6_isPlayer_19
    · have h := if_f h c_11
      refine lv_iconst (v := (1 : Int32)) hx hb dX6_isPlayer_14 rfl ?_
      refine lv_goto (tgt := 19) hx hb dX6_isPlayer_15 (by decide) ?_
      cases h
      exact eRz hx hb hr hlk rfl rfl dX6_isPlayer_19
noncomputable def f_X6_isOwner (c_z : Nat → Int32) (v1 : Int32) : Option (Int32) :=
  ob1 (f_X6_isPlayer c_z v1) (fun (r_2 : Int32) => if r_2 = (0 : Int32) then (if v1 = (5 : Int32) then (some (1 : Int32)) else (some (0 : Int32))) else (some (1 : Int32)))
set_option maxHeartbeats 4000000 in
set_option maxRecDepth 100000 in
theorem c_X6_isOwner (l : Launch) (dC : Nat → ClassId) (dI : Nat → Nat → Nat) (ck : Nat → ClassId) (a0 a0_z a0_past a0_slots a0_isSaved a0_pad a0_yes a0_no a0_yesThen a0_noThen a0_yesRound a0_yesRule a0_noRound a0_noRule a0_orders : Nat) (c_z : Nat → Int32) (c_past : Nat → Int32) (c_slots : Nat → Int32) (c_isSaved : Nat → Int32) (c_pastMany : Int32) (c_pad : Nat → Int32) (c_typed : Int32) (c_yes : Nat → Int32) (c_no : Nat → Int32) (c_yesThen : Nat → Int32) (c_noThen : Nat → Int32) (c_yesRound : Nat → Int32) (c_yesRule : Nat → Int32) (c_noRound : Nat → Int32) (c_noRule : Nat → Int32) (c_rounds : Int32) (c_isMore : Int32) (c_orders : Nat → Int32) (c_orderMany : Int32) (c_spot : Int32) (c_bad : Int32) (v1 : Int32) (o0 : Int32) (h : f_X6_isOwner c_z v1 = some o0) : RD l yX6_isOwner wsX6_isOwner ({ frames := 1, cells := 0, slots := 0, locals := 21 }) [.ref a0, .int v1] (dC, dI) ck (wX6 ck a0 a0_z a0_past a0_slots a0_isSaved a0_pad a0_yes a0_no a0_yesThen a0_noThen a0_yesRound a0_yesRule a0_noRound a0_noRule a0_orders c_z c_past c_slots c_isSaved c_pastMany c_pad c_typed c_yes c_no c_yesThen c_noThen c_yesRound c_yesRule c_noRound c_noRule c_rounds c_isMore c_orders c_orderMany c_spot c_bad) o0 := by
  refine RD.ofW (cc := cX6_isOwner) (maxL := 2) (ret := (some .boolean)) (by decide +kernel) rfl (Nat.le_of_ble_eq_true rfl) ?_
  intro p e s m below meth c hx hb hr hml hts hown hlk hK hP ls hl
  have hown : s.vm.findClass RX6 = some m.cls := hown
  have hl : lv_has ls 2 [(0, .ref a0), (1, .int v1)] := hl
  unfold f_X6_isOwner at h
  refine lv_aload_n hx hb dX6_isOwner_0 rfl (lv_at hl 0 rfl) ?_
  refine lv_iload_n hx hb dX6_isOwner_1 rfl (lv_at hl 1 rfl) ?_
  obtain ⟨r_2, q_2, h⟩ := ob1_e h
  refine cRV (wc := wX6 ck a0 a0_z a0_past a0_slots a0_isSaved a0_pad a0_yes a0_no a0_yesThen a0_noThen a0_yesRound a0_yesRule a0_noRound a0_noRule a0_orders c_z c_past c_slots c_isSaved c_pastMany c_pad c_typed c_yes c_no c_yesThen c_noThen c_yesRound c_yesRule c_noRound c_noRule c_rounds c_isMore c_orders c_orderMany c_spot c_bad) ⟨hx, hb, hml, hown, hts⟩ hK hP [0, 1, 2, 3, 4, 5, 6, 7, 8, 9, 10, 11, 12, 13, 14] rfl (c_X6_isPlayer l dC dI ck a0 a0_z a0_past a0_slots a0_isSaved a0_pad a0_yes a0_no a0_yesThen a0_noThen a0_yesRound a0_yesRule a0_noRound a0_noRule a0_orders c_z c_past c_slots c_isSaved c_pastMany c_pad c_typed c_yes c_no c_yesThen c_noThen c_yesRound c_yesRule c_noRound c_noRule c_rounds c_isMore c_orders c_orderMany c_spot c_bad v1 r_2 q_2) (cwV 1 hts gX6_isOwner_X6_isPlayer rfl rfl rfl (by decide +kernel) ⟨Nat.le_of_ble_eq_true rfl, Nat.le_of_ble_eq_true rfl⟩) 0 rfl rfl rfl hl.1 rfl (Nat.le_of_ble_eq_true rfl) dX6_isOwner_2 ⟨Nat.zero_le _, Nat.zero_le _⟩ ?_
  refine lv_if_ne (tgt := 13) hx hb dX6_isOwner_5 (by decide) (fun c_5 => ?_) (fun c_5 => ?_)
  · have h := if_f h c_5
    refine lv_iconst (v := (1 : Int32)) hx hb dX6_isOwner_13 rfl ?_
    refine lv_goto (tgt := 18) hx hb dX6_isOwner_14 (by decide) ?_
    cases h
    exact eRz hx hb hr hlk rfl rfl dX6_isOwner_18
  · have h := if_t h c_5
    refine lv_iload_n hx hb dX6_isOwner_8 rfl (lv_at hl 1 rfl) ?_
    refine lv_iconst (v := (5 : Int32)) hx hb dX6_isOwner_9 rfl ?_
    refine lv_icmp_ne (tgt := 17) hx hb dX6_isOwner_10 (by decide) (fun c_10 => ?_) (fun c_10 => ?_)
    · have h := if_f h c_10
      refine lv_iconst (v := (0 : Int32)) hx hb dX6_isOwner_17 rfl ?_
      cases h
      exact eRz hx hb hr hlk rfl rfl dX6_isOwner_18
    · have h := if_t h c_10
      refine lv_iconst (v := (1 : Int32)) hx hb dX6_isOwner_13 rfl ?_
      refine lv_goto (tgt := 18) hx hb dX6_isOwner_14 (by decide) ?_
      cases h
      exact eRz hx hb hr hlk rfl rfl dX6_isOwner_18
noncomputable def f_X6_isCard (v0 : Int32) : Option (Int32) :=
  ob1 (f_X6_in v0 (0 : Int32) (17 : Int32)) (fun (r_4 : Int32) => bo r_4 (some r_4))
set_option maxHeartbeats 4000000 in
set_option maxRecDepth 100000 in
theorem c_X6_isCard (l : Launch) (dC : Nat → ClassId) (dI : Nat → Nat → Nat) (ck : Nat → ClassId) (v0 : Int32) (o0 : Int32) (h : f_X6_isCard v0 = some o0) : RD l yX6_isCard wsX6_isCard ({ frames := 1, cells := 0, slots := 0, locals := 22 }) [.int v0] (dC, dI) ck ([]) o0 := by
  refine RD.ofW (cc := cX6_isCard) (maxL := 1) (ret := (some .boolean)) (by decide +kernel) rfl (Nat.le_of_ble_eq_true rfl) ?_
  intro p e s m below meth c hx hb hr hml hts hown hlk hK hP ls hl
  have hown : s.vm.findClass RX6 = some m.cls := hown
  have hl : lv_has ls 1 [(0, .int v0)] := hl
  unfold f_X6_isCard at h
  refine lv_iload_n hx hb dX6_isCard_0 rfl (lv_at hl 0 rfl) ?_
  refine lv_iconst (v := (0 : Int32)) hx hb dX6_isCard_1 rfl ?_
  refine lv_bipush (v := (17 : Int32)) hx hb dX6_isCard_2 rfl ?_
  obtain ⟨r_4, q_4, h⟩ := ob1_e h
  refine cRS (wc := []) ⟨hx, hb, hml, hown, hts⟩ hK hP [] rfl (c_X6_in l dC dI ck v0 (0 : Int32) (17 : Int32) r_4 q_4) (va_cwS 3 hts gX6_isCard_X6_in rfl rfl rfl (by decide +kernel) ⟨Nat.le_of_ble_eq_true rfl, Nat.le_of_ble_eq_true rfl⟩) rfl hl.1 rfl (Nat.le_of_ble_eq_true rfl) dX6_isCard_4 ⟨Nat.zero_le _, Nat.zero_le _⟩ ?_
  obtain ⟨n_7, h⟩ := bo_e h
  cases h
  exact eRz hx hb hr hlk rfl n_7.1 dX6_isCard_7
noncomputable def f_X6_areThree (v0 : Int32) (v1 : Int32) (v2 : Int32) : Option (Int32) :=
  ob1 (f_X6_in v0 (0 : Int32) (5 : Int32)) (fun (r_3 : Int32) => if r_3 = (0 : Int32) then (some (0 : Int32)) else (ob1 (f_X6_in v1 (0 : Int32) (5 : Int32)) (fun (r_12 : Int32) => if r_12 = (0 : Int32) then (some (0 : Int32)) else (ob1 (f_X6_in v2 (0 : Int32) (5 : Int32)) (fun (r_21 : Int32) => if r_21 = (0 : Int32) then (some (0 : Int32)) else (some (1 : Int32)))))))
set_option maxHeartbeats 4000000 in
set_option maxRecDepth 100000 in
theorem c_X6_areThree (l : Launch) (dC : Nat → ClassId) (dI : Nat → Nat → Nat) (ck : Nat → ClassId) (v0 : Int32) (v1 : Int32) (v2 : Int32) (o0 : Int32) (h : f_X6_areThree v0 v1 v2 = some o0) : RD l yX6_areThree wsX6_areThree ({ frames := 1, cells := 0, slots := 0, locals := 22 }) [.int v0, .int v1, .int v2] (dC, dI) ck ([]) o0 := by
  refine RD.ofW (cc := cX6_areThree) (maxL := 3) (ret := (some .boolean)) (by decide +kernel) rfl (Nat.le_of_ble_eq_true rfl) ?_
  intro p e s m below meth c hx hb hr hml hts hown hlk hK hP ls hl
  have hown : s.vm.findClass RX6 = some m.cls := hown
  have hl : lv_has ls 3 [(0, .int v0), (1, .int v1), (2, .int v2)] := hl
  unfold f_X6_areThree at h
  refine lv_iload_n hx hb dX6_areThree_0 rfl (lv_at hl 0 rfl) ?_
  refine lv_iconst (v := (0 : Int32)) hx hb dX6_areThree_1 rfl ?_
  refine lv_iconst (v := (5 : Int32)) hx hb dX6_areThree_2 rfl ?_
  obtain ⟨r_3, q_3, h⟩ := ob1_e h
  refine cRS (wc := []) ⟨hx, hb, hml, hown, hts⟩ hK hP [] rfl (c_X6_in l dC dI ck v0 (0 : Int32) (5 : Int32) r_3 q_3) (va_cwS 3 hts gX6_areThree_X6_in rfl rfl rfl (by decide +kernel) ⟨Nat.le_of_ble_eq_true rfl, Nat.le_of_ble_eq_true rfl⟩) rfl hl.1 rfl (Nat.le_of_ble_eq_true rfl) dX6_areThree_3 ⟨Nat.zero_le _, Nat.zero_le _⟩ ?_
  refine lv_if_eq (tgt := 31) hx hb dX6_areThree_6 (by decide) (fun c_6 => ?_) (fun c_6 => ?_)
  · have h := if_t h c_6
    refine lv_iconst (v := (0 : Int32)) hx hb dX6_areThree_31 rfl ?_
    cases h
    exact eRz hx hb hr hlk rfl rfl dX6_areThree_32
  · have h := if_f h c_6
    refine lv_iload_n hx hb dX6_areThree_9 rfl (lv_at hl 1 rfl) ?_
    refine lv_iconst (v := (0 : Int32)) hx hb dX6_areThree_10 rfl ?_
    refine lv_iconst (v := (5 : Int32)) hx hb dX6_areThree_11 rfl ?_
    obtain ⟨r_12, q_12, h⟩ := ob1_e h
    refine cRS (wc := []) ⟨hx, hb, hml, hown, hts⟩ hK hP [] rfl (c_X6_in l dC dI ck v1 (0 : Int32) (5 : Int32) r_12 q_12) (va_cwS 3 hts gX6_areThree_X6_in rfl rfl rfl (by decide +kernel) ⟨Nat.le_of_ble_eq_true rfl, Nat.le_of_ble_eq_true rfl⟩) rfl hl.1 rfl (Nat.le_of_ble_eq_true rfl) dX6_areThree_12 ⟨Nat.zero_le _, Nat.zero_le _⟩ ?_
    refine lv_if_eq (tgt := 31) hx hb dX6_areThree_15 (by decide) (fun c_15 => ?_) (fun c_15 => ?_)
    · have h := if_t h c_15
      refine lv_iconst (v := (0 : Int32)) hx hb dX6_areThree_31 rfl ?_
      cases h
      exact eRz hx hb hr hlk rfl rfl dX6_areThree_32
    · have h := if_f h c_15
      refine lv_iload_n hx hb dX6_areThree_18 rfl (lv_at hl 2 rfl) ?_
      refine lv_iconst (v := (0 : Int32)) hx hb dX6_areThree_19 rfl ?_
      refine lv_iconst (v := (5 : Int32)) hx hb dX6_areThree_20 rfl ?_
      obtain ⟨r_21, q_21, h⟩ := ob1_e h
      refine cRS (wc := []) ⟨hx, hb, hml, hown, hts⟩ hK hP [] rfl (c_X6_in l dC dI ck v2 (0 : Int32) (5 : Int32) r_21 q_21) (va_cwS 3 hts gX6_areThree_X6_in rfl rfl rfl (by decide +kernel) ⟨Nat.le_of_ble_eq_true rfl, Nat.le_of_ble_eq_true rfl⟩) rfl hl.1 rfl (Nat.le_of_ble_eq_true rfl) dX6_areThree_21 ⟨Nat.zero_le _, Nat.zero_le _⟩ ?_
      refine lv_if_eq (tgt := 31) hx hb dX6_areThree_24 (by decide) (fun c_24 => ?_) (fun c_24 => ?_)
      · have h := if_t h c_24
        refine lv_iconst (v := (0 : Int32)) hx hb dX6_areThree_31 rfl ?_
        cases h
        exact eRz hx hb hr hlk rfl rfl dX6_areThree_32
      · have h := if_f h c_24
        refine lv_iconst (v := (1 : Int32)) hx hb dX6_areThree_27 rfl ?_
        refine lv_goto (tgt := 32) hx hb dX6_areThree_28 (by decide) ?_
        cases h
        exact eRz hx hb hr hlk rfl rfl dX6_areThree_32
noncomputable def f_X6_fact (c_z : Nat → Int32) (v1 : Int32) (v2 : Int32) : Option (Int32) :=
  gd (((2 : Int32) + ((5 : Int32) * v1)) + v2) 207 (some (c_z (((2 : Int32) + ((5 : Int32) * v1)) + v2).toNatClampNeg))
set_option maxHeartbeats 4000000 in
set_option maxRecDepth 100000 in
theorem c_X6_fact (l : Launch) (dC : Nat → ClassId) (dI : Nat → Nat → Nat) (ck : Nat → ClassId) (a0 a0_z a0_past a0_slots a0_isSaved a0_pad a0_yes a0_no a0_yesThen a0_noThen a0_yesRound a0_yesRule a0_noRound a0_noRule a0_orders : Nat) (c_z : Nat → Int32) (c_past : Nat → Int32) (c_slots : Nat → Int32) (c_isSaved : Nat → Int32) (c_pastMany : Int32) (c_pad : Nat → Int32) (c_typed : Int32) (c_yes : Nat → Int32) (c_no : Nat → Int32) (c_yesThen : Nat → Int32) (c_noThen : Nat → Int32) (c_yesRound : Nat → Int32) (c_yesRule : Nat → Int32) (c_noRound : Nat → Int32) (c_noRule : Nat → Int32) (c_rounds : Int32) (c_isMore : Int32) (c_orders : Nat → Int32) (c_orderMany : Int32) (c_spot : Int32) (c_bad : Int32) (v1 : Int32) (v2 : Int32) (o0 : Int32) (h : f_X6_fact c_z v1 v2 = some o0) : RD l yX6_fact wsX6_fact ({ frames := 0, cells := 0, slots := 0, locals := 0 }) [.ref a0, .int v1, .int v2] (dC, dI) ck (wX6 ck a0 a0_z a0_past a0_slots a0_isSaved a0_pad a0_yes a0_no a0_yesThen a0_noThen a0_yesRound a0_yesRule a0_noRound a0_noRule a0_orders c_z c_past c_slots c_isSaved c_pastMany c_pad c_typed c_yes c_no c_yesThen c_noThen c_yesRound c_yesRule c_noRound c_noRule c_rounds c_isMore c_orders c_orderMany c_spot c_bad) o0 := by
  refine RD.ofW (cc := cX6_fact) (maxL := 3) (ret := (some .int)) (by decide +kernel) rfl (Nat.le_of_ble_eq_true rfl) ?_
  intro p e s m below meth c hx hb hr hml hts hown hlk hK hP ls hl
  have hown : s.vm.findClass RX6 = some m.cls := hown
  have hl : lv_has ls 3 [(0, .ref a0), (1, .int v1), (2, .int v2)] := hl
  have iu_X6 : ∀ w ∈ u_ws RX6 TX6 21, w ∈ wsX6_fact := fun w h => List.mem_cons_of_mem _ (List.mem_append_right _ h)
  unfold f_X6_fact at h
  refine lv_aload_n hx hb dX6_fact_0 rfl (lv_at hl 0 rfl) ?_
  refine va_get (ci := 6) (v := .ref a0_z) (C := RX6) (T := TX6) (N := 21) hx hb hts iu_X6 hown hK.1 hP 0 rfl rfl 0 (by decide) (hts (.fieldLink RX6 7 "SheetMarksModel" "z" "[I") (List.mem_of_getElem? (i := 1) rfl)) (fun _ h9 => h9) rfl dX6_fact_1 ?_
  refine lv_iconst (v := (2 : Int32)) hx hb dX6_fact_4 rfl ?_
  refine lv_iconst (v := (5 : Int32)) hx hb dX6_fact_5 rfl ?_
  refine lv_iload_n hx hb dX6_fact_6 rfl (lv_at hl 1 rfl) ?_
  refine lv_imul hx hb dX6_fact_7 ?_
  refine lv_iadd hx hb dX6_fact_8 ?_
  refine lv_iload_n hx hb dX6_fact_9 rfl (lv_at hl 2 rfl) ?_
  refine lv_iadd hx hb dX6_fact_10 ?_
  obtain ⟨g_11, h⟩ := gd_e h
  refine va_iald hx hb hK.1 hP 1 0 rfl rfl g_11 dX6_fact_11 ?_
  cases h
  exact eRi hx hb hr hlk rfl dX6_fact_12
noncomputable def f_X6_three (c_z : Nat → Int32) (v1 : Int32) : Option (Int32) :=
  ob1 (f_X6_fact c_z v1 (2 : Int32)) (fun (r_4 : Int32) => ob1 (f_X6_fact c_z v1 (3 : Int32)) (fun (r_12 : Int32) => ob1 (f_X6_fact c_z v1 (4 : Int32)) (fun (r_21 : Int32) => some ((((1 : Int32) <<< (r_4 &&& 31)) ||| ((1 : Int32) <<< (r_12 &&& 31))) ||| ((1 : Int32) <<< (r_21 &&& 31))))))
set_option maxHeartbeats 4000000 in
set_option maxRecDepth 100000 in
theorem c_X6_three (l : Launch) (dC : Nat → ClassId) (dI : Nat → Nat → Nat) (ck : Nat → ClassId) (a0 a0_z a0_past a0_slots a0_isSaved a0_pad a0_yes a0_no a0_yesThen a0_noThen a0_yesRound a0_yesRule a0_noRound a0_noRule a0_orders : Nat) (c_z : Nat → Int32) (c_past : Nat → Int32) (c_slots : Nat → Int32) (c_isSaved : Nat → Int32) (c_pastMany : Int32) (c_pad : Nat → Int32) (c_typed : Int32) (c_yes : Nat → Int32) (c_no : Nat → Int32) (c_yesThen : Nat → Int32) (c_noThen : Nat → Int32) (c_yesRound : Nat → Int32) (c_yesRule : Nat → Int32) (c_noRound : Nat → Int32) (c_noRule : Nat → Int32) (c_rounds : Int32) (c_isMore : Int32) (c_orders : Nat → Int32) (c_orderMany : Int32) (c_spot : Int32) (c_bad : Int32) (v1 : Int32) (o0 : Int32) (h : f_X6_three c_z v1 = some o0) : RD l yX6_three wsX6_three ({ frames := 1, cells := 0, slots := 0, locals := 22 }) [.ref a0, .int v1] (dC, dI) ck (wX6 ck a0 a0_z a0_past a0_slots a0_isSaved a0_pad a0_yes a0_no a0_yesThen a0_noThen a0_yesRound a0_yesRule a0_noRound a0_noRule a0_orders c_z c_past c_slots c_isSaved c_pastMany c_pad c_typed c_yes c_no c_yesThen c_noThen c_yesRound c_yesRule c_noRound c_noRule c_rounds c_isMore c_orders c_orderMany c_spot c_bad) o0 := by
  refine RD.ofW (cc := cX6_three) (maxL := 2) (ret := (some .int)) (by decide +kernel) rfl (Nat.le_of_ble_eq_true rfl) ?_
  intro p e s m below meth c hx hb hr hml hts hown hlk hK hP ls hl
  have hown : s.vm.findClass RX6 = some m.cls := hown
  have hl : lv_has ls 2 [(0, .ref a0), (1, .int v1)] := hl
  unfold f_X6_three at h
  refine lv_iconst (v := (1 : Int32)) hx hb dX6_three_0 rfl ?_
  refine lv_aload_n hx hb dX6_three_1 rfl (lv_at hl 0 rfl) ?_
  refine lv_iload_n hx hb dX6_three_2 rfl (lv_at hl 1 rfl) ?_
  refine lv_iconst (v := (2 : Int32)) hx hb dX6_three_3 rfl ?_
  obtain ⟨r_4, q_4, h⟩ := ob1_e h
  refine cRV (wc := wX6 ck a0 a0_z a0_past a0_slots a0_isSaved a0_pad a0_yes a0_no a0_yesThen a0_noThen a0_yesRound a0_yesRule a0_noRound a0_noRule a0_orders c_z c_past c_slots c_isSaved c_pastMany c_pad c_typed c_yes c_no c_yesThen c_noThen c_yesRound c_yesRule c_noRound c_noRule c_rounds c_isMore c_orders c_orderMany c_spot c_bad) ⟨hx, hb, hml, hown, hts⟩ hK hP [0, 1, 2, 3, 4, 5, 6, 7, 8, 9, 10, 11, 12, 13, 14] rfl (c_X6_fact l dC dI ck a0 a0_z a0_past a0_slots a0_isSaved a0_pad a0_yes a0_no a0_yesThen a0_noThen a0_yesRound a0_yesRule a0_noRound a0_noRule a0_orders c_z c_past c_slots c_isSaved c_pastMany c_pad c_typed c_yes c_no c_yesThen c_noThen c_yesRound c_yesRule c_noRound c_noRule c_rounds c_isMore c_orders c_orderMany c_spot c_bad v1 (2 : Int32) r_4 q_4) (cwV 2 hts gX6_three_X6_fact rfl rfl rfl (by decide +kernel) ⟨Nat.le_of_ble_eq_true rfl, Nat.le_of_ble_eq_true rfl⟩) 0 rfl rfl rfl hl.1 rfl (Nat.le_of_ble_eq_true rfl) dX6_three_4 ⟨Nat.zero_le _, Nat.zero_le _⟩ ?_
  refine lv_ishl hx hb dX6_three_7 ?_
  refine lv_iconst (v := (1 : Int32)) hx hb dX6_three_8 rfl ?_
  refine lv_aload_n hx hb dX6_three_9 rfl (lv_at hl 0 rfl) ?_
  refine lv_iload_n hx hb dX6_three_10 rfl (lv_at hl 1 rfl) ?_
  refine lv_iconst (v := (3 : Int32)) hx hb dX6_three_11 rfl ?_
  obtain ⟨r_12, q_12, h⟩ := ob1_e h
  refine cRV (wc := wX6 ck a0 a0_z a0_past a0_slots a0_isSaved a0_pad a0_yes a0_no a0_yesThen a0_noThen a0_yesRound a0_yesRule a0_noRound a0_noRule a0_orders c_z c_past c_slots c_isSaved c_pastMany c_pad c_typed c_yes c_no c_yesThen c_noThen c_yesRound c_yesRule c_noRound c_noRule c_rounds c_isMore c_orders c_orderMany c_spot c_bad) ⟨hx, hb, hml, hown, hts⟩ hK hP [0, 1, 2, 3, 4, 5, 6, 7, 8, 9, 10, 11, 12, 13, 14] rfl (c_X6_fact l dC dI ck a0 a0_z a0_past a0_slots a0_isSaved a0_pad a0_yes a0_no a0_yesThen a0_noThen a0_yesRound a0_yesRule a0_noRound a0_noRule a0_orders c_z c_past c_slots c_isSaved c_pastMany c_pad c_typed c_yes c_no c_yesThen c_noThen c_yesRound c_yesRule c_noRound c_noRule c_rounds c_isMore c_orders c_orderMany c_spot c_bad v1 (3 : Int32) r_12 q_12) (cwV 2 hts gX6_three_X6_fact rfl rfl rfl (by decide +kernel) ⟨Nat.le_of_ble_eq_true rfl, Nat.le_of_ble_eq_true rfl⟩) 0 rfl rfl rfl hl.1 rfl (Nat.le_of_ble_eq_true rfl) dX6_three_12 ⟨Nat.zero_le _, Nat.zero_le _⟩ ?_
  refine lv_ishl hx hb dX6_three_15 ?_
  refine lv_ior hx hb dX6_three_16 ?_
  refine lv_iconst (v := (1 : Int32)) hx hb dX6_three_17 rfl ?_
  refine lv_aload_n hx hb dX6_three_18 rfl (lv_at hl 0 rfl) ?_
  refine lv_iload_n hx hb dX6_three_19 rfl (lv_at hl 1 rfl) ?_
  refine lv_iconst (v := (4 : Int32)) hx hb dX6_three_20 rfl ?_
  obtain ⟨r_21, q_21, h⟩ := ob1_e h
  refine cRV (wc := wX6 ck a0 a0_z a0_past a0_slots a0_isSaved a0_pad a0_yes a0_no a0_yesThen a0_noThen a0_yesRound a0_yesRule a0_noRound a0_noRule a0_orders c_z c_past c_slots c_isSaved c_pastMany c_pad c_typed c_yes c_no c_yesThen c_noThen c_yesRound c_yesRule c_noRound c_noRule c_rounds c_isMore c_orders c_orderMany c_spot c_bad) ⟨hx, hb, hml, hown, hts⟩ hK hP [0, 1, 2, 3, 4, 5, 6, 7, 8, 9, 10, 11, 12, 13, 14] rfl (c_X6_fact l dC dI ck a0 a0_z a0_past a0_slots a0_isSaved a0_pad a0_yes a0_no a0_yesThen a0_noThen a0_yesRound a0_yesRule a0_noRound a0_noRule a0_orders c_z c_past c_slots c_isSaved c_pastMany c_pad c_typed c_yes c_no c_yesThen c_noThen c_yesRound c_yesRule c_noRound c_noRule c_rounds c_isMore c_orders c_orderMany c_spot c_bad v1 (4 : Int32) r_21 q_21) (cwV 2 hts gX6_three_X6_fact rfl rfl rfl (by decide +kernel) ⟨Nat.le_of_ble_eq_true rfl, Nat.le_of_ble_eq_true rfl⟩) 0 rfl rfl rfl hl.1 rfl (Nat.le_of_ble_eq_true rfl) dX6_three_21 ⟨Nat.zero_le _, Nat.zero_le _⟩ ?_
  refine lv_ishl hx hb dX6_three_24 ?_
  refine lv_ior hx hb dX6_three_25 ?_
  cases h
  exact eRi hx hb hr hlk rfl dX6_three_26
noncomputable def f_X6_kindSet (v0 : Int32) : Option (Int32) :=
  some ((63 : Int32) <<< (((6 : Int32) * v0) &&& 31))
set_option maxHeartbeats 4000000 in
set_option maxRecDepth 100000 in
theorem c_X6_kindSet (l : Launch) (dC : Nat → ClassId) (dI : Nat → Nat → Nat) (ck : Nat → ClassId) (v0 : Int32) (o0 : Int32) (h : f_X6_kindSet v0 = some o0) : RD l yX6_kindSet wsX6_kindSet ({ frames := 0, cells := 0, slots := 0, locals := 0 }) [.int v0] (dC, dI) ck ([]) o0 := by
  refine RD.ofW (cc := cX6_kindSet) (maxL := 1) (ret := (some .int)) (by decide +kernel) rfl (Nat.le_of_ble_eq_true rfl) ?_
  intro p e s m below meth c hx hb hr hml hts hown hlk hK hP ls hl
  have hown : s.vm.findClass RX6 = some m.cls := hown
  have hl : lv_has ls 1 [(0, .int v0)] := hl
  unfold f_X6_kindSet at h
  refine lv_bipush (v := (63 : Int32)) hx hb dX6_kindSet_0 rfl ?_
  refine lv_bipush (v := (6 : Int32)) hx hb dX6_kindSet_2 rfl ?_
  refine lv_iload_n hx hb dX6_kindSet_4 rfl (lv_at hl 0 rfl) ?_
  refine lv_imul hx hb dX6_kindSet_5 ?_
  refine lv_ishl hx hb dX6_kindSet_6 ?_
  cases h
  exact eRi hx hb hr hlk rfl dX6_kindSet_7
noncomputable def f_X6_sizeOf (c_z : Nat → Int32) (v1 : Int32) : Option (Int32) :=
  if v1 = (5 : Int32) then (some (3 : Int32)) else (gd (0 : Int32) 207 (nz (c_z (0 : Int32).toNatClampNeg) (gd (0 : Int32) 207 (nz (c_z (0 : Int32).toNatClampNeg) (if ((15 : Int32) - (15 : Int32) / (c_z (0 : Int32).toNatClampNeg) * (c_z (0 : Int32).toNatClampNeg)) ≤ v1 then (some (((15 : Int32) / (c_z (0 : Int32).toNatClampNeg)) + (0 : Int32))) else (some (((15 : Int32) / (c_z (0 : Int32).toNatClampNeg)) + (1 : Int32))))))))
set_option maxHeartbeats 4000000 in
set_option maxRecDepth 100000 in
theorem c_X6_sizeOf (l : Launch) (dC : Nat → ClassId) (dI : Nat → Nat → Nat) (ck : Nat → ClassId) (a0 a0_z a0_past a0_slots a0_isSaved a0_pad a0_yes a0_no a0_yesThen a0_noThen a0_yesRound a0_yesRule a0_noRound a0_noRule a0_orders : Nat) (c_z : Nat → Int32) (c_past : Nat → Int32) (c_slots : Nat → Int32) (c_isSaved : Nat → Int32) (c_pastMany : Int32) (c_pad : Nat → Int32) (c_typed : Int32) (c_yes : Nat → Int32) (c_no : Nat → Int32) (c_yesThen : Nat → Int32) (c_noThen : Nat → Int32) (c_yesRound : Nat → Int32) (c_yesRule : Nat → Int32) (c_noRound : Nat → Int32) (c_noRule : Nat → Int32) (c_rounds : Int32) (c_isMore : Int32) (c_orders : Nat → Int32) (c_orderMany : Int32) (c_spot : Int32) (c_bad : Int32) (v1 : Int32) (o0 : Int32) (h : f_X6_sizeOf c_z v1 = some o0) : RD l yX6_sizeOf wsX6_sizeOf ({ frames := 0, cells := 0, slots := 0, locals := 0 }) [.ref a0, .int v1] (dC, dI) ck (wX6 ck a0 a0_z a0_past a0_slots a0_isSaved a0_pad a0_yes a0_no a0_yesThen a0_noThen a0_yesRound a0_yesRule a0_noRound a0_noRule a0_orders c_z c_past c_slots c_isSaved c_pastMany c_pad c_typed c_yes c_no c_yesThen c_noThen c_yesRound c_yesRule c_noRound c_noRule c_rounds c_isMore c_orders c_orderMany c_spot c_bad) o0 := by
  refine RD.ofW (cc := cX6_sizeOf) (maxL := 2) (ret := (some .int)) (by decide +kernel) rfl (Nat.le_of_ble_eq_true rfl) ?_
  intro p e s m below meth c hx hb hr hml hts hown hlk hK hP ls hl
  have hown : s.vm.findClass RX6 = some m.cls := hown
  have hl : lv_has ls 2 [(0, .ref a0), (1, .int v1)] := hl
  have iu_X6 : ∀ w ∈ u_ws RX6 TX6 21, w ∈ wsX6_sizeOf := fun w h => List.mem_cons_of_mem _ (List.mem_append_right _ h)
  unfold f_X6_sizeOf at h
  refine lv_iload_n hx hb dX6_sizeOf_0 rfl (lv_at hl 1 rfl) ?_
  refine lv_iconst (v := (5 : Int32)) hx hb dX6_sizeOf_1 rfl ?_
  refine lv_icmp_ne (tgt := 9) hx hb dX6_sizeOf_2 (by decide) (fun c_2 => ?_) (fun c_2 => ?_)
  · have h := if_f h c_2
    refine lv_bipush (v := (15 : Int32)) hx hb dX6_sizeOf_9 rfl ?_
    refine lv_aload_n hx hb dX6_sizeOf_11 rfl (lv_at hl 0 rfl) ?_
    refine va_get (ci := 6) (v := .ref a0_z) (C := RX6) (T := TX6) (N := 21) hx hb hts iu_X6 hown hK.1 hP 0 rfl rfl 0 (by decide) (hts (.fieldLink RX6 7 "SheetMarksModel" "z" "[I") (List.mem_of_getElem? (i := 1) rfl)) (fun _ h9 => h9) rfl dX6_sizeOf_12 ?_
    refine lv_iconst (v := (0 : Int32)) hx hb dX6_sizeOf_15 rfl ?_
    obtain ⟨g_16, h⟩ := gd_e h
    refine va_iald hx hb hK.1 hP 1 0 rfl rfl g_16 dX6_sizeOf_16 ?_
    obtain ⟨z_17, h⟩ := nz_e h
    refine lv_idiv hx hb dX6_sizeOf_17 z_17 ?_
    refine lv_iload_n hx hb dX6_sizeOf_18 rfl (lv_at hl 1 rfl) ?_
    refine lv_bipush (v := (15 : Int32)) hx hb dX6_sizeOf_19 rfl ?_
    refine lv_aload_n hx hb dX6_sizeOf_21 rfl (lv_at hl 0 rfl) ?_
    refine va_get (ci := 6) (v := .ref a0_z) (C := RX6) (T := TX6) (N := 21) hx hb hts iu_X6 hown hK.1 hP 0 rfl rfl 0 (by decide) (hts (.fieldLink RX6 7 "SheetMarksModel" "z" "[I") (List.mem_of_getElem? (i := 1) rfl)) (fun _ h9 => h9) rfl dX6_sizeOf_22 ?_
    refine lv_iconst (v := (0 : Int32)) hx hb dX6_sizeOf_25 rfl ?_
    obtain ⟨g_26, h⟩ := gd_e h
    refine va_iald hx hb hK.1 hP 1 0 rfl rfl g_26 dX6_sizeOf_26 ?_
    obtain ⟨z_27, h⟩ := nz_e h
    refine lv_irem hx hb dX6_sizeOf_27 z_27 ?_
    refine lv_icmp_ge (tgt := 35) hx hb dX6_sizeOf_28 (by decide) (fun c_28 => ?_) (fun c_28 => ?_)
    · have h := if_t h c_28
      refine lv_iconst (v := (0 : Int32)) hx hb dX6_sizeOf_35 rfl ?_
      refine lv_iadd hx hb dX6_sizeOf_36 ?_
      cases h
      exact eRi hx hb hr hlk rfl dX6_sizeOf_37
    · have h := if_f h c_28
      refine lv_iconst (v := (1 : Int32)) hx hb dX6_sizeOf_31 rfl ?_
      refine lv_goto (tgt := 36) hx hb dX6_sizeOf_32 (by decide) ?_
      refine lv_iadd hx hb dX6_sizeOf_36 ?_
      cases h
      exact eRi hx hb hr hlk rfl dX6_sizeOf_37
  · have h := if_t h c_2
    refine lv_iconst (v := (3 : Int32)) hx hb dX6_sizeOf_5 rfl ?_
    refine lv_goto (tgt := 37) hx hb dX6_sizeOf_6 (by decide) ?_
    cases h
    exact eRi hx hb hr hlk rfl dX6_sizeOf_37
noncomputable def f_X6_bits_L4 (rec4 : Int32 → Int32 → Option (Int32)) (v1_L4 : Int32) (v2_L4 : Int32) : Option (Int32) :=
  if v2_L4 = (0 : Int32) then (some v1_L4) else (lt' (v1_L4 + (1 : Int32)) (fun v1_8 : Int32 => lt' (v2_L4 &&& (v2_L4 - (1 : Int32))) (fun v2_16 : Int32 => rec4 v1_8 v2_16)))
noncomputable def f_X6_bits (v0 : Int32) : Option (Int32) :=
  lo2 (f_X6_bits_L4) FU (0 : Int32) v0
set_option maxHeartbeats 4000000 in
set_option maxRecDepth 100000 in
theorem c_X6_bits (l : Launch) (dC : Nat → ClassId) (dI : Nat → Nat → Nat) (ck : Nat → ClassId) (v0 : Int32) (o0 : Int32) (h : f_X6_bits v0 = some o0) : RD l yX6_bits wsX6_bits ({ frames := 0, cells := 0, slots := 0, locals := 0 }) [.int v0] (dC, dI) ck ([]) o0 := by
  refine RD.ofW (cc := cX6_bits) (maxL := 3) (ret := (some .int)) (by decide +kernel) rfl (Nat.le_of_ble_eq_true rfl) ?_
  intro p e s m below meth c hx hb hr hml hts hown hlk hK hP ls hl
  have hown : s.vm.findClass RX6 = some m.cls := hown
  have hl : lv_has ls 3 [(0, .int v0)] := hl
  unfold f_X6_bits at h
  refine lv_iconst (v := (0 : Int32)) hx hb dX6_bits_0 rfl ?_
  refine lv_istore_n (lv' := [(1, .int (0 : Int32)), (0, .int v0)]) hx hb dX6_bits_1 rfl hl (by decide) rfl (fun ls hl => ?_)
  refine lv_iload_n hx hb dX6_bits_2 rfl (lv_at hl 1 rfl) ?_
  refine lv_istore_n (lv' := [(2, .int v0), (1, .int (0 : Int32)), (0, .int v0)]) hx hb dX6_bits_3 rfl hl (by decide) rfl (fun ls hl => ?_)
  have hL4 : ∀ (n4 : Nat) (v1_L4 : Int32) (v2_L4 : Int32), lo2 (f_X6_bits_L4) n4 v1_L4 v2_L4 = some o0 → ∀ ls : Array Slot, lv_has ls 3 [(2, .int v2_L4), (1, .int v1_L4)] → W p l e (headSpec wsX6_bits ({ frames := 0, cells := 0, slots := 0, locals := 0 })).room s m [.int v0].toArray below meth c s.heap [] 0 0 (MQ below (QcRead o0) [.int v0].toArray s 0 0 (fun _ => False)) (F0 m 4 ls []) := by
    intro n4
    induction n4 with
    | zero => intro v1_L4 v2_L4 h; exact lo2_z h
    | succ n4 ih4 =>
      intro v1_L4 v2_L4 h ls hl
      have h := lo2_s h
      unfold f_X6_bits_L4 at h
      refine lv_iload_n hx hb dX6_bits_4 rfl (lv_at hl 0 rfl) ?_
      refine lv_if_eq (tgt := 20) hx hb dX6_bits_5 (by decide) (fun c_5 => ?_) (fun c_5 => ?_)
      · have h := if_t h c_5
        refine lv_iload_n hx hb dX6_bits_20 rfl (lv_at hl 1 rfl) ?_
        cases h
        exact eRi hx hb hr hlk rfl dX6_bits_21
      · have h := if_f h c_5
        obtain ⟨v1_8, e_8⟩ : ∃ y : Int32, y = (v1_L4 + (1 : Int32)) := ⟨_, rfl⟩
        have h := lt'_e e_8 h
        refine lv_iinc (v := v1_8) (lv' := [(1, .int v1_8), (2, .int v2_L4)]) hx hb dX6_bits_8 hl (k := 1) rfl (by rw [e_8]; rfl) (by decide) rfl (fun ls hl => ?_)
        refine lv_iload_n hx hb dX6_bits_11 rfl (lv_at hl 1 rfl) ?_
        refine lv_iload_n hx hb dX6_bits_12 rfl (lv_at hl 1 rfl) ?_
        refine lv_iconst (v := (1 : Int32)) hx hb dX6_bits_13 rfl ?_
        refine lv_isub hx hb dX6_bits_14 ?_
        refine lv_iand hx hb dX6_bits_15 ?_
        refine lv_topi (fun v2_16 e_16 => ?_)
        have h := lt'_e e_16 h
        refine lv_istore_n (lv' := [(2, .int v2_16), (1, .int v1_8)]) hx hb dX6_bits_16 rfl hl (by decide) rfl (fun ls hl => ?_)
        refine lv_goto (tgt := 4) hx hb dX6_bits_17 (by decide) ?_
        exact ih4 _ _ h _ (lv_sub hl [0, 1] rfl)
  exact hL4 _ _ _ h _ (lv_sub hl [0, 1] rfl)
noncomputable def f_X6_record_L52 (c_z : Nat → Int32) (c_pastMany_J50 : Int32) (rec52 : Int32 → (Nat → Int32) → Option ((Nat → Int32) × Int32)) (v1_L52 : Int32) (c_past_L52 : Nat → Int32) : Option ((Nat → Int32) × Int32) :=
  if (207 : Int32) ≤ v1_L52 then (lt' (c_pastMany_J50 + (1 : Int32)) (fun c_pastMany_93 : Int32 => some (c_past_L52, c_pastMany_93))) else (gd v1_L52 207 (gd ((c_pastMany_J50 * (207 : Int32)) + v1_L52) 1242 (lt' (upd c_past_L52 ((c_pastMany_J50 * (207 : Int32)) + v1_L52).toNatClampNeg (c_z v1_L52.toNatClampNeg)) (fun c_past_79 : Nat → Int32 => rec52 (v1_L52 + (1 : Int32)) c_past_79))))
noncomputable def f_X6_record_J50 (c_z : Nat → Int32) (c_past_J50 : Nat → Int32) (c_pastMany_J50 : Int32) : Option ((Nat → Int32) × Int32) :=
  lo2 (f_X6_record_L52 c_z c_pastMany_J50) FU (0 : Int32) c_past_J50
noncomputable def f_X6_record_L11 (c_z : Nat → Int32) (c_pastMany : Int32) (rec11 : Int32 → (Nat → Int32) → Option ((Nat → Int32) × Int32)) (v1_L11 : Int32) (c_past_L11 : Nat → Int32) : Option ((Nat → Int32) × Int32) :=
  if (1035 : Int32) ≤ v1_L11 then (lt' (c_pastMany - (1 : Int32)) (fun c_pastMany_47 : Int32 => f_X6_record_J50 c_z c_past_L11 c_pastMany_47)) else (gd (v1_L11 + (207 : Int32)) 1242 (gd v1_L11 1242 (lt' (upd c_past_L11 v1_L11.toNatClampNeg (c_past_L11 (v1_L11 + (207 : Int32)).toNatClampNeg)) (fun c_past_33 : Nat → Int32 => rec11 (v1_L11 + (1 : Int32)) c_past_33))))
noncomputable def f_X6_record (c_z : Nat → Int32) (c_past : Nat → Int32) (c_pastMany : Int32) : Option ((Nat → Int32) × Int32) :=
  if c_pastMany = (6 : Int32) then (lo2 (f_X6_record_L11 c_z c_pastMany) FU (0 : Int32) c_past) else (f_X6_record_J50 c_z c_past c_pastMany)
set_option maxHeartbeats 4000000 in
set_option maxRecDepth 100000 in
theorem c_X6_record (l : Launch) (dC : Nat → ClassId) (dI : Nat → Nat → Nat) (ck : Nat → ClassId) (a0 a0_z a0_past a0_slots a0_isSaved a0_pad a0_yes a0_no a0_yesThen a0_noThen a0_yesRound a0_yesRule a0_noRound a0_noRule a0_orders : Nat) (c_z : Nat → Int32) (c_past : Nat → Int32) (c_slots : Nat → Int32) (c_isSaved : Nat → Int32) (c_pastMany : Int32) (c_pad : Nat → Int32) (c_typed : Int32) (c_yes : Nat → Int32) (c_no : Nat → Int32) (c_yesThen : Nat → Int32) (c_noThen : Nat → Int32) (c_yesRound : Nat → Int32) (c_yesRule : Nat → Int32) (c_noRound : Nat → Int32) (c_noRule : Nat → Int32) (c_rounds : Int32) (c_isMore : Int32) (c_orders : Nat → Int32) (c_orderMany : Int32) (c_spot : Int32) (c_bad : Int32) (o0 : Nat → Int32) (o1 : Int32) (h : f_X6_record c_z c_past c_pastMany = some (o0, o1)) : MV l yX6_record wsX6_record ({ frames := 0, cells := 0, slots := 0, locals := 0 }) [.ref a0] (dC, dI) ck (wX6 ck a0 a0_z a0_past a0_slots a0_isSaved a0_pad a0_yes a0_no a0_yesThen a0_noThen a0_yesRound a0_yesRule a0_noRound a0_noRule a0_orders c_z c_past c_slots c_isSaved c_pastMany c_pad c_typed c_yes c_no c_yesThen c_noThen c_yesRound c_yesRule c_noRound c_noRule c_rounds c_isMore c_orders c_orderMany c_spot c_bad) (wX6 ck a0 a0_z a0_past a0_slots a0_isSaved a0_pad a0_yes a0_no a0_yesThen a0_noThen a0_yesRound a0_yesRule a0_noRound a0_noRule a0_orders c_z o0 c_slots c_isSaved o1 c_pad c_typed c_yes c_no c_yesThen c_noThen c_yesRound c_yesRule c_noRound c_noRule c_rounds c_isMore c_orders c_orderMany c_spot c_bad) := by
  refine MV.ofW (cc := cX6_record) (maxL := 2) (ret := none) (by decide +kernel) rfl (Nat.le_of_ble_eq_true rfl) ?_
  intro p e s m below meth c hx hb hr hml hts hown hlk hK hP A hA hD ls hl
  have hS : va_S A s.heap s.heap [] := va_S.rf
  have hown : s.vm.findClass RX6 = some m.cls := hown
  have hl : lv_has ls 2 [(0, .ref a0)] := hl
  have iu_X6 : ∀ w ∈ u_ws RX6 TX6 21, w ∈ wsX6_record := fun w h => List.mem_cons_of_mem _ (List.mem_append_right _ h)
  unfold f_X6_record at h
  refine lv_aload_n hx hb dX6_record_0 rfl (lv_at hl 0 rfl) ?_
  refine va_get (ci := 6) (v := .int c_pastMany) (C := RX6) (T := TX6) (N := 21) hx hb hts iu_X6 hown hK.1 hP 0 rfl rfl 4 (by decide) (hts (.fieldLink RX6 66 "SheetMarksModel" "pastMany" "I") (List.mem_of_getElem? (i := 1) rfl)) (fun _ h9 => h9) rfl dX6_record_1 ?_
  refine lv_bipush (v := (6 : Int32)) hx hb dX6_record_4 rfl ?_
  have hJ50 : ∀ (c_past_J50 : Nat → Int32) (c_pastMany_J50 : Int32), f_X6_record_J50 c_z c_past_J50 c_pastMany_J50 = some (o0, o1) → ∀ (H : Heap) (locs : List Loc), va_P (dC, dI) vwCl (wX6 ck a0 a0_z a0_past a0_slots a0_isSaved a0_pad a0_yes a0_no a0_yesThen a0_noThen a0_yesRound a0_yesRule a0_noRound a0_noRule a0_orders c_z c_past_J50 c_slots c_isSaved c_pastMany_J50 c_pad c_typed c_yes c_no c_yesThen c_noThen c_yesRound c_yesRule c_noRound c_noRule c_rounds c_isMore c_orders c_orderMany c_spot c_bad) H → va_D A (wX6 ck a0 a0_z a0_past a0_slots a0_isSaved a0_pad a0_yes a0_no a0_yesThen a0_noThen a0_yesRound a0_yesRule a0_noRound a0_noRule a0_orders c_z c_past_J50 c_slots c_isSaved c_pastMany_J50 c_pad c_typed c_yes c_no c_yesThen c_noThen c_yesRound c_yesRule c_noRound c_noRule c_rounds c_isMore c_orders c_orderMany c_spot c_bad) → va_S A s.heap H locs → ∀ ls : Array Slot, lv_has ls 2 [(0, .ref a0)] → W p l e (headSpec wsX6_record ({ frames := 0, cells := 0, slots := 0, locals := 0 })).room s m [.ref a0].toArray below meth c H locs 0 0 (MQ below (QV (dC, dI) (wX6 ck a0 a0_z a0_past a0_slots a0_isSaved a0_pad a0_yes a0_no a0_yesThen a0_noThen a0_yesRound a0_yesRule a0_noRound a0_noRule a0_orders c_z o0 c_slots c_isSaved o1 c_pad c_typed c_yes c_no c_yesThen c_noThen c_yesRound c_yesRule c_noRound c_noRule c_rounds c_isMore c_orders c_orderMany c_spot c_bad) A) [.ref a0].toArray s 0 0 A) (F0 m 50 ls []) := by
    intro c_past_J50 c_pastMany_J50 h H locs hP hD hS ls hl
    unfold f_X6_record_J50 at h
    refine lv_iconst (v := (0 : Int32)) hx hb dX6_record_50 rfl ?_
    refine lv_istore_n (lv' := [(1, .int (0 : Int32)), (0, .ref a0)]) hx hb dX6_record_51 rfl hl (by decide) rfl (fun ls hl => ?_)
    have hL52 : ∀ (n52 : Nat) (v1_L52 : Int32) (c_past_L52 : Nat → Int32), lo2 (f_X6_record_L52 c_z c_pastMany_J50) n52 v1_L52 c_past_L52 = some (o0, o1) → ∀ (H : Heap) (locs : List Loc), va_P (dC, dI) vwCl (wX6 ck a0 a0_z a0_past a0_slots a0_isSaved a0_pad a0_yes a0_no a0_yesThen a0_noThen a0_yesRound a0_yesRule a0_noRound a0_noRule a0_orders c_z c_past_L52 c_slots c_isSaved c_pastMany_J50 c_pad c_typed c_yes c_no c_yesThen c_noThen c_yesRound c_yesRule c_noRound c_noRule c_rounds c_isMore c_orders c_orderMany c_spot c_bad) H → va_D A (wX6 ck a0 a0_z a0_past a0_slots a0_isSaved a0_pad a0_yes a0_no a0_yesThen a0_noThen a0_yesRound a0_yesRule a0_noRound a0_noRule a0_orders c_z c_past_L52 c_slots c_isSaved c_pastMany_J50 c_pad c_typed c_yes c_no c_yesThen c_noThen c_yesRound c_yesRule c_noRound c_noRule c_rounds c_isMore c_orders c_orderMany c_spot c_bad) → va_S A s.heap H locs → ∀ ls : Array Slot, lv_has ls 2 [(1, .int v1_L52), (0, .ref a0)] → W p l e (headSpec wsX6_record ({ frames := 0, cells := 0, slots := 0, locals := 0 })).room s m [.ref a0].toArray below meth c H locs 0 0 (MQ below (QV (dC, dI) (wX6 ck a0 a0_z a0_past a0_slots a0_isSaved a0_pad a0_yes a0_no a0_yesThen a0_noThen a0_yesRound a0_yesRule a0_noRound a0_noRule a0_orders c_z o0 c_slots c_isSaved o1 c_pad c_typed c_yes c_no c_yesThen c_noThen c_yesRound c_yesRule c_noRound c_noRule c_rounds c_isMore c_orders c_orderMany c_spot c_bad) A) [.ref a0].toArray s 0 0 A) (F0 m 52 ls []) := by
      intro n52
      induction n52 with
      | zero => intro v1_L52 c_past_L52 h; exact lo2_z h
      | succ n52 ih52 =>
        intro v1_L52 c_past_L52 h H locs hP hD hS ls hl
        have h := lo2_s h
        unfold f_X6_record_L52 at h
        refine lv_iload_n hx hb dX6_record_52 rfl (lv_at hl 0 rfl) ?_
        refine lv_sipush (v := (207 : Int32)) hx hb dX6_record_53 rfl ?_
        refine lv_icmp_ge (tgt := 86) hx hb dX6_record_56 (by decide) (fun c_56 => ?_) (fun c_56 => ?_)
        · have h := if_t h c_56
          refine lv_aload_n hx hb dX6_record_86 rfl (lv_at hl 1 rfl) ?_
          refine lv_dup hx hb dX6_record_87 rfl ?_
          refine va_get (ci := 6) (v := .int c_pastMany_J50) (C := RX6) (T := TX6) (N := 21) hx hb hts iu_X6 hown hK.1 hP 0 rfl rfl 4 (by decide) (hts (.fieldLink RX6 66 "SheetMarksModel" "pastMany" "I") (List.mem_of_getElem? (i := 1) rfl)) (fun _ h9 => h9) rfl dX6_record_88 ?_
          refine lv_iconst (v := (1 : Int32)) hx hb dX6_record_91 rfl ?_
          refine lv_iadd hx hb dX6_record_92 ?_
          refine lv_topi (fun c_pastMany_93 e_93 => ?_)
          have h := lt'_e e_93 h
          refine va_put (ci := 6) (v := .int c_pastMany_93) (ty := .int) (C := RX6) (T := TX6) (N := 21) hx hb hts iu_X6 tyX6 tyX6_ok nmX6 hown hK.1 hP hD hS 0 rfl rfl 4 (by decide) (hts (.fieldLink RX6 66 "SheetMarksModel" "pastMany" "I") (List.mem_of_getElem? (i := 1) rfl)) (fun _ h9 => h9) rfl (by decide +kernel) rfl rfl (Nat.le_of_ble_eq_true rfl) dX6_record_93 (fun H locs hP hD hS => ?_)
          have hP : va_P (dC, dI) vwCl (wX6 ck a0 a0_z a0_past a0_slots a0_isSaved a0_pad a0_yes a0_no a0_yesThen a0_noThen a0_yesRound a0_yesRule a0_noRound a0_noRule a0_orders c_z c_past_L52 c_slots c_isSaved c_pastMany_93 c_pad c_typed c_yes c_no c_yesThen c_noThen c_yesRound c_yesRule c_noRound c_noRule c_rounds c_isMore c_orders c_orderMany c_spot c_bad) H := hP
          have hD : va_D A (wX6 ck a0 a0_z a0_past a0_slots a0_isSaved a0_pad a0_yes a0_no a0_yesThen a0_noThen a0_yesRound a0_yesRule a0_noRound a0_noRule a0_orders c_z c_past_L52 c_slots c_isSaved c_pastMany_93 c_pad c_typed c_yes c_no c_yesThen c_noThen c_yesRound c_yesRule c_noRound c_noRule c_rounds c_isMore c_orders c_orderMany c_spot c_bad) := hD
          cases h
          exact eMv hx hb hr hlk hP hD hS dX6_record_96
        · have h := if_f h c_56
          refine lv_aload_n hx hb dX6_record_59 rfl (lv_at hl 1 rfl) ?_
          refine va_get (ci := 6) (v := .ref a0_past) (C := RX6) (T := TX6) (N := 21) hx hb hts iu_X6 hown hK.1 hP 0 rfl rfl 1 (by decide) (hts (.fieldLink RX6 13 "SheetMarksModel" "past" "[I") (List.mem_of_getElem? (i := 2) rfl)) (fun _ h9 => h9) rfl dX6_record_60 ?_
          refine lv_aload_n hx hb dX6_record_63 rfl (lv_at hl 1 rfl) ?_
          refine va_get (ci := 6) (v := .int c_pastMany_J50) (C := RX6) (T := TX6) (N := 21) hx hb hts iu_X6 hown hK.1 hP 0 rfl rfl 4 (by decide) (hts (.fieldLink RX6 66 "SheetMarksModel" "pastMany" "I") (List.mem_of_getElem? (i := 1) rfl)) (fun _ h9 => h9) rfl dX6_record_64 ?_
          refine lv_sipush (v := (207 : Int32)) hx hb dX6_record_67 rfl ?_
          refine lv_imul hx hb dX6_record_70 ?_
          refine lv_iload_n hx hb dX6_record_71 rfl (lv_at hl 0 rfl) ?_
          refine lv_iadd hx hb dX6_record_72 ?_
          refine lv_aload_n hx hb dX6_record_73 rfl (lv_at hl 1 rfl) ?_
          refine va_get (ci := 6) (v := .ref a0_z) (C := RX6) (T := TX6) (N := 21) hx hb hts iu_X6 hown hK.1 hP 0 rfl rfl 0 (by decide) (hts (.fieldLink RX6 7 "SheetMarksModel" "z" "[I") (List.mem_of_getElem? (i := 3) rfl)) (fun _ h9 => h9) rfl dX6_record_74 ?_
          refine lv_iload_n hx hb dX6_record_77 rfl (lv_at hl 0 rfl) ?_
          obtain ⟨g_78, h⟩ := gd_e h
          refine va_iald hx hb hK.1 hP 1 0 rfl rfl g_78 dX6_record_78 ?_
          obtain ⟨g_79, h⟩ := gd_e h
          refine va_iast hx hb hK.1 hP hD hS 2 0 rfl rfl g_79 dX6_record_79 (fun H locs hP hD hS => ?_)
          obtain ⟨c_past_79, e_79⟩ : ∃ y : Nat → Int32, y = (upd c_past_L52 ((c_pastMany_J50 * (207 : Int32)) + v1_L52).toNatClampNeg (c_z v1_L52.toNatClampNeg)) := ⟨_, rfl⟩
          have h := lt'_e e_79 h
          have hP : va_P (dC, dI) vwCl (wX6 ck a0 a0_z a0_past a0_slots a0_isSaved a0_pad a0_yes a0_no a0_yesThen a0_noThen a0_yesRound a0_yesRule a0_noRound a0_noRule a0_orders c_z c_past_79 c_slots c_isSaved c_pastMany_J50 c_pad c_typed c_yes c_no c_yesThen c_noThen c_yesRound c_yesRule c_noRound c_noRule c_rounds c_isMore c_orders c_orderMany c_spot c_bad) H := by subst e_79; exact hP
          have hD : va_D A (wX6 ck a0 a0_z a0_past a0_slots a0_isSaved a0_pad a0_yes a0_no a0_yesThen a0_noThen a0_yesRound a0_yesRule a0_noRound a0_noRule a0_orders c_z c_past_79 c_slots c_isSaved c_pastMany_J50 c_pad c_typed c_yes c_no c_yesThen c_noThen c_yesRound c_yesRule c_noRound c_noRule c_rounds c_isMore c_orders c_orderMany c_spot c_bad) := by subst e_79; exact hD
          refine lv_iinc (v := (v1_L52 + (1 : Int32))) (lv' := [(1, .int (v1_L52 + (1 : Int32))), (0, .ref a0)]) hx hb dX6_record_80 hl (k := 0) rfl rfl (by decide) rfl (fun ls hl => ?_)
          refine lv_goto (tgt := 52) hx hb dX6_record_83 (by decide) ?_
          exact ih52 _ _ h _ _ hP hD hS _ (lv_sub hl [0, 1] rfl)
    exact hL52 _ _ _ h _ _ hP hD hS _ (lv_sub hl [0, 1] rfl)
  refine lv_icmp_ne (tgt := 50) hx hb dX6_record_6 (by decide) (fun c_6 => ?_) (fun c_6 => ?_)
  · have h := if_f h c_6
    exact hJ50 _ _ h _ _ hP hD hS _ (lv_sub hl [0] rfl)
  · have h := if_t h c_6
    refine lv_iconst (v := (0 : Int32)) hx hb dX6_record_9 rfl ?_
    refine lv_istore_n (lv' := [(1, .int (0 : Int32)), (0, .ref a0)]) hx hb dX6_record_10 rfl hl (by decide) rfl (fun ls hl => ?_)
    have hL11 : ∀ (n11 : Nat) (v1_L11 : Int32) (c_past_L11 : Nat → Int32), lo2 (f_X6_record_L11 c_z c_pastMany) n11 v1_L11 c_past_L11 = some (o0, o1) → ∀ (H : Heap) (locs : List Loc), va_P (dC, dI) vwCl (wX6 ck a0 a0_z a0_past a0_slots a0_isSaved a0_pad a0_yes a0_no a0_yesThen a0_noThen a0_yesRound a0_yesRule a0_noRound a0_noRule a0_orders c_z c_past_L11 c_slots c_isSaved c_pastMany c_pad c_typed c_yes c_no c_yesThen c_noThen c_yesRound c_yesRule c_noRound c_noRule c_rounds c_isMore c_orders c_orderMany c_spot c_bad) H → va_D A (wX6 ck a0 a0_z a0_past a0_slots a0_isSaved a0_pad a0_yes a0_no a0_yesThen a0_noThen a0_yesRound a0_yesRule a0_noRound a0_noRule a0_orders c_z c_past_L11 c_slots c_isSaved c_pastMany c_pad c_typed c_yes c_no c_yesThen c_noThen c_yesRound c_yesRule c_noRound c_noRule c_rounds c_isMore c_orders c_orderMany c_spot c_bad) → va_S A s.heap H locs → ∀ ls : Array Slot, lv_has ls 2 [(1, .int v1_L11), (0, .ref a0)] → W p l e (headSpec wsX6_record ({ frames := 0, cells := 0, slots := 0, locals := 0 })).room s m [.ref a0].toArray below meth c H locs 0 0 (MQ below (QV (dC, dI) (wX6 ck a0 a0_z a0_past a0_slots a0_isSaved a0_pad a0_yes a0_no a0_yesThen a0_noThen a0_yesRound a0_yesRule a0_noRound a0_noRule a0_orders c_z o0 c_slots c_isSaved o1 c_pad c_typed c_yes c_no c_yesThen c_noThen c_yesRound c_yesRule c_noRound c_noRule c_rounds c_isMore c_orders c_orderMany c_spot c_bad) A) [.ref a0].toArray s 0 0 A) (F0 m 11 ls []) := by
      intro n11
      induction n11 with
      | zero => intro v1_L11 c_past_L11 h; exact lo2_z h
      | succ n11 ih11 =>
        intro v1_L11 c_past_L11 h H locs hP hD hS ls hl
        have h := lo2_s h
        unfold f_X6_record_L11 at h
        refine lv_iload_n hx hb dX6_record_11 rfl (lv_at hl 0 rfl) ?_
        refine lv_sipush (v := (1035 : Int32)) hx hb dX6_record_12 rfl ?_
        refine lv_icmp_ge (tgt := 40) hx hb dX6_record_15 (by decide) (fun c_15 => ?_) (fun c_15 => ?_)
        · have h := if_t h c_15
          refine lv_aload_n hx hb dX6_record_40 rfl (lv_at hl 1 rfl) ?_
          refine lv_dup hx hb dX6_record_41 rfl ?_
          refine va_get (ci := 6) (v := .int c_pastMany) (C := RX6) (T := TX6) (N := 21) hx hb hts iu_X6 hown hK.1 hP 0 rfl rfl 4 (by decide) (hts (.fieldLink RX6 66 "SheetMarksModel" "pastMany" "I") (List.mem_of_getElem? (i := 1) rfl)) (fun _ h9 => h9) rfl dX6_record_42 ?_
          refine lv_iconst (v := (1 : Int32)) hx hb dX6_record_45 rfl ?_
          refine lv_isub hx hb dX6_record_46 ?_
          refine lv_topi (fun c_pastMany_47 e_47 => ?_)
          have h := lt'_e e_47 h
          refine va_put (ci := 6) (v := .int c_pastMany_47) (ty := .int) (C := RX6) (T := TX6) (N := 21) hx hb hts iu_X6 tyX6 tyX6_ok nmX6 hown hK.1 hP hD hS 0 rfl rfl 4 (by decide) (hts (.fieldLink RX6 66 "SheetMarksModel" "pastMany" "I") (List.mem_of_getElem? (i := 1) rfl)) (fun _ h9 => h9) rfl (by decide +kernel) rfl rfl (Nat.le_of_ble_eq_true rfl) dX6_record_47 (fun H locs hP hD hS => ?_)
          have hP : va_P (dC, dI) vwCl (wX6 ck a0 a0_z a0_past a0_slots a0_isSaved a0_pad a0_yes a0_no a0_yesThen a0_noThen a0_yesRound a0_yesRule a0_noRound a0_noRule a0_orders c_z c_past_L11 c_slots c_isSaved c_pastMany_47 c_pad c_typed c_yes c_no c_yesThen c_noThen c_yesRound c_yesRule c_noRound c_noRule c_rounds c_isMore c_orders c_orderMany c_spot c_bad) H := hP
          have hD : va_D A (wX6 ck a0 a0_z a0_past a0_slots a0_isSaved a0_pad a0_yes a0_no a0_yesThen a0_noThen a0_yesRound a0_yesRule a0_noRound a0_noRule a0_orders c_z c_past_L11 c_slots c_isSaved c_pastMany_47 c_pad c_typed c_yes c_no c_yesThen c_noThen c_yesRound c_yesRule c_noRound c_noRule c_rounds c_isMore c_orders c_orderMany c_spot c_bad) := hD
          exact hJ50 _ _ h _ _ hP hD hS _ (lv_sub hl [1] rfl)
        · have h := if_f h c_15
          refine lv_aload_n hx hb dX6_record_18 rfl (lv_at hl 1 rfl) ?_
          refine va_get (ci := 6) (v := .ref a0_past) (C := RX6) (T := TX6) (N := 21) hx hb hts iu_X6 hown hK.1 hP 0 rfl rfl 1 (by decide) (hts (.fieldLink RX6 13 "SheetMarksModel" "past" "[I") (List.mem_of_getElem? (i := 2) rfl)) (fun _ h9 => h9) rfl dX6_record_19 ?_
          refine lv_iload_n hx hb dX6_record_22 rfl (lv_at hl 0 rfl) ?_
          refine lv_aload_n hx hb dX6_record_23 rfl (lv_at hl 1 rfl) ?_
          refine va_get (ci := 6) (v := .ref a0_past) (C := RX6) (T := TX6) (N := 21) hx hb hts iu_X6 hown hK.1 hP 0 rfl rfl 1 (by decide) (hts (.fieldLink RX6 13 "SheetMarksModel" "past" "[I") (List.mem_of_getElem? (i := 2) rfl)) (fun _ h9 => h9) rfl dX6_record_24 ?_
          refine lv_iload_n hx hb dX6_record_27 rfl (lv_at hl 0 rfl) ?_
          refine lv_sipush (v := (207 : Int32)) hx hb dX6_record_28 rfl ?_
          refine lv_iadd hx hb dX6_record_31 ?_
          obtain ⟨g_32, h⟩ := gd_e h
          refine va_iald hx hb hK.1 hP 2 0 rfl rfl g_32 dX6_record_32 ?_
          obtain ⟨g_33, h⟩ := gd_e h
          refine va_iast hx hb hK.1 hP hD hS 2 0 rfl rfl g_33 dX6_record_33 (fun H locs hP hD hS => ?_)
          obtain ⟨c_past_33, e_33⟩ : ∃ y : Nat → Int32, y = (upd c_past_L11 v1_L11.toNatClampNeg (c_past_L11 (v1_L11 + (207 : Int32)).toNatClampNeg)) := ⟨_, rfl⟩
          have h := lt'_e e_33 h
          have hP : va_P (dC, dI) vwCl (wX6 ck a0 a0_z a0_past a0_slots a0_isSaved a0_pad a0_yes a0_no a0_yesThen a0_noThen a0_yesRound a0_yesRule a0_noRound a0_noRule a0_orders c_z c_past_33 c_slots c_isSaved c_pastMany c_pad c_typed c_yes c_no c_yesThen c_noThen c_yesRound c_yesRule c_noRound c_noRule c_rounds c_isMore c_orders c_orderMany c_spot c_bad) H := by subst e_33; exact hP
          have hD : va_D A (wX6 ck a0 a0_z a0_past a0_slots a0_isSaved a0_pad a0_yes a0_no a0_yesThen a0_noThen a0_yesRound a0_yesRule a0_noRound a0_noRule a0_orders c_z c_past_33 c_slots c_isSaved c_pastMany c_pad c_typed c_yes c_no c_yesThen c_noThen c_yesRound c_yesRule c_noRound c_noRule c_rounds c_isMore c_orders c_orderMany c_spot c_bad) := by subst e_33; exact hD
          refine lv_iinc (v := (v1_L11 + (1 : Int32))) (lv' := [(1, .int (v1_L11 + (1 : Int32))), (0, .ref a0)]) hx hb dX6_record_34 hl (k := 0) rfl rfl (by decide) rfl (fun ls hl => ?_)
          refine lv_goto (tgt := 11) hx hb dX6_record_37 (by decide) ?_
          exact ih11 _ _ h _ _ hP hD hS _ (lv_sub hl [0, 1] rfl)
    exact hL11 _ _ _ h _ _ hP hD hS _ (lv_sub hl [0, 1] rfl)
noncomputable def f_X6_undo_L22 (c_past : Nat → Int32) (c_pastMany_17 : Int32) (rec22 : Int32 → (Nat → Int32) → Option (Int32 × (Nat → Int32) × Int32)) (v1_L22 : Int32) (c_z_L22 : Nat → Int32) : Option (Int32 × (Nat → Int32) × Int32) :=
  if (207 : Int32) ≤ v1_L22 then (some (c_pastMany_17, c_z_L22, c_pastMany_17)) else (gd ((c_pastMany_17 * (207 : Int32)) + v1_L22) 1242 (gd v1_L22 207 (lt' (upd c_z_L22 v1_L22.toNatClampNeg (c_past ((c_pastMany_17 * (207 : Int32)) + v1_L22).toNatClampNeg)) (fun c_z_49 : Nat → Int32 => rec22 (v1_L22 + (1 : Int32)) c_z_49))))
noncomputable def f_X6_undo (c_z : Nat → Int32) (c_past : Nat → Int32) (c_pastMany : Int32) : Option (Int32 × (Nat → Int32) × Int32) :=
  if c_pastMany = (0 : Int32) then (some ((-5 : Int32), c_z, c_pastMany)) else (lt' (c_pastMany - (1 : Int32)) (fun c_pastMany_17 : Int32 => lo2 (f_X6_undo_L22 c_past c_pastMany_17) FU (0 : Int32) c_z))
set_option maxHeartbeats 4000000 in
set_option maxRecDepth 100000 in
theorem c_X6_undo (l : Launch) (dC : Nat → ClassId) (dI : Nat → Nat → Nat) (ck : Nat → ClassId) (a0 a0_z a0_past a0_slots a0_isSaved a0_pad a0_yes a0_no a0_yesThen a0_noThen a0_yesRound a0_yesRule a0_noRound a0_noRule a0_orders : Nat) (c_z : Nat → Int32) (c_past : Nat → Int32) (c_slots : Nat → Int32) (c_isSaved : Nat → Int32) (c_pastMany : Int32) (c_pad : Nat → Int32) (c_typed : Int32) (c_yes : Nat → Int32) (c_no : Nat → Int32) (c_yesThen : Nat → Int32) (c_noThen : Nat → Int32) (c_yesRound : Nat → Int32) (c_yesRule : Nat → Int32) (c_noRound : Nat → Int32) (c_noRule : Nat → Int32) (c_rounds : Int32) (c_isMore : Int32) (c_orders : Nat → Int32) (c_orderMany : Int32) (c_spot : Int32) (c_bad : Int32) (o0 : Int32) (o1 : Nat → Int32) (o2 : Int32) (h : f_X6_undo c_z c_past c_pastMany = some (o0, o1, o2)) : MI l yX6_undo wsX6_undo ({ frames := 0, cells := 0, slots := 0, locals := 0 }) [.ref a0] (dC, dI) ck (wX6 ck a0 a0_z a0_past a0_slots a0_isSaved a0_pad a0_yes a0_no a0_yesThen a0_noThen a0_yesRound a0_yesRule a0_noRound a0_noRule a0_orders c_z c_past c_slots c_isSaved c_pastMany c_pad c_typed c_yes c_no c_yesThen c_noThen c_yesRound c_yesRule c_noRound c_noRule c_rounds c_isMore c_orders c_orderMany c_spot c_bad) (wX6 ck a0 a0_z a0_past a0_slots a0_isSaved a0_pad a0_yes a0_no a0_yesThen a0_noThen a0_yesRound a0_yesRule a0_noRound a0_noRule a0_orders o1 c_past c_slots c_isSaved o2 c_pad c_typed c_yes c_no c_yesThen c_noThen c_yesRound c_yesRule c_noRound c_noRule c_rounds c_isMore c_orders c_orderMany c_spot c_bad) o0 := by
  refine MI.ofW (cc := cX6_undo) (maxL := 2) (ret := (some .int)) (by decide +kernel) rfl (Nat.le_of_ble_eq_true rfl) ?_
  intro p e s m below meth c hx hb hr hml hts hown hlk hK hP A hA hD ls hl
  have hS : va_S A s.heap s.heap [] := va_S.rf
  have hown : s.vm.findClass RX6 = some m.cls := hown
  have hl : lv_has ls 2 [(0, .ref a0)] := hl
  have iu_X6 : ∀ w ∈ u_ws RX6 TX6 21, w ∈ wsX6_undo := fun w h => List.mem_cons_of_mem _ (List.mem_append_right _ h)
  unfold f_X6_undo at h
  refine lv_aload_n hx hb dX6_undo_0 rfl (lv_at hl 0 rfl) ?_
  refine va_get (ci := 6) (v := .int c_pastMany) (C := RX6) (T := TX6) (N := 21) hx hb hts iu_X6 hown hK.1 hP 0 rfl rfl 4 (by decide) (hts (.fieldLink RX6 66 "SheetMarksModel" "pastMany" "I") (List.mem_of_getElem? (i := 1) rfl)) (fun _ h9 => h9) rfl dX6_undo_1 ?_
  refine lv_if_ne (tgt := 10) hx hb dX6_undo_4 (by decide) (fun c_4 => ?_) (fun c_4 => ?_)
  · have h := if_f h c_4
    refine lv_aload_n hx hb dX6_undo_10 rfl (lv_at hl 0 rfl) ?_
    refine lv_dup hx hb dX6_undo_11 rfl ?_
    refine va_get (ci := 6) (v := .int c_pastMany) (C := RX6) (T := TX6) (N := 21) hx hb hts iu_X6 hown hK.1 hP 0 rfl rfl 4 (by decide) (hts (.fieldLink RX6 66 "SheetMarksModel" "pastMany" "I") (List.mem_of_getElem? (i := 1) rfl)) (fun _ h9 => h9) rfl dX6_undo_12 ?_
    refine lv_iconst (v := (1 : Int32)) hx hb dX6_undo_15 rfl ?_
    refine lv_isub hx hb dX6_undo_16 ?_
    refine lv_topi (fun c_pastMany_17 e_17 => ?_)
    have h := lt'_e e_17 h
    refine va_put (ci := 6) (v := .int c_pastMany_17) (ty := .int) (C := RX6) (T := TX6) (N := 21) hx hb hts iu_X6 tyX6 tyX6_ok nmX6 hown hK.1 hP hD hS 0 rfl rfl 4 (by decide) (hts (.fieldLink RX6 66 "SheetMarksModel" "pastMany" "I") (List.mem_of_getElem? (i := 1) rfl)) (fun _ h9 => h9) rfl (by decide +kernel) rfl rfl (Nat.le_of_ble_eq_true rfl) dX6_undo_17 (fun H locs hP hD hS => ?_)
    have hP : va_P (dC, dI) vwCl (wX6 ck a0 a0_z a0_past a0_slots a0_isSaved a0_pad a0_yes a0_no a0_yesThen a0_noThen a0_yesRound a0_yesRule a0_noRound a0_noRule a0_orders c_z c_past c_slots c_isSaved c_pastMany_17 c_pad c_typed c_yes c_no c_yesThen c_noThen c_yesRound c_yesRule c_noRound c_noRule c_rounds c_isMore c_orders c_orderMany c_spot c_bad) H := hP
    have hD : va_D A (wX6 ck a0 a0_z a0_past a0_slots a0_isSaved a0_pad a0_yes a0_no a0_yesThen a0_noThen a0_yesRound a0_yesRule a0_noRound a0_noRule a0_orders c_z c_past c_slots c_isSaved c_pastMany_17 c_pad c_typed c_yes c_no c_yesThen c_noThen c_yesRound c_yesRule c_noRound c_noRule c_rounds c_isMore c_orders c_orderMany c_spot c_bad) := hD
    refine lv_iconst (v := (0 : Int32)) hx hb dX6_undo_20 rfl ?_
    refine lv_istore_n (lv' := [(1, .int (0 : Int32)), (0, .ref a0)]) hx hb dX6_undo_21 rfl hl (by decide) rfl (fun ls hl => ?_)
    have hL22 : ∀ (n22 : Nat) (v1_L22 : Int32) (c_z_L22 : Nat → Int32), lo2 (f_X6_undo_L22 c_past c_pastMany_17) n22 v1_L22 c_z_L22 = some (o0, o1, o2) → ∀ (H : Heap) (locs : List Loc), va_P (dC, dI) vwCl (wX6 ck a0 a0_z a0_past a0_slots a0_isSaved a0_pad a0_yes a0_no a0_yesThen a0_noThen a0_yesRound a0_yesRule a0_noRound a0_noRule a0_orders c_z_L22 c_past c_slots c_isSaved c_pastMany_17 c_pad c_typed c_yes c_no c_yesThen c_noThen c_yesRound c_yesRule c_noRound c_noRule c_rounds c_isMore c_orders c_orderMany c_spot c_bad) H → va_D A (wX6 ck a0 a0_z a0_past a0_slots a0_isSaved a0_pad a0_yes a0_no a0_yesThen a0_noThen a0_yesRound a0_yesRule a0_noRound a0_noRule a0_orders c_z_L22 c_past c_slots c_isSaved c_pastMany_17 c_pad c_typed c_yes c_no c_yesThen c_noThen c_yesRound c_yesRule c_noRound c_noRule c_rounds c_isMore c_orders c_orderMany c_spot c_bad) → va_S A s.heap H locs → ∀ ls : Array Slot, lv_has ls 2 [(1, .int v1_L22), (0, .ref a0)] → W p l e (headSpec wsX6_undo ({ frames := 0, cells := 0, slots := 0, locals := 0 })).room s m [.ref a0].toArray below meth c H locs 0 0 (MQ below (QI (dC, dI) (wX6 ck a0 a0_z a0_past a0_slots a0_isSaved a0_pad a0_yes a0_no a0_yesThen a0_noThen a0_yesRound a0_yesRule a0_noRound a0_noRule a0_orders o1 c_past c_slots c_isSaved o2 c_pad c_typed c_yes c_no c_yesThen c_noThen c_yesRound c_yesRule c_noRound c_noRule c_rounds c_isMore c_orders c_orderMany c_spot c_bad) o0 A) [.ref a0].toArray s 0 0 A) (F0 m 22 ls []) := by
      intro n22
      induction n22 with
      | zero => intro v1_L22 c_z_L22 h; exact lo2_z h
      | succ n22 ih22 =>
        intro v1_L22 c_z_L22 h H locs hP hD hS ls hl
        have h := lo2_s h
        unfold f_X6_undo_L22 at h
        refine lv_iload_n hx hb dX6_undo_22 rfl (lv_at hl 0 rfl) ?_
        refine lv_sipush (v := (207 : Int32)) hx hb dX6_undo_23 rfl ?_
        refine lv_icmp_ge (tgt := 56) hx hb dX6_undo_26 (by decide) (fun c_26 => ?_) (fun c_26 => ?_)
        · have h := if_t h c_26
          refine lv_aload_n hx hb dX6_undo_56 rfl (lv_at hl 1 rfl) ?_
          refine va_get (ci := 6) (v := .int c_pastMany_17) (C := RX6) (T := TX6) (N := 21) hx hb hts iu_X6 hown hK.1 hP 0 rfl rfl 4 (by decide) (hts (.fieldLink RX6 66 "SheetMarksModel" "pastMany" "I") (List.mem_of_getElem? (i := 1) rfl)) (fun _ h9 => h9) rfl dX6_undo_57 ?_
          cases h
          exact eMi hx hb hr hlk hP hD hS rfl dX6_undo_60
        · have h := if_f h c_26
          refine lv_aload_n hx hb dX6_undo_29 rfl (lv_at hl 1 rfl) ?_
          refine va_get (ci := 6) (v := .ref a0_z) (C := RX6) (T := TX6) (N := 21) hx hb hts iu_X6 hown hK.1 hP 0 rfl rfl 0 (by decide) (hts (.fieldLink RX6 7 "SheetMarksModel" "z" "[I") (List.mem_of_getElem? (i := 2) rfl)) (fun _ h9 => h9) rfl dX6_undo_30 ?_
          refine lv_iload_n hx hb dX6_undo_33 rfl (lv_at hl 0 rfl) ?_
          refine lv_aload_n hx hb dX6_undo_34 rfl (lv_at hl 1 rfl) ?_
          refine va_get (ci := 6) (v := .ref a0_past) (C := RX6) (T := TX6) (N := 21) hx hb hts iu_X6 hown hK.1 hP 0 rfl rfl 1 (by decide) (hts (.fieldLink RX6 13 "SheetMarksModel" "past" "[I") (List.mem_of_getElem? (i := 3) rfl)) (fun _ h9 => h9) rfl dX6_undo_35 ?_
          refine lv_aload_n hx hb dX6_undo_38 rfl (lv_at hl 1 rfl) ?_
          refine va_get (ci := 6) (v := .int c_pastMany_17) (C := RX6) (T := TX6) (N := 21) hx hb hts iu_X6 hown hK.1 hP 0 rfl rfl 4 (by decide) (hts (.fieldLink RX6 66 "SheetMarksModel" "pastMany" "I") (List.mem_of_getElem? (i := 1) rfl)) (fun _ h9 => h9) rfl dX6_undo_39 ?_
          refine lv_sipush (v := (207 : Int32)) hx hb dX6_undo_42 rfl ?_
          refine lv_imul hx hb dX6_undo_45 ?_
          refine lv_iload_n hx hb dX6_undo_46 rfl (lv_at hl 0 rfl) ?_
          refine lv_iadd hx hb dX6_undo_47 ?_
          obtain ⟨g_48, h⟩ := gd_e h
          refine va_iald hx hb hK.1 hP 2 0 rfl rfl g_48 dX6_undo_48 ?_
          obtain ⟨g_49, h⟩ := gd_e h
          refine va_iast hx hb hK.1 hP hD hS 1 0 rfl rfl g_49 dX6_undo_49 (fun H locs hP hD hS => ?_)
          obtain ⟨c_z_49, e_49⟩ : ∃ y : Nat → Int32, y = (upd c_z_L22 v1_L22.toNatClampNeg (c_past ((c_pastMany_17 * (207 : Int32)) + v1_L22).toNatClampNeg)) := ⟨_, rfl⟩
          have h := lt'_e e_49 h
          have hP : va_P (dC, dI) vwCl (wX6 ck a0 a0_z a0_past a0_slots a0_isSaved a0_pad a0_yes a0_no a0_yesThen a0_noThen a0_yesRound a0_yesRule a0_noRound a0_noRule a0_orders c_z_49 c_past c_slots c_isSaved c_pastMany_17 c_pad c_typed c_yes c_no c_yesThen c_noThen c_yesRound c_yesRule c_noRound c_noRule c_rounds c_isMore c_orders c_orderMany c_spot c_bad) H := by subst e_49; exact hP
          have hD : va_D A (wX6 ck a0 a0_z a0_past a0_slots a0_isSaved a0_pad a0_yes a0_no a0_yesThen a0_noThen a0_yesRound a0_yesRule a0_noRound a0_noRule a0_orders c_z_49 c_past c_slots c_isSaved c_pastMany_17 c_pad c_typed c_yes c_no c_yesThen c_noThen c_yesRound c_yesRule c_noRound c_noRule c_rounds c_isMore c_orders c_orderMany c_spot c_bad) := by subst e_49; exact hD
          refine lv_iinc (v := (v1_L22 + (1 : Int32))) (lv' := [(1, .int (v1_L22 + (1 : Int32))), (0, .ref a0)]) hx hb dX6_undo_50 hl (k := 0) rfl rfl (by decide) rfl (fun ls hl => ?_)
          refine lv_goto (tgt := 22) hx hb dX6_undo_53 (by decide) ?_
          exact ih22 _ _ h _ _ hP hD hS _ (lv_sub hl [0, 1] rfl)
    exact hL22 _ _ _ h _ _ hP hD hS _ (lv_sub hl [0, 1] rfl)
  · have h := if_t h c_4
    refine lv_bipush (v := (-5 : Int32)) hx hb dX6_undo_7 rfl ?_
    cases h
    exact eMi hx hb hr hlk hP hD hS rfl dX6_undo_9
noncomputable def f_X6_save_L21 (c_z : Nat → Int32) (v1 : Int32) (c_isSaved_18 : Nat → Int32) (rec21 : Int32 → (Nat → Int32) → Option (Int32 × (Nat → Int32) × (Nat → Int32))) (v2_L21 : Int32) (c_slots_L21 : Nat → Int32) : Option (Int32 × (Nat → Int32) × (Nat → Int32)) :=
  if (207 : Int32) ≤ v2_L21 then (gd (1 : Int32) 207 (some ((c_z (1 : Int32).toNatClampNeg), c_slots_L21, c_isSaved_18))) else (gd v2_L21 207 (gd ((v1 * (207 : Int32)) + v2_L21) 414 (lt' (upd c_slots_L21 ((v1 * (207 : Int32)) + v2_L21).toNatClampNeg (c_z v2_L21.toNatClampNeg)) (fun c_slots_45 : Nat → Int32 => rec21 (v2_L21 + (1 : Int32)) c_slots_45))))
noncomputable def f_X6_save (c_z : Nat → Int32) (c_slots : Nat → Int32) (c_isSaved : Nat → Int32) (v1 : Int32) : Option (Int32 × (Nat → Int32) × (Nat → Int32)) :=
  ob1 (f_X6_in v1 (0 : Int32) (1 : Int32)) (fun (r_3 : Int32) => if r_3 = (0 : Int32) then (some ((-2 : Int32), c_slots, c_isSaved)) else (gd v1 2 (lt' (upd c_isSaved v1.toNatClampNeg (vp_nar .boolean (1 : Int32))) (fun c_isSaved_18 : Nat → Int32 => lo2 (f_X6_save_L21 c_z v1 c_isSaved_18) FU (0 : Int32) c_slots))))
set_option maxHeartbeats 4000000 in
set_option maxRecDepth 100000 in
theorem c_X6_save (l : Launch) (dC : Nat → ClassId) (dI : Nat → Nat → Nat) (ck : Nat → ClassId) (a0 a0_z a0_past a0_slots a0_isSaved a0_pad a0_yes a0_no a0_yesThen a0_noThen a0_yesRound a0_yesRule a0_noRound a0_noRule a0_orders : Nat) (c_z : Nat → Int32) (c_past : Nat → Int32) (c_slots : Nat → Int32) (c_isSaved : Nat → Int32) (c_pastMany : Int32) (c_pad : Nat → Int32) (c_typed : Int32) (c_yes : Nat → Int32) (c_no : Nat → Int32) (c_yesThen : Nat → Int32) (c_noThen : Nat → Int32) (c_yesRound : Nat → Int32) (c_yesRule : Nat → Int32) (c_noRound : Nat → Int32) (c_noRule : Nat → Int32) (c_rounds : Int32) (c_isMore : Int32) (c_orders : Nat → Int32) (c_orderMany : Int32) (c_spot : Int32) (c_bad : Int32) (v1 : Int32) (o0 : Int32) (o1 : Nat → Int32) (o2 : Nat → Int32) (h : f_X6_save c_z c_slots c_isSaved v1 = some (o0, o1, o2)) : MI l yX6_save wsX6_save ({ frames := 1, cells := 0, slots := 0, locals := 22 }) [.ref a0, .int v1] (dC, dI) ck (wX6 ck a0 a0_z a0_past a0_slots a0_isSaved a0_pad a0_yes a0_no a0_yesThen a0_noThen a0_yesRound a0_yesRule a0_noRound a0_noRule a0_orders c_z c_past c_slots c_isSaved c_pastMany c_pad c_typed c_yes c_no c_yesThen c_noThen c_yesRound c_yesRule c_noRound c_noRule c_rounds c_isMore c_orders c_orderMany c_spot c_bad) (wX6 ck a0 a0_z a0_past a0_slots a0_isSaved a0_pad a0_yes a0_no a0_yesThen a0_noThen a0_yesRound a0_yesRule a0_noRound a0_noRule a0_orders c_z c_past o1 o2 c_pastMany c_pad c_typed c_yes c_no c_yesThen c_noThen c_yesRound c_yesRule c_noRound c_noRule c_rounds c_isMore c_orders c_orderMany c_spot c_bad) o0 := by
  refine MI.ofW (cc := cX6_save) (maxL := 3) (ret := (some .int)) (by decide +kernel) rfl (Nat.le_of_ble_eq_true rfl) ?_
  intro p e s m below meth c hx hb hr hml hts hown hlk hK hP A hA hD ls hl
  have hS : va_S A s.heap s.heap [] := va_S.rf
  have hown : s.vm.findClass RX6 = some m.cls := hown
  have hl : lv_has ls 3 [(0, .ref a0), (1, .int v1)] := hl
  have iu_X6 : ∀ w ∈ u_ws RX6 TX6 21, w ∈ wsX6_save := fun w h => List.mem_cons_of_mem _ (List.mem_append_right _ h)
  unfold f_X6_save at h
  refine lv_iload_n hx hb dX6_save_0 rfl (lv_at hl 1 rfl) ?_
  refine lv_iconst (v := (0 : Int32)) hx hb dX6_save_1 rfl ?_
  refine lv_iconst (v := (1 : Int32)) hx hb dX6_save_2 rfl ?_
  obtain ⟨r_3, q_3, h⟩ := ob1_e h
  refine cRS (wc := []) ⟨hx, hb, hml, hown, hts⟩ hK hP [] rfl (c_X6_in l dC dI ck v1 (0 : Int32) (1 : Int32) r_3 q_3) (va_cwS 3 hts gX6_save_X6_in rfl rfl rfl (by decide +kernel) ⟨Nat.le_of_ble_eq_true rfl, Nat.le_of_ble_eq_true rfl⟩) rfl hl.1 rfl (Nat.le_of_ble_eq_true rfl) dX6_save_3 ⟨Nat.zero_le _, Nat.zero_le _⟩ ?_
  refine lv_if_ne (tgt := 12) hx hb dX6_save_6 (by decide) (fun c_6 => ?_) (fun c_6 => ?_)
  · have h := if_f h c_6
    refine lv_aload_n hx hb dX6_save_12 rfl (lv_at hl 0 rfl) ?_
    refine va_get (ci := 6) (v := .ref a0_isSaved) (C := RX6) (T := TX6) (N := 21) hx hb hts iu_X6 hown hK.1 hP 0 rfl rfl 3 (by decide) (hts (.fieldLink RX6 19 "SheetMarksModel" "isSaved" "[Z") (List.mem_of_getElem? (i := 1) rfl)) (fun _ h9 => h9) rfl dX6_save_13 ?_
    refine lv_iload_n hx hb dX6_save_16 rfl (lv_at hl 1 rfl) ?_
    refine lv_iconst (v := (1 : Int32)) hx hb dX6_save_17 rfl ?_
    obtain ⟨g_18, h⟩ := gd_e h
    refine va_zast hx hb hK.1 hP hD hS 4 3 rfl rfl g_18 dX6_save_18 (fun H locs hP hD hS => ?_)
    obtain ⟨c_isSaved_18, e_18⟩ : ∃ y : Nat → Int32, y = (upd c_isSaved v1.toNatClampNeg (vp_nar .boolean (1 : Int32))) := ⟨_, rfl⟩
    have h := lt'_e e_18 h
    have hP : va_P (dC, dI) vwCl (wX6 ck a0 a0_z a0_past a0_slots a0_isSaved a0_pad a0_yes a0_no a0_yesThen a0_noThen a0_yesRound a0_yesRule a0_noRound a0_noRule a0_orders c_z c_past c_slots c_isSaved_18 c_pastMany c_pad c_typed c_yes c_no c_yesThen c_noThen c_yesRound c_yesRule c_noRound c_noRule c_rounds c_isMore c_orders c_orderMany c_spot c_bad) H := by subst e_18; exact hP
    have hD : va_D A (wX6 ck a0 a0_z a0_past a0_slots a0_isSaved a0_pad a0_yes a0_no a0_yesThen a0_noThen a0_yesRound a0_yesRule a0_noRound a0_noRule a0_orders c_z c_past c_slots c_isSaved_18 c_pastMany c_pad c_typed c_yes c_no c_yesThen c_noThen c_yesRound c_yesRule c_noRound c_noRule c_rounds c_isMore c_orders c_orderMany c_spot c_bad) := by subst e_18; exact hD
    refine lv_iconst (v := (0 : Int32)) hx hb dX6_save_19 rfl ?_
    refine lv_istore_n (lv' := [(2, .int (0 : Int32)), (0, .ref a0), (1, .int v1)]) hx hb dX6_save_20 rfl hl (by decide) rfl (fun ls hl => ?_)
    have hL21 : ∀ (n21 : Nat) (v2_L21 : Int32) (c_slots_L21 : Nat → Int32), lo2 (f_X6_save_L21 c_z v1 c_isSaved_18) n21 v2_L21 c_slots_L21 = some (o0, o1, o2) → ∀ (H : Heap) (locs : List Loc), va_P (dC, dI) vwCl (wX6 ck a0 a0_z a0_past a0_slots a0_isSaved a0_pad a0_yes a0_no a0_yesThen a0_noThen a0_yesRound a0_yesRule a0_noRound a0_noRule a0_orders c_z c_past c_slots_L21 c_isSaved_18 c_pastMany c_pad c_typed c_yes c_no c_yesThen c_noThen c_yesRound c_yesRule c_noRound c_noRule c_rounds c_isMore c_orders c_orderMany c_spot c_bad) H → va_D A (wX6 ck a0 a0_z a0_past a0_slots a0_isSaved a0_pad a0_yes a0_no a0_yesThen a0_noThen a0_yesRound a0_yesRule a0_noRound a0_noRule a0_orders c_z c_past c_slots_L21 c_isSaved_18 c_pastMany c_pad c_typed c_yes c_no c_yesThen c_noThen c_yesRound c_yesRule c_noRound c_noRule c_rounds c_isMore c_orders c_orderMany c_spot c_bad) → va_S A s.heap H locs → ∀ ls : Array Slot, lv_has ls 3 [(2, .int v2_L21), (0, .ref a0), (1, .int v1)] → W p l e (headSpec wsX6_save ({ frames := 1, cells := 0, slots := 0, locals := 22 })).room s m [.ref a0, .int v1].toArray below meth c H locs 0 0 (MQ below (QI (dC, dI) (wX6 ck a0 a0_z a0_past a0_slots a0_isSaved a0_pad a0_yes a0_no a0_yesThen a0_noThen a0_yesRound a0_yesRule a0_noRound a0_noRule a0_orders c_z c_past o1 o2 c_pastMany c_pad c_typed c_yes c_no c_yesThen c_noThen c_yesRound c_yesRule c_noRound c_noRule c_rounds c_isMore c_orders c_orderMany c_spot c_bad) o0 A) [.ref a0, .int v1].toArray s 0 0 A) (F0 m 21 ls []) := by
      intro n21
      induction n21 with
      | zero => intro v2_L21 c_slots_L21 h; exact lo2_z h
      | succ n21 ih21 =>
        intro v2_L21 c_slots_L21 h H locs hP hD hS ls hl
        have h := lo2_s h
        unfold f_X6_save_L21 at h
        refine lv_iload_n hx hb dX6_save_21 rfl (lv_at hl 0 rfl) ?_
        refine lv_sipush (v := (207 : Int32)) hx hb dX6_save_22 rfl ?_
        refine lv_icmp_ge (tgt := 52) hx hb dX6_save_25 (by decide) (fun c_25 => ?_) (fun c_25 => ?_)
        · have h := if_t h c_25
          refine lv_aload_n hx hb dX6_save_52 rfl (lv_at hl 1 rfl) ?_
          refine va_get (ci := 6) (v := .ref a0_z) (C := RX6) (T := TX6) (N := 21) hx hb hts iu_X6 hown hK.1 hP 0 rfl rfl 0 (by decide) (hts (.fieldLink RX6 7 "SheetMarksModel" "z" "[I") (List.mem_of_getElem? (i := 3) rfl)) (fun _ h9 => h9) rfl dX6_save_53 ?_
          refine lv_iconst (v := (1 : Int32)) hx hb dX6_save_56 rfl ?_
          obtain ⟨g_57, h⟩ := gd_e h
          refine va_iald hx hb hK.1 hP 1 0 rfl rfl g_57 dX6_save_57 ?_
          cases h
          exact eMi hx hb hr hlk hP hD hS rfl dX6_save_58
        · have h := if_f h c_25
          refine lv_aload_n hx hb dX6_save_28 rfl (lv_at hl 1 rfl) ?_
          refine va_get (ci := 6) (v := .ref a0_slots) (C := RX6) (T := TX6) (N := 21) hx hb hts iu_X6 hown hK.1 hP 0 rfl rfl 2 (by decide) (hts (.fieldLink RX6 16 "SheetMarksModel" "slots" "[I") (List.mem_of_getElem? (i := 2) rfl)) (fun _ h9 => h9) rfl dX6_save_29 ?_
          refine lv_iload_n hx hb dX6_save_32 rfl (lv_at hl 2 rfl) ?_
          refine lv_sipush (v := (207 : Int32)) hx hb dX6_save_33 rfl ?_
          refine lv_imul hx hb dX6_save_36 ?_
          refine lv_iload_n hx hb dX6_save_37 rfl (lv_at hl 0 rfl) ?_
          refine lv_iadd hx hb dX6_save_38 ?_
          refine lv_aload_n hx hb dX6_save_39 rfl (lv_at hl 1 rfl) ?_
          refine va_get (ci := 6) (v := .ref a0_z) (C := RX6) (T := TX6) (N := 21) hx hb hts iu_X6 hown hK.1 hP 0 rfl rfl 0 (by decide) (hts (.fieldLink RX6 7 "SheetMarksModel" "z" "[I") (List.mem_of_getElem? (i := 3) rfl)) (fun _ h9 => h9) rfl dX6_save_40 ?_
          refine lv_iload_n hx hb dX6_save_43 rfl (lv_at hl 0 rfl) ?_
          obtain ⟨g_44, h⟩ := gd_e h
          refine va_iald hx hb hK.1 hP 1 0 rfl rfl g_44 dX6_save_44 ?_
          obtain ⟨g_45, h⟩ := gd_e h
          refine va_iast hx hb hK.1 hP hD hS 3 0 rfl rfl g_45 dX6_save_45 (fun H locs hP hD hS => ?_)
          obtain ⟨c_slots_45, e_45⟩ : ∃ y : Nat → Int32, y = (upd c_slots_L21 ((v1 * (207 : Int32)) + v2_L21).toNatClampNeg (c_z v2_L21.toNatClampNeg)) := ⟨_, rfl⟩
          have h := lt'_e e_45 h
          have hP : va_P (dC, dI) vwCl (wX6 ck a0 a0_z a0_past a0_slots a0_isSaved a0_pad a0_yes a0_no a0_yesThen a0_noThen a0_yesRound a0_yesRule a0_noRound a0_noRule a0_orders c_z c_past c_slots_45 c_isSaved_18 c_pastMany c_pad c_typed c_yes c_no c_yesThen c_noThen c_yesRound c_yesRule c_noRound c_noRule c_rounds c_isMore c_orders c_orderMany c_spot c_bad) H := by subst e_45; exact hP
          have hD : va_D A (wX6 ck a0 a0_z a0_past a0_slots a0_isSaved a0_pad a0_yes a0_no a0_yesThen a0_noThen a0_yesRound a0_yesRule a0_noRound a0_noRule a0_orders c_z c_past c_slots_45 c_isSaved_18 c_pastMany c_pad c_typed c_yes c_no c_yesThen c_noThen c_yesRound c_yesRule c_noRound c_noRule c_rounds c_isMore c_orders c_orderMany c_spot c_bad) := by subst e_45; exact hD
          refine lv_iinc (v := (v2_L21 + (1 : Int32))) (lv' := [(2, .int (v2_L21 + (1 : Int32))), (0, .ref a0), (1, .int v1)]) hx hb dX6_save_46 hl (k := 0) rfl rfl (by decide) rfl (fun ls hl => ?_)
          refine lv_goto (tgt := 21) hx hb dX6_save_49 (by decide) ?_
          exact ih21 _ _ h _ _ hP hD hS _ (lv_sub hl [0, 1, 2] rfl)
    exact hL21 _ _ _ h _ _ hP hD hS _ (lv_sub hl [0, 1, 2] rfl)
  · have h := if_t h c_6
    refine lv_bipush (v := (-2 : Int32)) hx hb dX6_save_9 rfl ?_
    cases h
    exact eMi hx hb hr hlk hP hD hS rfl dX6_save_11
noncomputable def f_X6_restore_L30 (c_slots : Nat → Int32) (v1 : Int32) (c_past_25 : Nat → Int32) (c_pastMany_25 : Int32) (rec30 : Int32 → (Nat → Int32) → Option (Int32 × (Nat → Int32) × (Nat → Int32) × Int32)) (v2_L30 : Int32) (c_z_L30 : Nat → Int32) : Option (Int32 × (Nat → Int32) × (Nat → Int32) × Int32) :=
  if (207 : Int32) ≤ v2_L30 then (gd (1 : Int32) 207 (some ((c_z_L30 (1 : Int32).toNatClampNeg), c_z_L30, c_past_25, c_pastMany_25))) else (gd ((v1 * (207 : Int32)) + v2_L30) 414 (gd v2_L30 207 (lt' (upd c_z_L30 v2_L30.toNatClampNeg (c_slots ((v1 * (207 : Int32)) + v2_L30).toNatClampNeg)) (fun c_z_54 : Nat → Int32 => rec30 (v2_L30 + (1 : Int32)) c_z_54))))
noncomputable def f_X6_restore (c_z : Nat → Int32) (c_past : Nat → Int32) (c_slots : Nat → Int32) (c_isSaved : Nat → Int32) (c_pastMany : Int32) (v1 : Int32) : Option (Int32 × (Nat → Int32) × (Nat → Int32) × Int32) :=
  ob1 (f_X6_in v1 (0 : Int32) (1 : Int32)) (fun (r_3 : Int32) => if r_3 = (0 : Int32) then (some ((-2 : Int32), c_z, c_past, c_pastMany)) else (gd v1 2 (if (c_isSaved v1.toNatClampNeg) = (0 : Int32) then (some ((-5 : Int32), c_z, c_past, c_pastMany)) else (ob2 (f_X6_record c_z c_past c_pastMany) (fun (c_past_25 : Nat → Int32) (c_pastMany_25 : Int32) => lo2 (f_X6_restore_L30 c_slots v1 c_past_25 c_pastMany_25) FU (0 : Int32) c_z)))))
set_option maxHeartbeats 4000000 in
set_option maxRecDepth 100000 in
theorem c_X6_restore (l : Launch) (dC : Nat → ClassId) (dI : Nat → Nat → Nat) (ck : Nat → ClassId) (a0 a0_z a0_past a0_slots a0_isSaved a0_pad a0_yes a0_no a0_yesThen a0_noThen a0_yesRound a0_yesRule a0_noRound a0_noRule a0_orders : Nat) (c_z : Nat → Int32) (c_past : Nat → Int32) (c_slots : Nat → Int32) (c_isSaved : Nat → Int32) (c_pastMany : Int32) (c_pad : Nat → Int32) (c_typed : Int32) (c_yes : Nat → Int32) (c_no : Nat → Int32) (c_yesThen : Nat → Int32) (c_noThen : Nat → Int32) (c_yesRound : Nat → Int32) (c_yesRule : Nat → Int32) (c_noRound : Nat → Int32) (c_noRule : Nat → Int32) (c_rounds : Int32) (c_isMore : Int32) (c_orders : Nat → Int32) (c_orderMany : Int32) (c_spot : Int32) (c_bad : Int32) (v1 : Int32) (o0 : Int32) (o1 : Nat → Int32) (o2 : Nat → Int32) (o3 : Int32) (h : f_X6_restore c_z c_past c_slots c_isSaved c_pastMany v1 = some (o0, o1, o2, o3)) : MI l yX6_restore wsX6_restore ({ frames := 1, cells := 0, slots := 0, locals := 22 }) [.ref a0, .int v1] (dC, dI) ck (wX6 ck a0 a0_z a0_past a0_slots a0_isSaved a0_pad a0_yes a0_no a0_yesThen a0_noThen a0_yesRound a0_yesRule a0_noRound a0_noRule a0_orders c_z c_past c_slots c_isSaved c_pastMany c_pad c_typed c_yes c_no c_yesThen c_noThen c_yesRound c_yesRule c_noRound c_noRule c_rounds c_isMore c_orders c_orderMany c_spot c_bad) (wX6 ck a0 a0_z a0_past a0_slots a0_isSaved a0_pad a0_yes a0_no a0_yesThen a0_noThen a0_yesRound a0_yesRule a0_noRound a0_noRule a0_orders o1 o2 c_slots c_isSaved o3 c_pad c_typed c_yes c_no c_yesThen c_noThen c_yesRound c_yesRule c_noRound c_noRule c_rounds c_isMore c_orders c_orderMany c_spot c_bad) o0 := by
  refine MI.ofW (cc := cX6_restore) (maxL := 3) (ret := (some .int)) (by decide +kernel) rfl (Nat.le_of_ble_eq_true rfl) ?_
  intro p e s m below meth c hx hb hr hml hts hown hlk hK hP A hA hD ls hl
  have hS : va_S A s.heap s.heap [] := va_S.rf
  have hown : s.vm.findClass RX6 = some m.cls := hown
  have hl : lv_has ls 3 [(0, .ref a0), (1, .int v1)] := hl
  have iu_X6 : ∀ w ∈ u_ws RX6 TX6 21, w ∈ wsX6_restore := fun w h => List.mem_cons_of_mem _ (List.mem_append_right _ h)
  unfold f_X6_restore at h
  refine lv_iload_n hx hb dX6_restore_0 rfl (lv_at hl 1 rfl) ?_
  refine lv_iconst (v := (0 : Int32)) hx hb dX6_restore_1 rfl ?_
  refine lv_iconst (v := (1 : Int32)) hx hb dX6_restore_2 rfl ?_
  obtain ⟨r_3, q_3, h⟩ := ob1_e h
  refine cRS (wc := []) ⟨hx, hb, hml, hown, hts⟩ hK hP [] rfl (c_X6_in l dC dI ck v1 (0 : Int32) (1 : Int32) r_3 q_3) (va_cwS 3 hts gX6_restore_X6_in rfl rfl rfl (by decide +kernel) ⟨Nat.le_of_ble_eq_true rfl, Nat.le_of_ble_eq_true rfl⟩) rfl hl.1 rfl (Nat.le_of_ble_eq_true rfl) dX6_restore_3 ⟨Nat.zero_le _, Nat.zero_le _⟩ ?_
  refine lv_if_ne (tgt := 12) hx hb dX6_restore_6 (by decide) (fun c_6 => ?_) (fun c_6 => ?_)
  · have h := if_f h c_6
    refine lv_aload_n hx hb dX6_restore_12 rfl (lv_at hl 0 rfl) ?_
    refine va_get (ci := 6) (v := .ref a0_isSaved) (C := RX6) (T := TX6) (N := 21) hx hb hts iu_X6 hown hK.1 hP 0 rfl rfl 3 (by decide) (hts (.fieldLink RX6 19 "SheetMarksModel" "isSaved" "[Z") (List.mem_of_getElem? (i := 1) rfl)) (fun _ h9 => h9) rfl dX6_restore_13 ?_
    refine lv_iload_n hx hb dX6_restore_16 rfl (lv_at hl 1 rfl) ?_
    obtain ⟨g_17, h⟩ := gd_e h
    refine va_zald hx hb hK.1 hP 4 3 rfl rfl g_17 dX6_restore_17 ?_
    refine lv_if_ne (tgt := 24) hx hb dX6_restore_18 (by decide) (fun c_18 => ?_) (fun c_18 => ?_)
    · have h := if_f h c_18
      refine lv_aload_n hx hb dX6_restore_24 rfl (lv_at hl 0 rfl) ?_
      obtain ⟨c_past_25, c_pastMany_25, q_25, h⟩ := ob2_e h
      refine cMV (wc := wX6 ck a0 a0_z a0_past a0_slots a0_isSaved a0_pad a0_yes a0_no a0_yesThen a0_noThen a0_yesRound a0_yesRule a0_noRound a0_noRule a0_orders c_z c_past c_slots c_isSaved c_pastMany c_pad c_typed c_yes c_no c_yesThen c_noThen c_yesRound c_yesRule c_noRound c_noRule c_rounds c_isMore c_orders c_orderMany c_spot c_bad) (wr := []) (w1 := wX6 ck a0 a0_z a0_past a0_slots a0_isSaved a0_pad a0_yes a0_no a0_yesThen a0_noThen a0_yesRound a0_yesRule a0_noRound a0_noRule a0_orders c_z c_past_25 c_slots c_isSaved c_pastMany_25 c_pad c_typed c_yes c_no c_yesThen c_noThen c_yesRound c_yesRule c_noRound c_noRule c_rounds c_isMore c_orders c_orderMany c_spot c_bad) (wn := wX6 ck a0 a0_z a0_past a0_slots a0_isSaved a0_pad a0_yes a0_no a0_yesThen a0_noThen a0_yesRound a0_yesRule a0_noRound a0_noRule a0_orders c_z c_past_25 c_slots c_isSaved c_pastMany_25 c_pad c_typed c_yes c_no c_yesThen c_noThen c_yesRound c_yesRule c_noRound c_noRule c_rounds c_isMore c_orders c_orderMany c_spot c_bad) ⟨hx, hb, hml, hown, hts⟩ hK hP hD hS hA [0, 1, 2, 3, 4, 5, 6, 7, 8, 9, 10, 11, 12, 13, 14] [] [0, 1, 2, 3, 4, 5, 6, 7, 8, 9, 10, 11, 12, 13, 14] rfl (by decide) rfl (by decide) (by decide) rfl (by decide) (c_X6_record l dC dI ck a0 a0_z a0_past a0_slots a0_isSaved a0_pad a0_yes a0_no a0_yesThen a0_noThen a0_yesRound a0_yesRule a0_noRound a0_noRule a0_orders c_z c_past c_slots c_isSaved c_pastMany c_pad c_typed c_yes c_no c_yesThen c_noThen c_yesRound c_yesRule c_noRound c_noRule c_rounds c_isMore c_orders c_orderMany c_spot c_bad c_past_25 c_pastMany_25 q_25) (cwV 0 hts gX6_restore_X6_record rfl rfl rfl (by decide +kernel) ⟨Nat.le_of_ble_eq_true rfl, Nat.le_of_ble_eq_true rfl⟩) 0 rfl rfl rfl hl.1 rfl (Nat.le_of_ble_eq_true rfl) dX6_restore_25 ⟨Nat.zero_le _, Nat.zero_le _⟩ (fun H locs hP hD hS => ?_)
      refine lv_iconst (v := (0 : Int32)) hx hb dX6_restore_28 rfl ?_
      refine lv_istore_n (lv' := [(2, .int (0 : Int32)), (0, .ref a0), (1, .int v1)]) hx hb dX6_restore_29 rfl hl (by decide) rfl (fun ls hl => ?_)
      have hL30 : ∀ (n30 : Nat) (v2_L30 : Int32) (c_z_L30 : Nat → Int32), lo2 (f_X6_restore_L30 c_slots v1 c_past_25 c_pastMany_25) n30 v2_L30 c_z_L30 = some (o0, o1, o2, o3) → ∀ (H : Heap) (locs : List Loc), va_P (dC, dI) vwCl (wX6 ck a0 a0_z a0_past a0_slots a0_isSaved a0_pad a0_yes a0_no a0_yesThen a0_noThen a0_yesRound a0_yesRule a0_noRound a0_noRule a0_orders c_z_L30 c_past_25 c_slots c_isSaved c_pastMany_25 c_pad c_typed c_yes c_no c_yesThen c_noThen c_yesRound c_yesRule c_noRound c_noRule c_rounds c_isMore c_orders c_orderMany c_spot c_bad) H → va_D A (wX6 ck a0 a0_z a0_past a0_slots a0_isSaved a0_pad a0_yes a0_no a0_yesThen a0_noThen a0_yesRound a0_yesRule a0_noRound a0_noRule a0_orders c_z_L30 c_past_25 c_slots c_isSaved c_pastMany_25 c_pad c_typed c_yes c_no c_yesThen c_noThen c_yesRound c_yesRule c_noRound c_noRule c_rounds c_isMore c_orders c_orderMany c_spot c_bad) → va_S A s.heap H locs → ∀ ls : Array Slot, lv_has ls 3 [(2, .int v2_L30), (0, .ref a0), (1, .int v1)] → W p l e (headSpec wsX6_restore ({ frames := 1, cells := 0, slots := 0, locals := 22 })).room s m [.ref a0, .int v1].toArray below meth c H locs 0 0 (MQ below (QI (dC, dI) (wX6 ck a0 a0_z a0_past a0_slots a0_isSaved a0_pad a0_yes a0_no a0_yesThen a0_noThen a0_yesRound a0_yesRule a0_noRound a0_noRule a0_orders o1 o2 c_slots c_isSaved o3 c_pad c_typed c_yes c_no c_yesThen c_noThen c_yesRound c_yesRule c_noRound c_noRule c_rounds c_isMore c_orders c_orderMany c_spot c_bad) o0 A) [.ref a0, .int v1].toArray s 0 0 A) (F0 m 30 ls []) := by
        intro n30
        induction n30 with
        | zero => intro v2_L30 c_z_L30 h; exact lo2_z h
        | succ n30 ih30 =>
          intro v2_L30 c_z_L30 h H locs hP hD hS ls hl
          have h := lo2_s h
          unfold f_X6_restore_L30 at h
          refine lv_iload_n hx hb dX6_restore_30 rfl (lv_at hl 0 rfl) ?_
          refine lv_sipush (v := (207 : Int32)) hx hb dX6_restore_31 rfl ?_
          refine lv_icmp_ge (tgt := 61) hx hb dX6_restore_34 (by decide) (fun c_34 => ?_) (fun c_34 => ?_)
          · have h := if_t h c_34
            refine lv_aload_n hx hb dX6_restore_61 rfl (lv_at hl 1 rfl) ?_
            refine va_get (ci := 6) (v := .ref a0_z) (C := RX6) (T := TX6) (N := 21) hx hb hts iu_X6 hown hK.1 hP 0 rfl rfl 0 (by decide) (hts (.fieldLink RX6 7 "SheetMarksModel" "z" "[I") (List.mem_of_getElem? (i := 2) rfl)) (fun _ h9 => h9) rfl dX6_restore_62 ?_
            refine lv_iconst (v := (1 : Int32)) hx hb dX6_restore_65 rfl ?_
            obtain ⟨g_66, h⟩ := gd_e h
            refine va_iald hx hb hK.1 hP 1 0 rfl rfl g_66 dX6_restore_66 ?_
            cases h
            exact eMi hx hb hr hlk hP hD hS rfl dX6_restore_67
          · have h := if_f h c_34
            refine lv_aload_n hx hb dX6_restore_37 rfl (lv_at hl 1 rfl) ?_
            refine va_get (ci := 6) (v := .ref a0_z) (C := RX6) (T := TX6) (N := 21) hx hb hts iu_X6 hown hK.1 hP 0 rfl rfl 0 (by decide) (hts (.fieldLink RX6 7 "SheetMarksModel" "z" "[I") (List.mem_of_getElem? (i := 2) rfl)) (fun _ h9 => h9) rfl dX6_restore_38 ?_
            refine lv_iload_n hx hb dX6_restore_41 rfl (lv_at hl 0 rfl) ?_
            refine lv_aload_n hx hb dX6_restore_42 rfl (lv_at hl 1 rfl) ?_
            refine va_get (ci := 6) (v := .ref a0_slots) (C := RX6) (T := TX6) (N := 21) hx hb hts iu_X6 hown hK.1 hP 0 rfl rfl 2 (by decide) (hts (.fieldLink RX6 16 "SheetMarksModel" "slots" "[I") (List.mem_of_getElem? (i := 3) rfl)) (fun _ h9 => h9) rfl dX6_restore_43 ?_
            refine lv_iload_n hx hb dX6_restore_46 rfl (lv_at hl 2 rfl) ?_
            refine lv_sipush (v := (207 : Int32)) hx hb dX6_restore_47 rfl ?_
            refine lv_imul hx hb dX6_restore_50 ?_
            refine lv_iload_n hx hb dX6_restore_51 rfl (lv_at hl 0 rfl) ?_
            refine lv_iadd hx hb dX6_restore_52 ?_
            obtain ⟨g_53, h⟩ := gd_e h
            refine va_iald hx hb hK.1 hP 3 0 rfl rfl g_53 dX6_restore_53 ?_
            obtain ⟨g_54, h⟩ := gd_e h
            refine va_iast hx hb hK.1 hP hD hS 1 0 rfl rfl g_54 dX6_restore_54 (fun H locs hP hD hS => ?_)
            obtain ⟨c_z_54, e_54⟩ : ∃ y : Nat → Int32, y = (upd c_z_L30 v2_L30.toNatClampNeg (c_slots ((v1 * (207 : Int32)) + v2_L30).toNatClampNeg)) := ⟨_, rfl⟩
            have h := lt'_e e_54 h
            have hP : va_P (dC, dI) vwCl (wX6 ck a0 a0_z a0_past a0_slots a0_isSaved a0_pad a0_yes a0_no a0_yesThen a0_noThen a0_yesRound a0_yesRule a0_noRound a0_noRule a0_orders c_z_54 c_past_25 c_slots c_isSaved c_pastMany_25 c_pad c_typed c_yes c_no c_yesThen c_noThen c_yesRound c_yesRule c_noRound c_noRule c_rounds c_isMore c_orders c_orderMany c_spot c_bad) H := by subst e_54; exact hP
            have hD : va_D A (wX6 ck a0 a0_z a0_past a0_slots a0_isSaved a0_pad a0_yes a0_no a0_yesThen a0_noThen a0_yesRound a0_yesRule a0_noRound a0_noRule a0_orders c_z_54 c_past_25 c_slots c_isSaved c_pastMany_25 c_pad c_typed c_yes c_no c_yesThen c_noThen c_yesRound c_yesRule c_noRound c_noRule c_rounds c_isMore c_orders c_orderMany c_spot c_bad) := by subst e_54; exact hD
            refine lv_iinc (v := (v2_L30 + (1 : Int32))) (lv' := [(2, .int (v2_L30 + (1 : Int32))), (0, .ref a0), (1, .int v1)]) hx hb dX6_restore_55 hl (k := 0) rfl rfl (by decide) rfl (fun ls hl => ?_)
            refine lv_goto (tgt := 30) hx hb dX6_restore_58 (by decide) ?_
            exact ih30 _ _ h _ _ hP hD hS _ (lv_sub hl [0, 1, 2] rfl)
      exact hL30 _ _ _ h _ _ hP hD hS _ (lv_sub hl [0, 1, 2] rfl)
    · have h := if_t h c_18
      refine lv_bipush (v := (-5 : Int32)) hx hb dX6_restore_21 rfl ?_
      cases h
      exact eMi hx hb hr hlk hP hD hS rfl dX6_restore_23
  · have h := if_t h c_6
    refine lv_bipush (v := (-2 : Int32)) hx hb dX6_restore_9 rfl ?_
    cases h
    exact eMi hx hb hr hlk hP hD hS rfl dX6_restore_11
noncomputable def f_X6_giveYes_L15 (c_yes : Nat → Int32) (c_rounds : Int32) (v1 : Int32) (v3 : Int32) (v4_10 : Int32) (rec15 : Int32 → (Nat → Int32) → (Nat → Int32) → Int32 → Option ((Nat → Int32) × (Nat → Int32) × (Nat → Int32) × Int32)) (v5_L15 : Int32) (c_yesRound_L15 : Nat → Int32) (c_yesRule_L15 : Nat → Int32) (c_isMore_L15 : Int32) : Option ((Nat → Int32) × (Nat → Int32) × (Nat → Int32) × Int32) :=
  if (18 : Int32) ≤ v5_L15 then (gd v1 6 (gd v1 6 (lt' (upd c_yes v1.toNatClampNeg ((c_yes v1.toNatClampNeg) ||| v4_10)) (fun c_yes_90 : Nat → Int32 => some (c_yes_90, c_yesRound_L15, c_yesRule_L15, c_isMore_L15))))) else (if v4_10 = (0 : Int32) then (gd v1 6 (gd v1 6 (lt' (upd c_yes v1.toNatClampNeg ((c_yes v1.toNatClampNeg) ||| v4_10)) (fun c_yes_90 : Nat → Int32 => some (c_yes_90, c_yesRound_L15, c_yesRule_L15, c_isMore_L15))))) else (if ((v4_10 >>> (v5_L15 &&& 31)) &&& (1 : Int32)) = (1 : Int32) then (gd (((18 : Int32) * v1) + v5_L15) 108 (lt' (upd c_yesRound_L15 (((18 : Int32) * v1) + v5_L15).toNatClampNeg (c_rounds + (1 : Int32))) (fun c_yesRound_55 : Nat → Int32 => gd (((18 : Int32) * v1) + v5_L15) 108 (lt' (upd c_yesRule_L15 (((18 : Int32) * v1) + v5_L15).toNatClampNeg v3) (fun c_yesRule_68 : Nat → Int32 => rec15 (v5_L15 + (1 : Int32)) c_yesRound_55 c_yesRule_68 (1 : Int32)))))) else (rec15 (v5_L15 + (1 : Int32)) c_yesRound_L15 c_yesRule_L15 c_isMore_L15)))
noncomputable def f_X6_giveYes (c_yes : Nat → Int32) (c_yesRound : Nat → Int32) (c_yesRule : Nat → Int32) (c_rounds : Int32) (c_isMore : Int32) (v1 : Int32) (v2 : Int32) (v3 : Int32) : Option ((Nat → Int32) × (Nat → Int32) × (Nat → Int32) × Int32) :=
  gd v1 6 (lt' (v2 &&& ((c_yes v1.toNatClampNeg) ^^^ (-1 : Int32))) (fun v4_10 : Int32 => lo4 (f_X6_giveYes_L15 c_yes c_rounds v1 v3 v4_10) FU (0 : Int32) c_yesRound c_yesRule c_isMore))
set_option maxHeartbeats 4000000 in
set_option maxRecDepth 100000 in
theorem c_X6_giveYes (l : Launch) (dC : Nat → ClassId) (dI : Nat → Nat → Nat) (ck : Nat → ClassId) (a0 a0_z a0_past a0_slots a0_isSaved a0_pad a0_yes a0_no a0_yesThen a0_noThen a0_yesRound a0_yesRule a0_noRound a0_noRule a0_orders : Nat) (c_z : Nat → Int32) (c_past : Nat → Int32) (c_slots : Nat → Int32) (c_isSaved : Nat → Int32) (c_pastMany : Int32) (c_pad : Nat → Int32) (c_typed : Int32) (c_yes : Nat → Int32) (c_no : Nat → Int32) (c_yesThen : Nat → Int32) (c_noThen : Nat → Int32) (c_yesRound : Nat → Int32) (c_yesRule : Nat → Int32) (c_noRound : Nat → Int32) (c_noRule : Nat → Int32) (c_rounds : Int32) (c_isMore : Int32) (c_orders : Nat → Int32) (c_orderMany : Int32) (c_spot : Int32) (c_bad : Int32) (v1 : Int32) (v2 : Int32) (v3 : Int32) (o0 : Nat → Int32) (o1 : Nat → Int32) (o2 : Nat → Int32) (o3 : Int32) (h : f_X6_giveYes c_yes c_yesRound c_yesRule c_rounds c_isMore v1 v2 v3 = some (o0, o1, o2, o3)) : MV l yX6_giveYes wsX6_giveYes ({ frames := 0, cells := 0, slots := 0, locals := 0 }) [.ref a0, .int v1, .int v2, .int v3] (dC, dI) ck (wX6 ck a0 a0_z a0_past a0_slots a0_isSaved a0_pad a0_yes a0_no a0_yesThen a0_noThen a0_yesRound a0_yesRule a0_noRound a0_noRule a0_orders c_z c_past c_slots c_isSaved c_pastMany c_pad c_typed c_yes c_no c_yesThen c_noThen c_yesRound c_yesRule c_noRound c_noRule c_rounds c_isMore c_orders c_orderMany c_spot c_bad) (wX6 ck a0 a0_z a0_past a0_slots a0_isSaved a0_pad a0_yes a0_no a0_yesThen a0_noThen a0_yesRound a0_yesRule a0_noRound a0_noRule a0_orders c_z c_past c_slots c_isSaved c_pastMany c_pad c_typed o0 c_no c_yesThen c_noThen o1 o2 c_noRound c_noRule c_rounds o3 c_orders c_orderMany c_spot c_bad) := by
  refine MV.ofW (cc := cX6_giveYes) (maxL := 6) (ret := none) (by decide +kernel) rfl (Nat.le_of_ble_eq_true rfl) ?_
  intro p e s m below meth c hx hb hr hml hts hown hlk hK hP A hA hD ls hl
  have hS : va_S A s.heap s.heap [] := va_S.rf
  have hown : s.vm.findClass RX6 = some m.cls := hown
  have hl : lv_has ls 6 [(0, .ref a0), (1, .int v1), (2, .int v2), (3, .int v3)] := hl
  have iu_X6 : ∀ w ∈ u_ws RX6 TX6 21, w ∈ wsX6_giveYes := fun w h => List.mem_cons_of_mem _ (List.mem_append_right _ h)
  unfold f_X6_giveYes at h
  refine lv_iload_n hx hb dX6_giveYes_0 rfl (lv_at hl 2 rfl) ?_
  refine lv_aload_n hx hb dX6_giveYes_1 rfl (lv_at hl 0 rfl) ?_
  refine va_get (ci := 6) (v := .ref a0_yes) (C := RX6) (T := TX6) (N := 21) hx hb hts iu_X6 hown hK.1 hP 0 rfl rfl 7 (by decide) (hts (.fieldLink RX6 27 "SheetMarksModel" "yes" "[I") (List.mem_of_getElem? (i := 1) rfl)) (fun _ h9 => h9) rfl dX6_giveYes_2 ?_
  refine lv_iload_n hx hb dX6_giveYes_5 rfl (lv_at hl 1 rfl) ?_
  obtain ⟨g_6, h⟩ := gd_e h
  refine va_iald hx hb hK.1 hP 6 0 rfl rfl g_6 dX6_giveYes_6 ?_
  refine lv_iconst (v := (-1 : Int32)) hx hb dX6_giveYes_7 rfl ?_
  refine lv_ixor hx hb dX6_giveYes_8 ?_
  refine lv_iand hx hb dX6_giveYes_9 ?_
  refine lv_topi (fun v4_10 e_10 => ?_)
  have h := lt'_e e_10 h
  refine lv_istore (lv' := [(4, .int v4_10), (0, .ref a0), (1, .int v1), (2, .int v2), (3, .int v3)]) hx hb dX6_giveYes_10 hl (by decide) rfl (fun ls hl => ?_)
  refine lv_iconst (v := (0 : Int32)) hx hb dX6_giveYes_12 rfl ?_
  refine lv_istore (lv' := [(5, .int (0 : Int32)), (4, .int v4_10), (0, .ref a0), (1, .int v1), (2, .int v2), (3, .int v3)]) hx hb dX6_giveYes_13 hl (by decide) rfl (fun ls hl => ?_)
  have hL15 : ∀ (n15 : Nat) (v5_L15 : Int32) (c_yesRound_L15 : Nat → Int32) (c_yesRule_L15 : Nat → Int32) (c_isMore_L15 : Int32), lo4 (f_X6_giveYes_L15 c_yes c_rounds v1 v3 v4_10) n15 v5_L15 c_yesRound_L15 c_yesRule_L15 c_isMore_L15 = some (o0, o1, o2, o3) → ∀ (H : Heap) (locs : List Loc), va_P (dC, dI) vwCl (wX6 ck a0 a0_z a0_past a0_slots a0_isSaved a0_pad a0_yes a0_no a0_yesThen a0_noThen a0_yesRound a0_yesRule a0_noRound a0_noRule a0_orders c_z c_past c_slots c_isSaved c_pastMany c_pad c_typed c_yes c_no c_yesThen c_noThen c_yesRound_L15 c_yesRule_L15 c_noRound c_noRule c_rounds c_isMore_L15 c_orders c_orderMany c_spot c_bad) H → va_D A (wX6 ck a0 a0_z a0_past a0_slots a0_isSaved a0_pad a0_yes a0_no a0_yesThen a0_noThen a0_yesRound a0_yesRule a0_noRound a0_noRule a0_orders c_z c_past c_slots c_isSaved c_pastMany c_pad c_typed c_yes c_no c_yesThen c_noThen c_yesRound_L15 c_yesRule_L15 c_noRound c_noRule c_rounds c_isMore_L15 c_orders c_orderMany c_spot c_bad) → va_S A s.heap H locs → ∀ ls : Array Slot, lv_has ls 6 [(5, .int v5_L15), (4, .int v4_10), (0, .ref a0), (1, .int v1), (3, .int v3)] → W p l e (headSpec wsX6_giveYes ({ frames := 0, cells := 0, slots := 0, locals := 0 })).room s m [.ref a0, .int v1, .int v2, .int v3].toArray below meth c H locs 0 0 (MQ below (QV (dC, dI) (wX6 ck a0 a0_z a0_past a0_slots a0_isSaved a0_pad a0_yes a0_no a0_yesThen a0_noThen a0_yesRound a0_yesRule a0_noRound a0_noRule a0_orders c_z c_past c_slots c_isSaved c_pastMany c_pad c_typed o0 c_no c_yesThen c_noThen o1 o2 c_noRound c_noRule c_rounds o3 c_orders c_orderMany c_spot c_bad) A) [.ref a0, .int v1, .int v2, .int v3].toArray s 0 0 A) (F0 m 15 ls []) := by
    intro n15
    induction n15 with
    | zero => intro v5_L15 c_yesRound_L15 c_yesRule_L15 c_isMore_L15 h; exact lo4_z h
    | succ n15 ih15 =>
      intro v5_L15 c_yesRound_L15 c_yesRule_L15 c_isMore_L15 h H locs hP hD hS ls hl
      have h := lo4_s h
      unfold f_X6_giveYes_L15 at h
      refine lv_iload hx hb dX6_giveYes_15 (lv_at hl 0 rfl) ?_
      refine lv_bipush (v := (18 : Int32)) hx hb dX6_giveYes_17 rfl ?_
      refine lv_icmp_ge (tgt := 80) hx hb dX6_giveYes_19 (by decide) (fun c_19 => ?_) (fun c_19 => ?_)
      · have h := if_t h c_19
        refine lv_aload_n hx hb dX6_giveYes_80 rfl (lv_at hl 2 rfl) ?_
        refine va_get (ci := 6) (v := .ref a0_yes) (C := RX6) (T := TX6) (N := 21) hx hb hts iu_X6 hown hK.1 hP 0 rfl rfl 7 (by decide) (hts (.fieldLink RX6 27 "SheetMarksModel" "yes" "[I") (List.mem_of_getElem? (i := 1) rfl)) (fun _ h9 => h9) rfl dX6_giveYes_81 ?_
        refine lv_iload_n hx hb dX6_giveYes_84 rfl (lv_at hl 3 rfl) ?_
        refine lv_dup2_11 hx hb dX6_giveYes_85 rfl rfl ?_
        obtain ⟨g_86, h⟩ := gd_e h
        refine va_iald hx hb hK.1 hP 6 0 rfl rfl g_86 dX6_giveYes_86 ?_
        refine lv_iload hx hb dX6_giveYes_87 (lv_at hl 1 rfl) ?_
        refine lv_ior hx hb dX6_giveYes_89 ?_
        obtain ⟨g_90, h⟩ := gd_e h
        refine va_iast hx hb hK.1 hP hD hS 6 0 rfl rfl g_90 dX6_giveYes_90 (fun H locs hP hD hS => ?_)
        obtain ⟨c_yes_90, e_90⟩ : ∃ y : Nat → Int32, y = (upd c_yes v1.toNatClampNeg ((c_yes v1.toNatClampNeg) ||| v4_10)) := ⟨_, rfl⟩
        have h := lt'_e e_90 h
        have hP : va_P (dC, dI) vwCl (wX6 ck a0 a0_z a0_past a0_slots a0_isSaved a0_pad a0_yes a0_no a0_yesThen a0_noThen a0_yesRound a0_yesRule a0_noRound a0_noRule a0_orders c_z c_past c_slots c_isSaved c_pastMany c_pad c_typed c_yes_90 c_no c_yesThen c_noThen c_yesRound_L15 c_yesRule_L15 c_noRound c_noRule c_rounds c_isMore_L15 c_orders c_orderMany c_spot c_bad) H := by subst e_90; exact hP
        have hD : va_D A (wX6 ck a0 a0_z a0_past a0_slots a0_isSaved a0_pad a0_yes a0_no a0_yesThen a0_noThen a0_yesRound a0_yesRule a0_noRound a0_noRule a0_orders c_z c_past c_slots c_isSaved c_pastMany c_pad c_typed c_yes_90 c_no c_yesThen c_noThen c_yesRound_L15 c_yesRule_L15 c_noRound c_noRule c_rounds c_isMore_L15 c_orders c_orderMany c_spot c_bad) := by subst e_90; exact hD
        cases h
        exact eMv hx hb hr hlk hP hD hS dX6_giveYes_91
      · have h := if_f h c_19
        refine lv_iload hx hb dX6_giveYes_22 (lv_at hl 1 rfl) ?_
        refine lv_if_eq (tgt := 80) hx hb dX6_giveYes_24 (by decide) (fun c_24 => ?_) (fun c_24 => ?_)
        · have h := if_t h c_24
          refine lv_aload_n hx hb dX6_giveYes_80 rfl (lv_at hl 2 rfl) ?_
          refine va_get (ci := 6) (v := .ref a0_yes) (C := RX6) (T := TX6) (N := 21) hx hb hts iu_X6 hown hK.1 hP 0 rfl rfl 7 (by decide) (hts (.fieldLink RX6 27 "SheetMarksModel" "yes" "[I") (List.mem_of_getElem? (i := 1) rfl)) (fun _ h9 => h9) rfl dX6_giveYes_81 ?_
          refine lv_iload_n hx hb dX6_giveYes_84 rfl (lv_at hl 3 rfl) ?_
          refine lv_dup2_11 hx hb dX6_giveYes_85 rfl rfl ?_
          obtain ⟨g_86, h⟩ := gd_e h
          refine va_iald hx hb hK.1 hP 6 0 rfl rfl g_86 dX6_giveYes_86 ?_
          refine lv_iload hx hb dX6_giveYes_87 (lv_at hl 1 rfl) ?_
          refine lv_ior hx hb dX6_giveYes_89 ?_
          obtain ⟨g_90, h⟩ := gd_e h
          refine va_iast hx hb hK.1 hP hD hS 6 0 rfl rfl g_90 dX6_giveYes_90 (fun H locs hP hD hS => ?_)
          obtain ⟨c_yes_90, e_90⟩ : ∃ y : Nat → Int32, y = (upd c_yes v1.toNatClampNeg ((c_yes v1.toNatClampNeg) ||| v4_10)) := ⟨_, rfl⟩
          have h := lt'_e e_90 h
          have hP : va_P (dC, dI) vwCl (wX6 ck a0 a0_z a0_past a0_slots a0_isSaved a0_pad a0_yes a0_no a0_yesThen a0_noThen a0_yesRound a0_yesRule a0_noRound a0_noRule a0_orders c_z c_past c_slots c_isSaved c_pastMany c_pad c_typed c_yes_90 c_no c_yesThen c_noThen c_yesRound_L15 c_yesRule_L15 c_noRound c_noRule c_rounds c_isMore_L15 c_orders c_orderMany c_spot c_bad) H := by subst e_90; exact hP
          have hD : va_D A (wX6 ck a0 a0_z a0_past a0_slots a0_isSaved a0_pad a0_yes a0_no a0_yesThen a0_noThen a0_yesRound a0_yesRule a0_noRound a0_noRule a0_orders c_z c_past c_slots c_isSaved c_pastMany c_pad c_typed c_yes_90 c_no c_yesThen c_noThen c_yesRound_L15 c_yesRule_L15 c_noRound c_noRule c_rounds c_isMore_L15 c_orders c_orderMany c_spot c_bad) := by subst e_90; exact hD
          cases h
          exact eMv hx hb hr hlk hP hD hS dX6_giveYes_91
        · have h := if_f h c_24
          refine lv_iload hx hb dX6_giveYes_27 (lv_at hl 1 rfl) ?_
          refine lv_iload hx hb dX6_giveYes_29 (lv_at hl 0 rfl) ?_
          refine lv_ishr hx hb dX6_giveYes_31 ?_
          refine lv_iconst (v := (1 : Int32)) hx hb dX6_giveYes_32 rfl ?_
          refine lv_iand hx hb dX6_giveYes_33 ?_
          refine lv_iconst (v := (1 : Int32)) hx hb dX6_giveYes_34 rfl ?_
          refine lv_icmp_ne (tgt := 74) hx hb dX6_giveYes_35 (by decide) (fun c_35 => ?_) (fun c_35 => ?_)
          · have h := if_f h c_35
            refine lv_iinc (v := (v5_L15 + (1 : Int32))) (lv' := [(5, .int (v5_L15 + (1 : Int32))), (4, .int v4_10), (0, .ref a0), (1, .int v1), (3, .int v3)]) hx hb dX6_giveYes_74 hl (k := 0) rfl rfl (by decide) rfl (fun ls hl => ?_)
            refine lv_goto (tgt := 15) hx hb dX6_giveYes_77 (by decide) ?_
            exact ih15 _ _ _ _ h _ _ hP hD hS _ (lv_sub hl [0, 1, 2, 3, 4] rfl)
          · have h := if_t h c_35
            refine lv_aload_n hx hb dX6_giveYes_38 rfl (lv_at hl 2 rfl) ?_
            refine va_get (ci := 6) (v := .ref a0_yesRound) (C := RX6) (T := TX6) (N := 21) hx hb hts iu_X6 hown hK.1 hP 0 rfl rfl 11 (by decide) (hts (.fieldLink RX6 39 "SheetMarksModel" "yesRound" "[I") (List.mem_of_getElem? (i := 2) rfl)) (fun _ h9 => h9) rfl dX6_giveYes_39 ?_
            refine lv_bipush (v := (18 : Int32)) hx hb dX6_giveYes_42 rfl ?_
            refine lv_iload_n hx hb dX6_giveYes_44 rfl (lv_at hl 3 rfl) ?_
            refine lv_imul hx hb dX6_giveYes_45 ?_
            refine lv_iload hx hb dX6_giveYes_46 (lv_at hl 0 rfl) ?_
            refine lv_iadd hx hb dX6_giveYes_48 ?_
            refine lv_aload_n hx hb dX6_giveYes_49 rfl (lv_at hl 2 rfl) ?_
            refine va_get (ci := 6) (v := .int c_rounds) (C := RX6) (T := TX6) (N := 21) hx hb hts iu_X6 hown hK.1 hP 0 rfl rfl 15 (by decide) (hts (.fieldLink RX6 73 "SheetMarksModel" "rounds" "I") (List.mem_of_getElem? (i := 3) rfl)) (fun _ h9 => h9) rfl dX6_giveYes_50 ?_
            refine lv_iconst (v := (1 : Int32)) hx hb dX6_giveYes_53 rfl ?_
            refine lv_iadd hx hb dX6_giveYes_54 ?_
            obtain ⟨g_55, h⟩ := gd_e h
            refine va_iast hx hb hK.1 hP hD hS 10 0 rfl rfl g_55 dX6_giveYes_55 (fun H locs hP hD hS => ?_)
            obtain ⟨c_yesRound_55, e_55⟩ : ∃ y : Nat → Int32, y = (upd c_yesRound_L15 (((18 : Int32) * v1) + v5_L15).toNatClampNeg (c_rounds + (1 : Int32))) := ⟨_, rfl⟩
            have h := lt'_e e_55 h
            have hP : va_P (dC, dI) vwCl (wX6 ck a0 a0_z a0_past a0_slots a0_isSaved a0_pad a0_yes a0_no a0_yesThen a0_noThen a0_yesRound a0_yesRule a0_noRound a0_noRule a0_orders c_z c_past c_slots c_isSaved c_pastMany c_pad c_typed c_yes c_no c_yesThen c_noThen c_yesRound_55 c_yesRule_L15 c_noRound c_noRule c_rounds c_isMore_L15 c_orders c_orderMany c_spot c_bad) H := by subst e_55; exact hP
            have hD : va_D A (wX6 ck a0 a0_z a0_past a0_slots a0_isSaved a0_pad a0_yes a0_no a0_yesThen a0_noThen a0_yesRound a0_yesRule a0_noRound a0_noRule a0_orders c_z c_past c_slots c_isSaved c_pastMany c_pad c_typed c_yes c_no c_yesThen c_noThen c_yesRound_55 c_yesRule_L15 c_noRound c_noRule c_rounds c_isMore_L15 c_orders c_orderMany c_spot c_bad) := by subst e_55; exact hD
            refine lv_aload_n hx hb dX6_giveYes_56 rfl (lv_at hl 2 rfl) ?_
            refine va_get (ci := 6) (v := .ref a0_yesRule) (C := RX6) (T := TX6) (N := 21) hx hb hts iu_X6 hown hK.1 hP 0 rfl rfl 12 (by decide) (hts (.fieldLink RX6 42 "SheetMarksModel" "yesRule" "[I") (List.mem_of_getElem? (i := 4) rfl)) (fun _ h9 => h9) rfl dX6_giveYes_57 ?_
            refine lv_bipush (v := (18 : Int32)) hx hb dX6_giveYes_60 rfl ?_
            refine lv_iload_n hx hb dX6_giveYes_62 rfl (lv_at hl 3 rfl) ?_
            refine lv_imul hx hb dX6_giveYes_63 ?_
            refine lv_iload hx hb dX6_giveYes_64 (lv_at hl 0 rfl) ?_
            refine lv_iadd hx hb dX6_giveYes_66 ?_
            refine lv_iload_n hx hb dX6_giveYes_67 rfl (lv_at hl 4 rfl) ?_
            obtain ⟨g_68, h⟩ := gd_e h
            refine va_iast hx hb hK.1 hP hD hS 11 0 rfl rfl g_68 dX6_giveYes_68 (fun H locs hP hD hS => ?_)
            obtain ⟨c_yesRule_68, e_68⟩ : ∃ y : Nat → Int32, y = (upd c_yesRule_L15 (((18 : Int32) * v1) + v5_L15).toNatClampNeg v3) := ⟨_, rfl⟩
            have h := lt'_e e_68 h
            have hP : va_P (dC, dI) vwCl (wX6 ck a0 a0_z a0_past a0_slots a0_isSaved a0_pad a0_yes a0_no a0_yesThen a0_noThen a0_yesRound a0_yesRule a0_noRound a0_noRule a0_orders c_z c_past c_slots c_isSaved c_pastMany c_pad c_typed c_yes c_no c_yesThen c_noThen c_yesRound_55 c_yesRule_68 c_noRound c_noRule c_rounds c_isMore_L15 c_orders c_orderMany c_spot c_bad) H := by subst e_68; exact hP
            have hD : va_D A (wX6 ck a0 a0_z a0_past a0_slots a0_isSaved a0_pad a0_yes a0_no a0_yesThen a0_noThen a0_yesRound a0_yesRule a0_noRound a0_noRule a0_orders c_z c_past c_slots c_isSaved c_pastMany c_pad c_typed c_yes c_no c_yesThen c_noThen c_yesRound_55 c_yesRule_68 c_noRound c_noRule c_rounds c_isMore_L15 c_orders c_orderMany c_spot c_bad) := by subst e_68; exact hD
            refine lv_aload_n hx hb dX6_giveYes_69 rfl (lv_at hl 2 rfl) ?_
            refine lv_iconst (v := (1 : Int32)) hx hb dX6_giveYes_70 rfl ?_
            refine va_put (ci := 6) (v := .int (1 : Int32)) (ty := .boolean) (C := RX6) (T := TX6) (N := 21) hx hb hts iu_X6 tyX6 tyX6_ok nmX6 hown hK.1 hP hD hS 0 rfl rfl 16 (by decide) (hts (.fieldLink RX6 76 "SheetMarksModel" "isMore" "Z") (List.mem_of_getElem? (i := 5) rfl)) (fun _ h9 => h9) rfl (by decide +kernel) rfl rfl (Nat.le_of_ble_eq_true rfl) dX6_giveYes_71 (fun H locs hP hD hS => ?_)
            have hP : va_P (dC, dI) vwCl (wX6 ck a0 a0_z a0_past a0_slots a0_isSaved a0_pad a0_yes a0_no a0_yesThen a0_noThen a0_yesRound a0_yesRule a0_noRound a0_noRule a0_orders c_z c_past c_slots c_isSaved c_pastMany c_pad c_typed c_yes c_no c_yesThen c_noThen c_yesRound_55 c_yesRule_68 c_noRound c_noRule c_rounds (1 : Int32) c_orders c_orderMany c_spot c_bad) H := hP
            have hD : va_D A (wX6 ck a0 a0_z a0_past a0_slots a0_isSaved a0_pad a0_yes a0_no a0_yesThen a0_noThen a0_yesRound a0_yesRule a0_noRound a0_noRule a0_orders c_z c_past c_slots c_isSaved c_pastMany c_pad c_typed c_yes c_no c_yesThen c_noThen c_yesRound_55 c_yesRule_68 c_noRound c_noRule c_rounds (1 : Int32) c_orders c_orderMany c_spot c_bad) := hD
            refine lv_iinc (v := (v5_L15 + (1 : Int32))) (lv' := [(5, .int (v5_L15 + (1 : Int32))), (4, .int v4_10), (0, .ref a0), (1, .int v1), (3, .int v3)]) hx hb dX6_giveYes_74 hl (k := 0) rfl rfl (by decide) rfl (fun ls hl => ?_)
            refine lv_goto (tgt := 15) hx hb dX6_giveYes_77 (by decide) ?_
            exact ih15 _ _ _ _ h _ _ hP hD hS _ (lv_sub hl [0, 1, 2, 3, 4] rfl)
  exact hL15 _ _ _ _ _ h _ _ hP hD hS _ (lv_sub hl [0, 1, 2, 3, 5] rfl)
noncomputable def f_X6_giveNo_L15 (c_no : Nat → Int32) (c_rounds : Int32) (v1 : Int32) (v3 : Int32) (v4_10 : Int32) (rec15 : Int32 → (Nat → Int32) → (Nat → Int32) → Int32 → Option ((Nat → Int32) × (Nat → Int32) × (Nat → Int32) × Int32)) (v5_L15 : Int32) (c_noRound_L15 : Nat → Int32) (c_noRule_L15 : Nat → Int32) (c_isMore_L15 : Int32) : Option ((Nat → Int32) × (Nat → Int32) × (Nat → Int32) × Int32) :=
  if (18 : Int32) ≤ v5_L15 then (gd v1 6 (gd v1 6 (lt' (upd c_no v1.toNatClampNeg ((c_no v1.toNatClampNeg) ||| v4_10)) (fun c_no_90 : Nat → Int32 => some (c_no_90, c_noRound_L15, c_noRule_L15, c_isMore_L15))))) else (if v4_10 = (0 : Int32) then (gd v1 6 (gd v1 6 (lt' (upd c_no v1.toNatClampNeg ((c_no v1.toNatClampNeg) ||| v4_10)) (fun c_no_90 : Nat → Int32 => some (c_no_90, c_noRound_L15, c_noRule_L15, c_isMore_L15))))) else (if ((v4_10 >>> (v5_L15 &&& 31)) &&& (1 : Int32)) = (1 : Int32) then (gd (((18 : Int32) * v1) + v5_L15) 108 (lt' (upd c_noRound_L15 (((18 : Int32) * v1) + v5_L15).toNatClampNeg (c_rounds + (1 : Int32))) (fun c_noRound_55 : Nat → Int32 => gd (((18 : Int32) * v1) + v5_L15) 108 (lt' (upd c_noRule_L15 (((18 : Int32) * v1) + v5_L15).toNatClampNeg v3) (fun c_noRule_68 : Nat → Int32 => rec15 (v5_L15 + (1 : Int32)) c_noRound_55 c_noRule_68 (1 : Int32)))))) else (rec15 (v5_L15 + (1 : Int32)) c_noRound_L15 c_noRule_L15 c_isMore_L15)))
noncomputable def f_X6_giveNo (c_no : Nat → Int32) (c_noRound : Nat → Int32) (c_noRule : Nat → Int32) (c_rounds : Int32) (c_isMore : Int32) (v1 : Int32) (v2 : Int32) (v3 : Int32) : Option ((Nat → Int32) × (Nat → Int32) × (Nat → Int32) × Int32) :=
  gd v1 6 (lt' (v2 &&& ((c_no v1.toNatClampNeg) ^^^ (-1 : Int32))) (fun v4_10 : Int32 => lo4 (f_X6_giveNo_L15 c_no c_rounds v1 v3 v4_10) FU (0 : Int32) c_noRound c_noRule c_isMore))
set_option maxHeartbeats 4000000 in
set_option maxRecDepth 100000 in
theorem c_X6_giveNo (l : Launch) (dC : Nat → ClassId) (dI : Nat → Nat → Nat) (ck : Nat → ClassId) (a0 a0_z a0_past a0_slots a0_isSaved a0_pad a0_yes a0_no a0_yesThen a0_noThen a0_yesRound a0_yesRule a0_noRound a0_noRule a0_orders : Nat) (c_z : Nat → Int32) (c_past : Nat → Int32) (c_slots : Nat → Int32) (c_isSaved : Nat → Int32) (c_pastMany : Int32) (c_pad : Nat → Int32) (c_typed : Int32) (c_yes : Nat → Int32) (c_no : Nat → Int32) (c_yesThen : Nat → Int32) (c_noThen : Nat → Int32) (c_yesRound : Nat → Int32) (c_yesRule : Nat → Int32) (c_noRound : Nat → Int32) (c_noRule : Nat → Int32) (c_rounds : Int32) (c_isMore : Int32) (c_orders : Nat → Int32) (c_orderMany : Int32) (c_spot : Int32) (c_bad : Int32) (v1 : Int32) (v2 : Int32) (v3 : Int32) (o0 : Nat → Int32) (o1 : Nat → Int32) (o2 : Nat → Int32) (o3 : Int32) (h : f_X6_giveNo c_no c_noRound c_noRule c_rounds c_isMore v1 v2 v3 = some (o0, o1, o2, o3)) : MV l yX6_giveNo wsX6_giveNo ({ frames := 0, cells := 0, slots := 0, locals := 0 }) [.ref a0, .int v1, .int v2, .int v3] (dC, dI) ck (wX6 ck a0 a0_z a0_past a0_slots a0_isSaved a0_pad a0_yes a0_no a0_yesThen a0_noThen a0_yesRound a0_yesRule a0_noRound a0_noRule a0_orders c_z c_past c_slots c_isSaved c_pastMany c_pad c_typed c_yes c_no c_yesThen c_noThen c_yesRound c_yesRule c_noRound c_noRule c_rounds c_isMore c_orders c_orderMany c_spot c_bad) (wX6 ck a0 a0_z a0_past a0_slots a0_isSaved a0_pad a0_yes a0_no a0_yesThen a0_noThen a0_yesRound a0_yesRule a0_noRound a0_noRule a0_orders c_z c_past c_slots c_isSaved c_pastMany c_pad c_typed c_yes o0 c_yesThen c_noThen c_yesRound c_yesRule o1 o2 c_rounds o3 c_orders c_orderMany c_spot c_bad) := by
  refine MV.ofW (cc := cX6_giveNo) (maxL := 6) (ret := none) (by decide +kernel) rfl (Nat.le_of_ble_eq_true rfl) ?_
  intro p e s m below meth c hx hb hr hml hts hown hlk hK hP A hA hD ls hl
  have hS : va_S A s.heap s.heap [] := va_S.rf
  have hown : s.vm.findClass RX6 = some m.cls := hown
  have hl : lv_has ls 6 [(0, .ref a0), (1, .int v1), (2, .int v2), (3, .int v3)] := hl
  have iu_X6 : ∀ w ∈ u_ws RX6 TX6 21, w ∈ wsX6_giveNo := fun w h => List.mem_cons_of_mem _ (List.mem_append_right _ h)
  unfold f_X6_giveNo at h
  refine lv_iload_n hx hb dX6_giveNo_0 rfl (lv_at hl 2 rfl) ?_
  refine lv_aload_n hx hb dX6_giveNo_1 rfl (lv_at hl 0 rfl) ?_
  refine va_get (ci := 6) (v := .ref a0_no) (C := RX6) (T := TX6) (N := 21) hx hb hts iu_X6 hown hK.1 hP 0 rfl rfl 8 (by decide) (hts (.fieldLink RX6 30 "SheetMarksModel" "no" "[I") (List.mem_of_getElem? (i := 1) rfl)) (fun _ h9 => h9) rfl dX6_giveNo_2 ?_
  refine lv_iload_n hx hb dX6_giveNo_5 rfl (lv_at hl 1 rfl) ?_
  obtain ⟨g_6, h⟩ := gd_e h
  refine va_iald hx hb hK.1 hP 7 0 rfl rfl g_6 dX6_giveNo_6 ?_
  refine lv_iconst (v := (-1 : Int32)) hx hb dX6_giveNo_7 rfl ?_
  refine lv_ixor hx hb dX6_giveNo_8 ?_
  refine lv_iand hx hb dX6_giveNo_9 ?_
  refine lv_topi (fun v4_10 e_10 => ?_)
  have h := lt'_e e_10 h
  refine lv_istore (lv' := [(4, .int v4_10), (0, .ref a0), (1, .int v1), (2, .int v2), (3, .int v3)]) hx hb dX6_giveNo_10 hl (by decide) rfl (fun ls hl => ?_)
  refine lv_iconst (v := (0 : Int32)) hx hb dX6_giveNo_12 rfl ?_
  refine lv_istore (lv' := [(5, .int (0 : Int32)), (4, .int v4_10), (0, .ref a0), (1, .int v1), (2, .int v2), (3, .int v3)]) hx hb dX6_giveNo_13 hl (by decide) rfl (fun ls hl => ?_)
  have hL15 : ∀ (n15 : Nat) (v5_L15 : Int32) (c_noRound_L15 : Nat → Int32) (c_noRule_L15 : Nat → Int32) (c_isMore_L15 : Int32), lo4 (f_X6_giveNo_L15 c_no c_rounds v1 v3 v4_10) n15 v5_L15 c_noRound_L15 c_noRule_L15 c_isMore_L15 = some (o0, o1, o2, o3) → ∀ (H : Heap) (locs : List Loc), va_P (dC, dI) vwCl (wX6 ck a0 a0_z a0_past a0_slots a0_isSaved a0_pad a0_yes a0_no a0_yesThen a0_noThen a0_yesRound a0_yesRule a0_noRound a0_noRule a0_orders c_z c_past c_slots c_isSaved c_pastMany c_pad c_typed c_yes c_no c_yesThen c_noThen c_yesRound c_yesRule c_noRound_L15 c_noRule_L15 c_rounds c_isMore_L15 c_orders c_orderMany c_spot c_bad) H → va_D A (wX6 ck a0 a0_z a0_past a0_slots a0_isSaved a0_pad a0_yes a0_no a0_yesThen a0_noThen a0_yesRound a0_yesRule a0_noRound a0_noRule a0_orders c_z c_past c_slots c_isSaved c_pastMany c_pad c_typed c_yes c_no c_yesThen c_noThen c_yesRound c_yesRule c_noRound_L15 c_noRule_L15 c_rounds c_isMore_L15 c_orders c_orderMany c_spot c_bad) → va_S A s.heap H locs → ∀ ls : Array Slot, lv_has ls 6 [(5, .int v5_L15), (4, .int v4_10), (0, .ref a0), (1, .int v1), (3, .int v3)] → W p l e (headSpec wsX6_giveNo ({ frames := 0, cells := 0, slots := 0, locals := 0 })).room s m [.ref a0, .int v1, .int v2, .int v3].toArray below meth c H locs 0 0 (MQ below (QV (dC, dI) (wX6 ck a0 a0_z a0_past a0_slots a0_isSaved a0_pad a0_yes a0_no a0_yesThen a0_noThen a0_yesRound a0_yesRule a0_noRound a0_noRule a0_orders c_z c_past c_slots c_isSaved c_pastMany c_pad c_typed c_yes o0 c_yesThen c_noThen c_yesRound c_yesRule o1 o2 c_rounds o3 c_orders c_orderMany c_spot c_bad) A) [.ref a0, .int v1, .int v2, .int v3].toArray s 0 0 A) (F0 m 15 ls []) := by
    intro n15
    induction n15 with
    | zero => intro v5_L15 c_noRound_L15 c_noRule_L15 c_isMore_L15 h; exact lo4_z h
    | succ n15 ih15 =>
      intro v5_L15 c_noRound_L15 c_noRule_L15 c_isMore_L15 h H locs hP hD hS ls hl
      have h := lo4_s h
      unfold f_X6_giveNo_L15 at h
      refine lv_iload hx hb dX6_giveNo_15 (lv_at hl 0 rfl) ?_
      refine lv_bipush (v := (18 : Int32)) hx hb dX6_giveNo_17 rfl ?_
      refine lv_icmp_ge (tgt := 80) hx hb dX6_giveNo_19 (by decide) (fun c_19 => ?_) (fun c_19 => ?_)
      · have h := if_t h c_19
        refine lv_aload_n hx hb dX6_giveNo_80 rfl (lv_at hl 2 rfl) ?_
        refine va_get (ci := 6) (v := .ref a0_no) (C := RX6) (T := TX6) (N := 21) hx hb hts iu_X6 hown hK.1 hP 0 rfl rfl 8 (by decide) (hts (.fieldLink RX6 30 "SheetMarksModel" "no" "[I") (List.mem_of_getElem? (i := 1) rfl)) (fun _ h9 => h9) rfl dX6_giveNo_81 ?_
        refine lv_iload_n hx hb dX6_giveNo_84 rfl (lv_at hl 3 rfl) ?_
        refine lv_dup2_11 hx hb dX6_giveNo_85 rfl rfl ?_
        obtain ⟨g_86, h⟩ := gd_e h
        refine va_iald hx hb hK.1 hP 7 0 rfl rfl g_86 dX6_giveNo_86 ?_
        refine lv_iload hx hb dX6_giveNo_87 (lv_at hl 1 rfl) ?_
        refine lv_ior hx hb dX6_giveNo_89 ?_
        obtain ⟨g_90, h⟩ := gd_e h
        refine va_iast hx hb hK.1 hP hD hS 7 0 rfl rfl g_90 dX6_giveNo_90 (fun H locs hP hD hS => ?_)
        obtain ⟨c_no_90, e_90⟩ : ∃ y : Nat → Int32, y = (upd c_no v1.toNatClampNeg ((c_no v1.toNatClampNeg) ||| v4_10)) := ⟨_, rfl⟩
        have h := lt'_e e_90 h
        have hP : va_P (dC, dI) vwCl (wX6 ck a0 a0_z a0_past a0_slots a0_isSaved a0_pad a0_yes a0_no a0_yesThen a0_noThen a0_yesRound a0_yesRule a0_noRound a0_noRule a0_orders c_z c_past c_slots c_isSaved c_pastMany c_pad c_typed c_yes c_no_90 c_yesThen c_noThen c_yesRound c_yesRule c_noRound_L15 c_noRule_L15 c_rounds c_isMore_L15 c_orders c_orderMany c_spot c_bad) H := by subst e_90; exact hP
        have hD : va_D A (wX6 ck a0 a0_z a0_past a0_slots a0_isSaved a0_pad a0_yes a0_no a0_yesThen a0_noThen a0_yesRound a0_yesRule a0_noRound a0_noRule a0_orders c_z c_past c_slots c_isSaved c_pastMany c_pad c_typed c_yes c_no_90 c_yesThen c_noThen c_yesRound c_yesRule c_noRound_L15 c_noRule_L15 c_rounds c_isMore_L15 c_orders c_orderMany c_spot c_bad) := by subst e_90; exact hD
        cases h
        exact eMv hx hb hr hlk hP hD hS dX6_giveNo_91
      · have h := if_f h c_19
        refine lv_iload hx hb dX6_giveNo_22 (lv_at hl 1 rfl) ?_
        refine lv_if_eq (tgt := 80) hx hb dX6_giveNo_24 (by decide) (fun c_24 => ?_) (fun c_24 => ?_)
        · have h := if_t h c_24
          refine lv_aload_n hx hb dX6_giveNo_80 rfl (lv_at hl 2 rfl) ?_
          refine va_get (ci := 6) (v := .ref a0_no) (C := RX6) (T := TX6) (N := 21) hx hb hts iu_X6 hown hK.1 hP 0 rfl rfl 8 (by decide) (hts (.fieldLink RX6 30 "SheetMarksModel" "no" "[I") (List.mem_of_getElem? (i := 1) rfl)) (fun _ h9 => h9) rfl dX6_giveNo_81 ?_
          refine lv_iload_n hx hb dX6_giveNo_84 rfl (lv_at hl 3 rfl) ?_
          refine lv_dup2_11 hx hb dX6_giveNo_85 rfl rfl ?_
          obtain ⟨g_86, h⟩ := gd_e h
          refine va_iald hx hb hK.1 hP 7 0 rfl rfl g_86 dX6_giveNo_86 ?_
          refine lv_iload hx hb dX6_giveNo_87 (lv_at hl 1 rfl) ?_
          refine lv_ior hx hb dX6_giveNo_89 ?_
          obtain ⟨g_90, h⟩ := gd_e h
          refine va_iast hx hb hK.1 hP hD hS 7 0 rfl rfl g_90 dX6_giveNo_90 (fun H locs hP hD hS => ?_)
          obtain ⟨c_no_90, e_90⟩ : ∃ y : Nat → Int32, y = (upd c_no v1.toNatClampNeg ((c_no v1.toNatClampNeg) ||| v4_10)) := ⟨_, rfl⟩
          have h := lt'_e e_90 h
          have hP : va_P (dC, dI) vwCl (wX6 ck a0 a0_z a0_past a0_slots a0_isSaved a0_pad a0_yes a0_no a0_yesThen a0_noThen a0_yesRound a0_yesRule a0_noRound a0_noRule a0_orders c_z c_past c_slots c_isSaved c_pastMany c_pad c_typed c_yes c_no_90 c_yesThen c_noThen c_yesRound c_yesRule c_noRound_L15 c_noRule_L15 c_rounds c_isMore_L15 c_orders c_orderMany c_spot c_bad) H := by subst e_90; exact hP
          have hD : va_D A (wX6 ck a0 a0_z a0_past a0_slots a0_isSaved a0_pad a0_yes a0_no a0_yesThen a0_noThen a0_yesRound a0_yesRule a0_noRound a0_noRule a0_orders c_z c_past c_slots c_isSaved c_pastMany c_pad c_typed c_yes c_no_90 c_yesThen c_noThen c_yesRound c_yesRule c_noRound_L15 c_noRule_L15 c_rounds c_isMore_L15 c_orders c_orderMany c_spot c_bad) := by subst e_90; exact hD
          cases h
          exact eMv hx hb hr hlk hP hD hS dX6_giveNo_91
        · have h := if_f h c_24
          refine lv_iload hx hb dX6_giveNo_27 (lv_at hl 1 rfl) ?_
          refine lv_iload hx hb dX6_giveNo_29 (lv_at hl 0 rfl) ?_
          refine lv_ishr hx hb dX6_giveNo_31 ?_
          refine lv_iconst (v := (1 : Int32)) hx hb dX6_giveNo_32 rfl ?_
          refine lv_iand hx hb dX6_giveNo_33 ?_
          refine lv_iconst (v := (1 : Int32)) hx hb dX6_giveNo_34 rfl ?_
          refine lv_icmp_ne (tgt := 74) hx hb dX6_giveNo_35 (by decide) (fun c_35 => ?_) (fun c_35 => ?_)
          · have h := if_f h c_35
            refine lv_iinc (v := (v5_L15 + (1 : Int32))) (lv' := [(5, .int (v5_L15 + (1 : Int32))), (4, .int v4_10), (0, .ref a0), (1, .int v1), (3, .int v3)]) hx hb dX6_giveNo_74 hl (k := 0) rfl rfl (by decide) rfl (fun ls hl => ?_)
            refine lv_goto (tgt := 15) hx hb dX6_giveNo_77 (by decide) ?_
            exact ih15 _ _ _ _ h _ _ hP hD hS _ (lv_sub hl [0, 1, 2, 3, 4] rfl)
          · have h := if_t h c_35
            refine lv_aload_n hx hb dX6_giveNo_38 rfl (lv_at hl 2 rfl) ?_
            refine va_get (ci := 6) (v := .ref a0_noRound) (C := RX6) (T := TX6) (N := 21) hx hb hts iu_X6 hown hK.1 hP 0 rfl rfl 13 (by decide) (hts (.fieldLink RX6 45 "SheetMarksModel" "noRound" "[I") (List.mem_of_getElem? (i := 2) rfl)) (fun _ h9 => h9) rfl dX6_giveNo_39 ?_
            refine lv_bipush (v := (18 : Int32)) hx hb dX6_giveNo_42 rfl ?_
            refine lv_iload_n hx hb dX6_giveNo_44 rfl (lv_at hl 3 rfl) ?_
            refine lv_imul hx hb dX6_giveNo_45 ?_
            refine lv_iload hx hb dX6_giveNo_46 (lv_at hl 0 rfl) ?_
            refine lv_iadd hx hb dX6_giveNo_48 ?_
            refine lv_aload_n hx hb dX6_giveNo_49 rfl (lv_at hl 2 rfl) ?_
            refine va_get (ci := 6) (v := .int c_rounds) (C := RX6) (T := TX6) (N := 21) hx hb hts iu_X6 hown hK.1 hP 0 rfl rfl 15 (by decide) (hts (.fieldLink RX6 73 "SheetMarksModel" "rounds" "I") (List.mem_of_getElem? (i := 3) rfl)) (fun _ h9 => h9) rfl dX6_giveNo_50 ?_
            refine lv_iconst (v := (1 : Int32)) hx hb dX6_giveNo_53 rfl ?_
            refine lv_iadd hx hb dX6_giveNo_54 ?_
            obtain ⟨g_55, h⟩ := gd_e h
            refine va_iast hx hb hK.1 hP hD hS 12 0 rfl rfl g_55 dX6_giveNo_55 (fun H locs hP hD hS => ?_)
            obtain ⟨c_noRound_55, e_55⟩ : ∃ y : Nat → Int32, y = (upd c_noRound_L15 (((18 : Int32) * v1) + v5_L15).toNatClampNeg (c_rounds + (1 : Int32))) := ⟨_, rfl⟩
            have h := lt'_e e_55 h
            have hP : va_P (dC, dI) vwCl (wX6 ck a0 a0_z a0_past a0_slots a0_isSaved a0_pad a0_yes a0_no a0_yesThen a0_noThen a0_yesRound a0_yesRule a0_noRound a0_noRule a0_orders c_z c_past c_slots c_isSaved c_pastMany c_pad c_typed c_yes c_no c_yesThen c_noThen c_yesRound c_yesRule c_noRound_55 c_noRule_L15 c_rounds c_isMore_L15 c_orders c_orderMany c_spot c_bad) H := by subst e_55; exact hP
            have hD : va_D A (wX6 ck a0 a0_z a0_past a0_slots a0_isSaved a0_pad a0_yes a0_no a0_yesThen a0_noThen a0_yesRound a0_yesRule a0_noRound a0_noRule a0_orders c_z c_past c_slots c_isSaved c_pastMany c_pad c_typed c_yes c_no c_yesThen c_noThen c_yesRound c_yesRule c_noRound_55 c_noRule_L15 c_rounds c_isMore_L15 c_orders c_orderMany c_spot c_bad) := by subst e_55; exact hD
            refine lv_aload_n hx hb dX6_giveNo_56 rfl (lv_at hl 2 rfl) ?_
            refine va_get (ci := 6) (v := .ref a0_noRule) (C := RX6) (T := TX6) (N := 21) hx hb hts iu_X6 hown hK.1 hP 0 rfl rfl 14 (by decide) (hts (.fieldLink RX6 48 "SheetMarksModel" "noRule" "[I") (List.mem_of_getElem? (i := 4) rfl)) (fun _ h9 => h9) rfl dX6_giveNo_57 ?_
            refine lv_bipush (v := (18 : Int32)) hx hb dX6_giveNo_60 rfl ?_
            refine lv_iload_n hx hb dX6_giveNo_62 rfl (lv_at hl 3 rfl) ?_
            refine lv_imul hx hb dX6_giveNo_63 ?_
            refine lv_iload hx hb dX6_giveNo_64 (lv_at hl 0 rfl) ?_
            refine lv_iadd hx hb dX6_giveNo_66 ?_
            refine lv_iload_n hx hb dX6_giveNo_67 rfl (lv_at hl 4 rfl) ?_
            obtain ⟨g_68, h⟩ := gd_e h
            refine va_iast hx hb hK.1 hP hD hS 13 0 rfl rfl g_68 dX6_giveNo_68 (fun H locs hP hD hS => ?_)
            obtain ⟨c_noRule_68, e_68⟩ : ∃ y : Nat → Int32, y = (upd c_noRule_L15 (((18 : Int32) * v1) + v5_L15).toNatClampNeg v3) := ⟨_, rfl⟩
            have h := lt'_e e_68 h
            have hP : va_P (dC, dI) vwCl (wX6 ck a0 a0_z a0_past a0_slots a0_isSaved a0_pad a0_yes a0_no a0_yesThen a0_noThen a0_yesRound a0_yesRule a0_noRound a0_noRule a0_orders c_z c_past c_slots c_isSaved c_pastMany c_pad c_typed c_yes c_no c_yesThen c_noThen c_yesRound c_yesRule c_noRound_55 c_noRule_68 c_rounds c_isMore_L15 c_orders c_orderMany c_spot c_bad) H := by subst e_68; exact hP
            have hD : va_D A (wX6 ck a0 a0_z a0_past a0_slots a0_isSaved a0_pad a0_yes a0_no a0_yesThen a0_noThen a0_yesRound a0_yesRule a0_noRound a0_noRule a0_orders c_z c_past c_slots c_isSaved c_pastMany c_pad c_typed c_yes c_no c_yesThen c_noThen c_yesRound c_yesRule c_noRound_55 c_noRule_68 c_rounds c_isMore_L15 c_orders c_orderMany c_spot c_bad) := by subst e_68; exact hD
            refine lv_aload_n hx hb dX6_giveNo_69 rfl (lv_at hl 2 rfl) ?_
            refine lv_iconst (v := (1 : Int32)) hx hb dX6_giveNo_70 rfl ?_
            refine va_put (ci := 6) (v := .int (1 : Int32)) (ty := .boolean) (C := RX6) (T := TX6) (N := 21) hx hb hts iu_X6 tyX6 tyX6_ok nmX6 hown hK.1 hP hD hS 0 rfl rfl 16 (by decide) (hts (.fieldLink RX6 76 "SheetMarksModel" "isMore" "Z") (List.mem_of_getElem? (i := 5) rfl)) (fun _ h9 => h9) rfl (by decide +kernel) rfl rfl (Nat.le_of_ble_eq_true rfl) dX6_giveNo_71 (fun H locs hP hD hS => ?_)
            have hP : va_P (dC, dI) vwCl (wX6 ck a0 a0_z a0_past a0_slots a0_isSaved a0_pad a0_yes a0_no a0_yesThen a0_noThen a0_yesRound a0_yesRule a0_noRound a0_noRule a0_orders c_z c_past c_slots c_isSaved c_pastMany c_pad c_typed c_yes c_no c_yesThen c_noThen c_yesRound c_yesRule c_noRound_55 c_noRule_68 c_rounds (1 : Int32) c_orders c_orderMany c_spot c_bad) H := hP
            have hD : va_D A (wX6 ck a0 a0_z a0_past a0_slots a0_isSaved a0_pad a0_yes a0_no a0_yesThen a0_noThen a0_yesRound a0_yesRule a0_noRound a0_noRule a0_orders c_z c_past c_slots c_isSaved c_pastMany c_pad c_typed c_yes c_no c_yesThen c_noThen c_yesRound c_yesRule c_noRound_55 c_noRule_68 c_rounds (1 : Int32) c_orders c_orderMany c_spot c_bad) := hD
            refine lv_iinc (v := (v5_L15 + (1 : Int32))) (lv' := [(5, .int (v5_L15 + (1 : Int32))), (4, .int v4_10), (0, .ref a0), (1, .int v1), (3, .int v3)]) hx hb dX6_giveNo_74 hl (k := 0) rfl rfl (by decide) rfl (fun ls hl => ?_)
            refine lv_goto (tgt := 15) hx hb dX6_giveNo_77 (by decide) ?_
            exact ih15 _ _ _ _ h _ _ hP hD hS _ (lv_sub hl [0, 1, 2, 3, 4] rfl)
  exact hL15 _ _ _ _ _ h _ _ hP hD hS _ (lv_sub hl [0, 1, 2, 3, 5] rfl)
noncomputable def f_X6_byFacts_L2 (c_z : Nat → Int32) (c_rounds : Int32) (rec2 : Int32 → (Nat → Int32) → (Nat → Int32) → (Nat → Int32) → (Nat → Int32) → (Nat → Int32) → (Nat → Int32) → Int32 → Option ((Nat → Int32) × (Nat → Int32) × (Nat → Int32) × (Nat → Int32) × (Nat → Int32) × (Nat → Int32) × Int32)) (v1_L2 : Int32) (c_yes_L2 : Nat → Int32) (c_no_L2 : Nat → Int32) (c_yesRound_L2 : Nat → Int32) (c_yesRule_L2 : Nat → Int32) (c_noRound_L2 : Nat → Int32) (c_noRule_L2 : Nat → Int32) (c_isMore_L2 : Int32) : Option ((Nat → Int32) × (Nat → Int32) × (Nat → Int32) × (Nat → Int32) × (Nat → Int32) × (Nat → Int32) × Int32) :=
  gd (1 : Int32) 207 (if (c_z (1 : Int32).toNatClampNeg) ≤ v1_L2 then (some (c_yes_L2, c_no_L2, c_yesRound_L2, c_yesRule_L2, c_noRound_L2, c_noRule_L2, c_isMore_L2)) else (ob1 (f_X6_fact c_z v1_L2 (0 : Int32)) (fun (r_15 : Int32) => if r_15 = (0 : Int32) then (ob1 (f_X6_fact c_z v1_L2 (1 : Int32)) (fun (r_25 : Int32) => ob1 (f_X6_fact c_z v1_L2 (2 : Int32)) (fun (r_32 : Int32) => ob4 (f_X6_giveYes c_yes_L2 c_yesRound_L2 c_yesRule_L2 c_rounds c_isMore_L2 r_25 ((1 : Int32) <<< (r_32 &&& 31)) (1 : Int32)) (fun (c_yes_37 : Nat → Int32) (c_yesRound_37 : Nat → Int32) (c_yesRule_37 : Nat → Int32) (c_isMore_37 : Int32) => rec2 (v1_L2 + (1 : Int32)) c_yes_37 c_no_L2 c_yesRound_37 c_yesRule_37 c_noRound_L2 c_noRule_L2 c_isMore_37)))) else (ob1 (f_X6_fact c_z v1_L2 (0 : Int32)) (fun (r_46 : Int32) => if r_46 = (1 : Int32) then (ob1 (f_X6_fact c_z v1_L2 (1 : Int32)) (fun (r_57 : Int32) => ob1 (f_X6_three c_z v1_L2) (fun (r_62 : Int32) => ob4 (f_X6_giveNo c_no_L2 c_noRound_L2 c_noRule_L2 c_rounds c_isMore_L2 r_57 r_62 (1 : Int32)) (fun (c_no_66 : Nat → Int32) (c_noRound_66 : Nat → Int32) (c_noRule_66 : Nat → Int32) (c_isMore_66 : Int32) => rec2 (v1_L2 + (1 : Int32)) c_yes_L2 c_no_66 c_yesRound_L2 c_yesRule_L2 c_noRound_66 c_noRule_66 c_isMore_66)))) else (rec2 (v1_L2 + (1 : Int32)) c_yes_L2 c_no_L2 c_yesRound_L2 c_yesRule_L2 c_noRound_L2 c_noRule_L2 c_isMore_L2))))))
noncomputable def f_X6_byFacts (c_z : Nat → Int32) (c_yes : Nat → Int32) (c_no : Nat → Int32) (c_yesRound : Nat → Int32) (c_yesRule : Nat → Int32) (c_noRound : Nat → Int32) (c_noRule : Nat → Int32) (c_rounds : Int32) (c_isMore : Int32) : Option ((Nat → Int32) × (Nat → Int32) × (Nat → Int32) × (Nat → Int32) × (Nat → Int32) × (Nat → Int32) × Int32) :=
  lo8 (f_X6_byFacts_L2 c_z c_rounds) FU (0 : Int32) c_yes c_no c_yesRound c_yesRule c_noRound c_noRule c_isMore
set_option maxHeartbeats 4000000 in
set_option maxRecDepth 100000 in
theorem c_X6_byFacts (l : Launch) (dC : Nat → ClassId) (dI : Nat → Nat → Nat) (ck : Nat → ClassId) (a0 a0_z a0_past a0_slots a0_isSaved a0_pad a0_yes a0_no a0_yesThen a0_noThen a0_yesRound a0_yesRule a0_noRound a0_noRule a0_orders : Nat) (c_z : Nat → Int32) (c_past : Nat → Int32) (c_slots : Nat → Int32) (c_isSaved : Nat → Int32) (c_pastMany : Int32) (c_pad : Nat → Int32) (c_typed : Int32) (c_yes : Nat → Int32) (c_no : Nat → Int32) (c_yesThen : Nat → Int32) (c_noThen : Nat → Int32) (c_yesRound : Nat → Int32) (c_yesRule : Nat → Int32) (c_noRound : Nat → Int32) (c_noRule : Nat → Int32) (c_rounds : Int32) (c_isMore : Int32) (c_orders : Nat → Int32) (c_orderMany : Int32) (c_spot : Int32) (c_bad : Int32) (o0 : Nat → Int32) (o1 : Nat → Int32) (o2 : Nat → Int32) (o3 : Nat → Int32) (o4 : Nat → Int32) (o5 : Nat → Int32) (o6 : Int32) (h : f_X6_byFacts c_z c_yes c_no c_yesRound c_yesRule c_noRound c_noRule c_rounds c_isMore = some (o0, o1, o2, o3, o4, o5, o6)) : MV l yX6_byFacts wsX6_byFacts ({ frames := 2, cells := 0, slots := 0, locals := 43 }) [.ref a0] (dC, dI) ck (wX6 ck a0 a0_z a0_past a0_slots a0_isSaved a0_pad a0_yes a0_no a0_yesThen a0_noThen a0_yesRound a0_yesRule a0_noRound a0_noRule a0_orders c_z c_past c_slots c_isSaved c_pastMany c_pad c_typed c_yes c_no c_yesThen c_noThen c_yesRound c_yesRule c_noRound c_noRule c_rounds c_isMore c_orders c_orderMany c_spot c_bad) (wX6 ck a0 a0_z a0_past a0_slots a0_isSaved a0_pad a0_yes a0_no a0_yesThen a0_noThen a0_yesRound a0_yesRule a0_noRound a0_noRule a0_orders c_z c_past c_slots c_isSaved c_pastMany c_pad c_typed o0 o1 c_yesThen c_noThen o2 o3 o4 o5 c_rounds o6 c_orders c_orderMany c_spot c_bad) := by
  refine MV.ofW (cc := cX6_byFacts) (maxL := 2) (ret := none) (by decide +kernel) rfl (Nat.le_of_ble_eq_true rfl) ?_
  intro p e s m below meth c hx hb hr hml hts hown hlk hK hP A hA hD ls hl
  have hS : va_S A s.heap s.heap [] := va_S.rf
  have hown : s.vm.findClass RX6 = some m.cls := hown
  have hl : lv_has ls 2 [(0, .ref a0)] := hl
  have iu_X6 : ∀ w ∈ u_ws RX6 TX6 21, w ∈ wsX6_byFacts := fun w h => List.mem_cons_of_mem _ (List.mem_append_right _ h)
  unfold f_X6_byFacts at h
  refine lv_iconst (v := (0 : Int32)) hx hb dX6_byFacts_0 rfl ?_
  refine lv_istore_n (lv' := [(1, .int (0 : Int32)), (0, .ref a0)]) hx hb dX6_byFacts_1 rfl hl (by decide) rfl (fun ls hl => ?_)
  have hL2 : ∀ (n2 : Nat) (v1_L2 : Int32) (c_yes_L2 : Nat → Int32) (c_no_L2 : Nat → Int32) (c_yesRound_L2 : Nat → Int32) (c_yesRule_L2 : Nat → Int32) (c_noRound_L2 : Nat → Int32) (c_noRule_L2 : Nat → Int32) (c_isMore_L2 : Int32), lo8 (f_X6_byFacts_L2 c_z c_rounds) n2 v1_L2 c_yes_L2 c_no_L2 c_yesRound_L2 c_yesRule_L2 c_noRound_L2 c_noRule_L2 c_isMore_L2 = some (o0, o1, o2, o3, o4, o5, o6) → ∀ (H : Heap) (locs : List Loc), va_P (dC, dI) vwCl (wX6 ck a0 a0_z a0_past a0_slots a0_isSaved a0_pad a0_yes a0_no a0_yesThen a0_noThen a0_yesRound a0_yesRule a0_noRound a0_noRule a0_orders c_z c_past c_slots c_isSaved c_pastMany c_pad c_typed c_yes_L2 c_no_L2 c_yesThen c_noThen c_yesRound_L2 c_yesRule_L2 c_noRound_L2 c_noRule_L2 c_rounds c_isMore_L2 c_orders c_orderMany c_spot c_bad) H → va_D A (wX6 ck a0 a0_z a0_past a0_slots a0_isSaved a0_pad a0_yes a0_no a0_yesThen a0_noThen a0_yesRound a0_yesRule a0_noRound a0_noRule a0_orders c_z c_past c_slots c_isSaved c_pastMany c_pad c_typed c_yes_L2 c_no_L2 c_yesThen c_noThen c_yesRound_L2 c_yesRule_L2 c_noRound_L2 c_noRule_L2 c_rounds c_isMore_L2 c_orders c_orderMany c_spot c_bad) → va_S A s.heap H locs → ∀ ls : Array Slot, lv_has ls 2 [(1, .int v1_L2), (0, .ref a0)] → W p l e (headSpec wsX6_byFacts ({ frames := 2, cells := 0, slots := 0, locals := 43 })).room s m [.ref a0].toArray below meth c H locs 0 0 (MQ below (QV (dC, dI) (wX6 ck a0 a0_z a0_past a0_slots a0_isSaved a0_pad a0_yes a0_no a0_yesThen a0_noThen a0_yesRound a0_yesRule a0_noRound a0_noRule a0_orders c_z c_past c_slots c_isSaved c_pastMany c_pad c_typed o0 o1 c_yesThen c_noThen o2 o3 o4 o5 c_rounds o6 c_orders c_orderMany c_spot c_bad) A) [.ref a0].toArray s 0 0 A) (F0 m 2 ls []) := by
    intro n2
    induction n2 with
    | zero => intro v1_L2 c_yes_L2 c_no_L2 c_yesRound_L2 c_yesRule_L2 c_noRound_L2 c_noRule_L2 c_isMore_L2 h; exact lo8_z h
    | succ n2 ih2 =>
      intro v1_L2 c_yes_L2 c_no_L2 c_yesRound_L2 c_yesRule_L2 c_noRound_L2 c_noRule_L2 c_isMore_L2 h H locs hP hD hS ls hl
      have h := lo8_s h
      unfold f_X6_byFacts_L2 at h
      refine lv_iload_n hx hb dX6_byFacts_2 rfl (lv_at hl 0 rfl) ?_
      refine lv_aload_n hx hb dX6_byFacts_3 rfl (lv_at hl 1 rfl) ?_
      refine va_get (ci := 6) (v := .ref a0_z) (C := RX6) (T := TX6) (N := 21) hx hb hts iu_X6 hown hK.1 hP 0 rfl rfl 0 (by decide) (hts (.fieldLink RX6 7 "SheetMarksModel" "z" "[I") (List.mem_of_getElem? (i := 1) rfl)) (fun _ h9 => h9) rfl dX6_byFacts_4 ?_
      refine lv_iconst (v := (1 : Int32)) hx hb dX6_byFacts_7 rfl ?_
      obtain ⟨g_8, h⟩ := gd_e h
      refine va_iald hx hb hK.1 hP 1 0 rfl rfl g_8 dX6_byFacts_8 ?_
      refine lv_icmp_ge (tgt := 75) hx hb dX6_byFacts_9 (by decide) (fun c_9 => ?_) (fun c_9 => ?_)
      · have h := if_t h c_9
        cases h
        exact eMv hx hb hr hlk hP hD hS dX6_byFacts_75
      · have h := if_f h c_9
        refine lv_aload_n hx hb dX6_byFacts_12 rfl (lv_at hl 1 rfl) ?_
        refine lv_iload_n hx hb dX6_byFacts_13 rfl (lv_at hl 0 rfl) ?_
        refine lv_iconst (v := (0 : Int32)) hx hb dX6_byFacts_14 rfl ?_
        obtain ⟨r_15, q_15, h⟩ := ob1_e h
        refine cRV (wc := wX6 ck a0 a0_z a0_past a0_slots a0_isSaved a0_pad a0_yes a0_no a0_yesThen a0_noThen a0_yesRound a0_yesRule a0_noRound a0_noRule a0_orders c_z c_past c_slots c_isSaved c_pastMany c_pad c_typed c_yes_L2 c_no_L2 c_yesThen c_noThen c_yesRound_L2 c_yesRule_L2 c_noRound_L2 c_noRule_L2 c_rounds c_isMore_L2 c_orders c_orderMany c_spot c_bad) ⟨hx, hb, hml, hown, hts⟩ hK hP [0, 1, 2, 3, 4, 5, 6, 7, 8, 9, 10, 11, 12, 13, 14] rfl (c_X6_fact l dC dI ck a0 a0_z a0_past a0_slots a0_isSaved a0_pad a0_yes a0_no a0_yesThen a0_noThen a0_yesRound a0_yesRule a0_noRound a0_noRule a0_orders c_z c_past c_slots c_isSaved c_pastMany c_pad c_typed c_yes_L2 c_no_L2 c_yesThen c_noThen c_yesRound_L2 c_yesRule_L2 c_noRound_L2 c_noRule_L2 c_rounds c_isMore_L2 c_orders c_orderMany c_spot c_bad v1_L2 (0 : Int32) r_15 q_15) (cwV 2 hts gX6_byFacts_X6_fact rfl rfl rfl (by decide +kernel) ⟨Nat.le_of_ble_eq_true rfl, Nat.le_of_ble_eq_true rfl⟩) 0 rfl rfl rfl hl.1 rfl (Nat.le_of_ble_eq_true rfl) dX6_byFacts_15 ⟨Nat.zero_le _, Nat.zero_le _⟩ ?_
        refine lv_if_ne (tgt := 43) hx hb dX6_byFacts_18 (by decide) (fun c_18 => ?_) (fun c_18 => ?_)
        · have h := if_f h c_18
          refine lv_aload_n hx hb dX6_byFacts_43 rfl (lv_at hl 1 rfl) ?_
          refine lv_iload_n hx hb dX6_byFacts_44 rfl (lv_at hl 0 rfl) ?_
          refine lv_iconst (v := (0 : Int32)) hx hb dX6_byFacts_45 rfl ?_
          obtain ⟨r_46, q_46, h⟩ := ob1_e h
          refine cRV (wc := wX6 ck a0 a0_z a0_past a0_slots a0_isSaved a0_pad a0_yes a0_no a0_yesThen a0_noThen a0_yesRound a0_yesRule a0_noRound a0_noRule a0_orders c_z c_past c_slots c_isSaved c_pastMany c_pad c_typed c_yes_L2 c_no_L2 c_yesThen c_noThen c_yesRound_L2 c_yesRule_L2 c_noRound_L2 c_noRule_L2 c_rounds c_isMore_L2 c_orders c_orderMany c_spot c_bad) ⟨hx, hb, hml, hown, hts⟩ hK hP [0, 1, 2, 3, 4, 5, 6, 7, 8, 9, 10, 11, 12, 13, 14] rfl (c_X6_fact l dC dI ck a0 a0_z a0_past a0_slots a0_isSaved a0_pad a0_yes a0_no a0_yesThen a0_noThen a0_yesRound a0_yesRule a0_noRound a0_noRule a0_orders c_z c_past c_slots c_isSaved c_pastMany c_pad c_typed c_yes_L2 c_no_L2 c_yesThen c_noThen c_yesRound_L2 c_yesRule_L2 c_noRound_L2 c_noRule_L2 c_rounds c_isMore_L2 c_orders c_orderMany c_spot c_bad v1_L2 (0 : Int32) r_46 q_46) (cwV 2 hts gX6_byFacts_X6_fact rfl rfl rfl (by decide +kernel) ⟨Nat.le_of_ble_eq_true rfl, Nat.le_of_ble_eq_true rfl⟩) 0 rfl rfl rfl hl.1 rfl (Nat.le_of_ble_eq_true rfl) dX6_byFacts_46 ⟨Nat.zero_le _, Nat.zero_le _⟩ ?_
          refine lv_iconst (v := (1 : Int32)) hx hb dX6_byFacts_49 rfl ?_
          refine lv_icmp_ne (tgt := 69) hx hb dX6_byFacts_50 (by decide) (fun c_50 => ?_) (fun c_50 => ?_)
          · have h := if_f h c_50
            refine lv_iinc (v := (v1_L2 + (1 : Int32))) (lv' := [(1, .int (v1_L2 + (1 : Int32))), (0, .ref a0)]) hx hb dX6_byFacts_69 hl (k := 0) rfl rfl (by decide) rfl (fun ls hl => ?_)
            refine lv_goto (tgt := 2) hx hb dX6_byFacts_72 (by decide) ?_
            exact ih2 _ _ _ _ _ _ _ _ h _ _ hP hD hS _ (lv_sub hl [0, 1] rfl)
          · have h := if_t h c_50
            refine lv_aload_n hx hb dX6_byFacts_53 rfl (lv_at hl 1 rfl) ?_
            refine lv_aload_n hx hb dX6_byFacts_54 rfl (lv_at hl 1 rfl) ?_
            refine lv_iload_n hx hb dX6_byFacts_55 rfl (lv_at hl 0 rfl) ?_
            refine lv_iconst (v := (1 : Int32)) hx hb dX6_byFacts_56 rfl ?_
            obtain ⟨r_57, q_57, h⟩ := ob1_e h
            refine cRV (wc := wX6 ck a0 a0_z a0_past a0_slots a0_isSaved a0_pad a0_yes a0_no a0_yesThen a0_noThen a0_yesRound a0_yesRule a0_noRound a0_noRule a0_orders c_z c_past c_slots c_isSaved c_pastMany c_pad c_typed c_yes_L2 c_no_L2 c_yesThen c_noThen c_yesRound_L2 c_yesRule_L2 c_noRound_L2 c_noRule_L2 c_rounds c_isMore_L2 c_orders c_orderMany c_spot c_bad) ⟨hx, hb, hml, hown, hts⟩ hK hP [0, 1, 2, 3, 4, 5, 6, 7, 8, 9, 10, 11, 12, 13, 14] rfl (c_X6_fact l dC dI ck a0 a0_z a0_past a0_slots a0_isSaved a0_pad a0_yes a0_no a0_yesThen a0_noThen a0_yesRound a0_yesRule a0_noRound a0_noRule a0_orders c_z c_past c_slots c_isSaved c_pastMany c_pad c_typed c_yes_L2 c_no_L2 c_yesThen c_noThen c_yesRound_L2 c_yesRule_L2 c_noRound_L2 c_noRule_L2 c_rounds c_isMore_L2 c_orders c_orderMany c_spot c_bad v1_L2 (1 : Int32) r_57 q_57) (cwV 2 hts gX6_byFacts_X6_fact rfl rfl rfl (by decide +kernel) ⟨Nat.le_of_ble_eq_true rfl, Nat.le_of_ble_eq_true rfl⟩) 0 rfl rfl rfl hl.1 rfl (Nat.le_of_ble_eq_true rfl) dX6_byFacts_57 ⟨Nat.zero_le _, Nat.zero_le _⟩ ?_
            refine lv_aload_n hx hb dX6_byFacts_60 rfl (lv_at hl 1 rfl) ?_
            refine lv_iload_n hx hb dX6_byFacts_61 rfl (lv_at hl 0 rfl) ?_
            obtain ⟨r_62, q_62, h⟩ := ob1_e h
            refine cRV (wc := wX6 ck a0 a0_z a0_past a0_slots a0_isSaved a0_pad a0_yes a0_no a0_yesThen a0_noThen a0_yesRound a0_yesRule a0_noRound a0_noRule a0_orders c_z c_past c_slots c_isSaved c_pastMany c_pad c_typed c_yes_L2 c_no_L2 c_yesThen c_noThen c_yesRound_L2 c_yesRule_L2 c_noRound_L2 c_noRule_L2 c_rounds c_isMore_L2 c_orders c_orderMany c_spot c_bad) ⟨hx, hb, hml, hown, hts⟩ hK hP [0, 1, 2, 3, 4, 5, 6, 7, 8, 9, 10, 11, 12, 13, 14] rfl (c_X6_three l dC dI ck a0 a0_z a0_past a0_slots a0_isSaved a0_pad a0_yes a0_no a0_yesThen a0_noThen a0_yesRound a0_yesRule a0_noRound a0_noRule a0_orders c_z c_past c_slots c_isSaved c_pastMany c_pad c_typed c_yes_L2 c_no_L2 c_yesThen c_noThen c_yesRound_L2 c_yesRule_L2 c_noRound_L2 c_noRule_L2 c_rounds c_isMore_L2 c_orders c_orderMany c_spot c_bad v1_L2 r_62 q_62) (cwV 1 hts gX6_byFacts_X6_three rfl rfl rfl (by decide +kernel) ⟨Nat.le_of_ble_eq_true rfl, Nat.le_of_ble_eq_true rfl⟩) 0 rfl rfl rfl hl.1 rfl (Nat.le_of_ble_eq_true rfl) dX6_byFacts_62 ⟨Nat.zero_le _, Nat.zero_le _⟩ ?_
            refine lv_iconst (v := (1 : Int32)) hx hb dX6_byFacts_65 rfl ?_
            obtain ⟨c_no_66, c_noRound_66, c_noRule_66, c_isMore_66, q_66, h⟩ := ob4_e h
            refine cMV (wc := wX6 ck a0 a0_z a0_past a0_slots a0_isSaved a0_pad a0_yes a0_no a0_yesThen a0_noThen a0_yesRound a0_yesRule a0_noRound a0_noRule a0_orders c_z c_past c_slots c_isSaved c_pastMany c_pad c_typed c_yes_L2 c_no_L2 c_yesThen c_noThen c_yesRound_L2 c_yesRule_L2 c_noRound_L2 c_noRule_L2 c_rounds c_isMore_L2 c_orders c_orderMany c_spot c_bad) (wr := []) (w1 := wX6 ck a0 a0_z a0_past a0_slots a0_isSaved a0_pad a0_yes a0_no a0_yesThen a0_noThen a0_yesRound a0_yesRule a0_noRound a0_noRule a0_orders c_z c_past c_slots c_isSaved c_pastMany c_pad c_typed c_yes_L2 c_no_66 c_yesThen c_noThen c_yesRound_L2 c_yesRule_L2 c_noRound_66 c_noRule_66 c_rounds c_isMore_66 c_orders c_orderMany c_spot c_bad) (wn := wX6 ck a0 a0_z a0_past a0_slots a0_isSaved a0_pad a0_yes a0_no a0_yesThen a0_noThen a0_yesRound a0_yesRule a0_noRound a0_noRule a0_orders c_z c_past c_slots c_isSaved c_pastMany c_pad c_typed c_yes_L2 c_no_66 c_yesThen c_noThen c_yesRound_L2 c_yesRule_L2 c_noRound_66 c_noRule_66 c_rounds c_isMore_66 c_orders c_orderMany c_spot c_bad) ⟨hx, hb, hml, hown, hts⟩ hK hP hD hS hA [0, 1, 2, 3, 4, 5, 6, 7, 8, 9, 10, 11, 12, 13, 14] [] [0, 1, 2, 3, 4, 5, 6, 7, 8, 9, 10, 11, 12, 13, 14] rfl (by decide) rfl (by decide) (by decide) rfl (by decide) (c_X6_giveNo l dC dI ck a0 a0_z a0_past a0_slots a0_isSaved a0_pad a0_yes a0_no a0_yesThen a0_noThen a0_yesRound a0_yesRule a0_noRound a0_noRule a0_orders c_z c_past c_slots c_isSaved c_pastMany c_pad c_typed c_yes_L2 c_no_L2 c_yesThen c_noThen c_yesRound_L2 c_yesRule_L2 c_noRound_L2 c_noRule_L2 c_rounds c_isMore_L2 c_orders c_orderMany c_spot c_bad r_57 r_62 (1 : Int32) c_no_66 c_noRound_66 c_noRule_66 c_isMore_66 q_66) (cwV 3 hts gX6_byFacts_X6_giveNo rfl rfl rfl (by decide +kernel) ⟨Nat.le_of_ble_eq_true rfl, Nat.le_of_ble_eq_true rfl⟩) 0 rfl rfl rfl hl.1 rfl (Nat.le_of_ble_eq_true rfl) dX6_byFacts_66 ⟨Nat.zero_le _, Nat.zero_le _⟩ (fun H locs hP hD hS => ?_)
            refine lv_iinc (v := (v1_L2 + (1 : Int32))) (lv' := [(1, .int (v1_L2 + (1 : Int32))), (0, .ref a0)]) hx hb dX6_byFacts_69 hl (k := 0) rfl rfl (by decide) rfl (fun ls hl => ?_)
            refine lv_goto (tgt := 2) hx hb dX6_byFacts_72 (by decide) ?_
            exact ih2 _ _ _ _ _ _ _ _ h _ _ hP hD hS _ (lv_sub hl [0, 1] rfl)
        · have h := if_t h c_18
          refine lv_aload_n hx hb dX6_byFacts_21 rfl (lv_at hl 1 rfl) ?_
          refine lv_aload_n hx hb dX6_byFacts_22 rfl (lv_at hl 1 rfl) ?_
          refine lv_iload_n hx hb dX6_byFacts_23 rfl (lv_at hl 0 rfl) ?_
          refine lv_iconst (v := (1 : Int32)) hx hb dX6_byFacts_24 rfl ?_
          obtain ⟨r_25, q_25, h⟩ := ob1_e h
          refine cRV (wc := wX6 ck a0 a0_z a0_past a0_slots a0_isSaved a0_pad a0_yes a0_no a0_yesThen a0_noThen a0_yesRound a0_yesRule a0_noRound a0_noRule a0_orders c_z c_past c_slots c_isSaved c_pastMany c_pad c_typed c_yes_L2 c_no_L2 c_yesThen c_noThen c_yesRound_L2 c_yesRule_L2 c_noRound_L2 c_noRule_L2 c_rounds c_isMore_L2 c_orders c_orderMany c_spot c_bad) ⟨hx, hb, hml, hown, hts⟩ hK hP [0, 1, 2, 3, 4, 5, 6, 7, 8, 9, 10, 11, 12, 13, 14] rfl (c_X6_fact l dC dI ck a0 a0_z a0_past a0_slots a0_isSaved a0_pad a0_yes a0_no a0_yesThen a0_noThen a0_yesRound a0_yesRule a0_noRound a0_noRule a0_orders c_z c_past c_slots c_isSaved c_pastMany c_pad c_typed c_yes_L2 c_no_L2 c_yesThen c_noThen c_yesRound_L2 c_yesRule_L2 c_noRound_L2 c_noRule_L2 c_rounds c_isMore_L2 c_orders c_orderMany c_spot c_bad v1_L2 (1 : Int32) r_25 q_25) (cwV 2 hts gX6_byFacts_X6_fact rfl rfl rfl (by decide +kernel) ⟨Nat.le_of_ble_eq_true rfl, Nat.le_of_ble_eq_true rfl⟩) 0 rfl rfl rfl hl.1 rfl (Nat.le_of_ble_eq_true rfl) dX6_byFacts_25 ⟨Nat.zero_le _, Nat.zero_le _⟩ ?_
          refine lv_iconst (v := (1 : Int32)) hx hb dX6_byFacts_28 rfl ?_
          refine lv_aload_n hx hb dX6_byFacts_29 rfl (lv_at hl 1 rfl) ?_
          refine lv_iload_n hx hb dX6_byFacts_30 rfl (lv_at hl 0 rfl) ?_
          refine lv_iconst (v := (2 : Int32)) hx hb dX6_byFacts_31 rfl ?_
          obtain ⟨r_32, q_32, h⟩ := ob1_e h
          refine cRV (wc := wX6 ck a0 a0_z a0_past a0_slots a0_isSaved a0_pad a0_yes a0_no a0_yesThen a0_noThen a0_yesRound a0_yesRule a0_noRound a0_noRule a0_orders c_z c_past c_slots c_isSaved c_pastMany c_pad c_typed c_yes_L2 c_no_L2 c_yesThen c_noThen c_yesRound_L2 c_yesRule_L2 c_noRound_L2 c_noRule_L2 c_rounds c_isMore_L2 c_orders c_orderMany c_spot c_bad) ⟨hx, hb, hml, hown, hts⟩ hK hP [0, 1, 2, 3, 4, 5, 6, 7, 8, 9, 10, 11, 12, 13, 14] rfl (c_X6_fact l dC dI ck a0 a0_z a0_past a0_slots a0_isSaved a0_pad a0_yes a0_no a0_yesThen a0_noThen a0_yesRound a0_yesRule a0_noRound a0_noRule a0_orders c_z c_past c_slots c_isSaved c_pastMany c_pad c_typed c_yes_L2 c_no_L2 c_yesThen c_noThen c_yesRound_L2 c_yesRule_L2 c_noRound_L2 c_noRule_L2 c_rounds c_isMore_L2 c_orders c_orderMany c_spot c_bad v1_L2 (2 : Int32) r_32 q_32) (cwV 2 hts gX6_byFacts_X6_fact rfl rfl rfl (by decide +kernel) ⟨Nat.le_of_ble_eq_true rfl, Nat.le_of_ble_eq_true rfl⟩) 0 rfl rfl rfl hl.1 rfl (Nat.le_of_ble_eq_true rfl) dX6_byFacts_32 ⟨Nat.zero_le _, Nat.zero_le _⟩ ?_
          refine lv_ishl hx hb dX6_byFacts_35 ?_
          refine lv_iconst (v := (1 : Int32)) hx hb dX6_byFacts_36 rfl ?_
          obtain ⟨c_yes_37, c_yesRound_37, c_yesRule_37, c_isMore_37, q_37, h⟩ := ob4_e h
          refine cMV (wc := wX6 ck a0 a0_z a0_past a0_slots a0_isSaved a0_pad a0_yes a0_no a0_yesThen a0_noThen a0_yesRound a0_yesRule a0_noRound a0_noRule a0_orders c_z c_past c_slots c_isSaved c_pastMany c_pad c_typed c_yes_L2 c_no_L2 c_yesThen c_noThen c_yesRound_L2 c_yesRule_L2 c_noRound_L2 c_noRule_L2 c_rounds c_isMore_L2 c_orders c_orderMany c_spot c_bad) (wr := []) (w1 := wX6 ck a0 a0_z a0_past a0_slots a0_isSaved a0_pad a0_yes a0_no a0_yesThen a0_noThen a0_yesRound a0_yesRule a0_noRound a0_noRule a0_orders c_z c_past c_slots c_isSaved c_pastMany c_pad c_typed c_yes_37 c_no_L2 c_yesThen c_noThen c_yesRound_37 c_yesRule_37 c_noRound_L2 c_noRule_L2 c_rounds c_isMore_37 c_orders c_orderMany c_spot c_bad) (wn := wX6 ck a0 a0_z a0_past a0_slots a0_isSaved a0_pad a0_yes a0_no a0_yesThen a0_noThen a0_yesRound a0_yesRule a0_noRound a0_noRule a0_orders c_z c_past c_slots c_isSaved c_pastMany c_pad c_typed c_yes_37 c_no_L2 c_yesThen c_noThen c_yesRound_37 c_yesRule_37 c_noRound_L2 c_noRule_L2 c_rounds c_isMore_37 c_orders c_orderMany c_spot c_bad) ⟨hx, hb, hml, hown, hts⟩ hK hP hD hS hA [0, 1, 2, 3, 4, 5, 6, 7, 8, 9, 10, 11, 12, 13, 14] [] [0, 1, 2, 3, 4, 5, 6, 7, 8, 9, 10, 11, 12, 13, 14] rfl (by decide) rfl (by decide) (by decide) rfl (by decide) (c_X6_giveYes l dC dI ck a0 a0_z a0_past a0_slots a0_isSaved a0_pad a0_yes a0_no a0_yesThen a0_noThen a0_yesRound a0_yesRule a0_noRound a0_noRule a0_orders c_z c_past c_slots c_isSaved c_pastMany c_pad c_typed c_yes_L2 c_no_L2 c_yesThen c_noThen c_yesRound_L2 c_yesRule_L2 c_noRound_L2 c_noRule_L2 c_rounds c_isMore_L2 c_orders c_orderMany c_spot c_bad r_25 ((1 : Int32) <<< (r_32 &&& 31)) (1 : Int32) c_yes_37 c_yesRound_37 c_yesRule_37 c_isMore_37 q_37) (cwV 3 hts gX6_byFacts_X6_giveYes rfl rfl rfl (by decide +kernel) ⟨Nat.le_of_ble_eq_true rfl, Nat.le_of_ble_eq_true rfl⟩) 0 rfl rfl rfl hl.1 rfl (Nat.le_of_ble_eq_true rfl) dX6_byFacts_37 ⟨Nat.zero_le _, Nat.zero_le _⟩ (fun H locs hP hD hS => ?_)
          refine lv_goto (tgt := 69) hx hb dX6_byFacts_40 (by decide) ?_
          refine lv_iinc (v := (v1_L2 + (1 : Int32))) (lv' := [(1, .int (v1_L2 + (1 : Int32))), (0, .ref a0)]) hx hb dX6_byFacts_69 hl (k := 0) rfl rfl (by decide) rfl (fun ls hl => ?_)
          refine lv_goto (tgt := 2) hx hb dX6_byFacts_72 (by decide) ?_
          exact ih2 _ _ _ _ _ _ _ _ h _ _ hP hD hS _ (lv_sub hl [0, 1] rfl)
  exact hL2 _ _ _ _ _ _ _ _ _ h _ _ hP hD hS _ (lv_sub hl [0, 1] rfl)
noncomputable def f_X6_byOneOwner_L10 (c_z : Nat → Int32) (c_yesThen : Nat → Int32) (c_rounds : Int32) (rec2 : Int32 → (Nat → Int32) → (Nat → Int32) → (Nat → Int32) → Int32 → Option ((Nat → Int32) × (Nat → Int32) × (Nat → Int32) × Int32)) (v1_L2 : Int32) (rec10 : Int32 → (Nat → Int32) → (Nat → Int32) → (Nat → Int32) → Int32 → Option ((Nat → Int32) × (Nat → Int32) × (Nat → Int32) × Int32)) (v2_L10 : Int32) (c_no_L10 : Nat → Int32) (c_noRound_L10 : Nat → Int32) (c_noRule_L10 : Nat → Int32) (c_isMore_L10 : Int32) : Option ((Nat → Int32) × (Nat → Int32) × (Nat → Int32) × Int32) :=
  if (6 : Int32) ≤ v2_L10 then (rec2 (v1_L2 + (1 : Int32)) c_no_L10 c_noRound_L10 c_noRule_L10 c_isMore_L10) else (if v1_L2 = v2_L10 then (rec10 (v2_L10 + (1 : Int32)) c_no_L10 c_noRound_L10 c_noRule_L10 c_isMore_L10) else (ob1 (f_X6_isOwner c_z v1_L2) (fun (r_23 : Int32) => if r_23 = (0 : Int32) then (rec10 (v2_L10 + (1 : Int32)) c_no_L10 c_noRound_L10 c_noRule_L10 c_isMore_L10) else (ob1 (f_X6_isOwner c_z v2_L10) (fun (r_31 : Int32) => if r_31 = (0 : Int32) then (rec10 (v2_L10 + (1 : Int32)) c_no_L10 c_noRound_L10 c_noRule_L10 c_isMore_L10) else (gd v1_L2 6 (ob4 (f_X6_giveNo c_no_L10 c_noRound_L10 c_noRule_L10 c_rounds c_isMore_L10 v2_L10 (c_yesThen v1_L2.toNatClampNeg) (2 : Int32)) (fun (c_no_46 : Nat → Int32) (c_noRound_46 : Nat → Int32) (c_noRule_46 : Nat → Int32) (c_isMore_46 : Int32) => rec10 (v2_L10 + (1 : Int32)) c_no_46 c_noRound_46 c_noRule_46 c_isMore_46))))))))
noncomputable def f_X6_byOneOwner_L2 (c_z : Nat → Int32) (c_yesThen : Nat → Int32) (c_rounds : Int32) (rec2 : Int32 → (Nat → Int32) → (Nat → Int32) → (Nat → Int32) → Int32 → Option ((Nat → Int32) × (Nat → Int32) × (Nat → Int32) × Int32)) (v1_L2 : Int32) (c_no_L2 : Nat → Int32) (c_noRound_L2 : Nat → Int32) (c_noRule_L2 : Nat → Int32) (c_isMore_L2 : Int32) : Option ((Nat → Int32) × (Nat → Int32) × (Nat → Int32) × Int32) :=
  if (6 : Int32) ≤ v1_L2 then (some (c_no_L2, c_noRound_L2, c_noRule_L2, c_isMore_L2)) else (lo5 (f_X6_byOneOwner_L10 c_z c_yesThen c_rounds rec2 v1_L2) FU (0 : Int32) c_no_L2 c_noRound_L2 c_noRule_L2 c_isMore_L2)
noncomputable def f_X6_byOneOwner (c_z : Nat → Int32) (c_no : Nat → Int32) (c_yesThen : Nat → Int32) (c_noRound : Nat → Int32) (c_noRule : Nat → Int32) (c_rounds : Int32) (c_isMore : Int32) : Option ((Nat → Int32) × (Nat → Int32) × (Nat → Int32) × Int32) :=
  lo5 (f_X6_byOneOwner_L2 c_z c_yesThen c_rounds) FU (0 : Int32) c_no c_noRound c_noRule c_isMore
set_option maxHeartbeats 4000000 in
set_option maxRecDepth 100000 in
theorem c_X6_byOneOwner (l : Launch) (dC : Nat → ClassId) (dI : Nat → Nat → Nat) (ck : Nat → ClassId) (a0 a0_z a0_past a0_slots a0_isSaved a0_pad a0_yes a0_no a0_yesThen a0_noThen a0_yesRound a0_yesRule a0_noRound a0_noRule a0_orders : Nat) (c_z : Nat → Int32) (c_past : Nat → Int32) (c_slots : Nat → Int32) (c_isSaved : Nat → Int32) (c_pastMany : Int32) (c_pad : Nat → Int32) (c_typed : Int32) (c_yes : Nat → Int32) (c_no : Nat → Int32) (c_yesThen : Nat → Int32) (c_noThen : Nat → Int32) (c_yesRound : Nat → Int32) (c_yesRule : Nat → Int32) (c_noRound : Nat → Int32) (c_noRule : Nat → Int32) (c_rounds : Int32) (c_isMore : Int32) (c_orders : Nat → Int32) (c_orderMany : Int32) (c_spot : Int32) (c_bad : Int32) (o0 : Nat → Int32) (o1 : Nat → Int32) (o2 : Nat → Int32) (o3 : Int32) (h : f_X6_byOneOwner c_z c_no c_yesThen c_noRound c_noRule c_rounds c_isMore = some (o0, o1, o2, o3)) : MV l yX6_byOneOwner wsX6_byOneOwner ({ frames := 2, cells := 0, slots := 0, locals := 42 }) [.ref a0] (dC, dI) ck (wX6 ck a0 a0_z a0_past a0_slots a0_isSaved a0_pad a0_yes a0_no a0_yesThen a0_noThen a0_yesRound a0_yesRule a0_noRound a0_noRule a0_orders c_z c_past c_slots c_isSaved c_pastMany c_pad c_typed c_yes c_no c_yesThen c_noThen c_yesRound c_yesRule c_noRound c_noRule c_rounds c_isMore c_orders c_orderMany c_spot c_bad) (wX6 ck a0 a0_z a0_past a0_slots a0_isSaved a0_pad a0_yes a0_no a0_yesThen a0_noThen a0_yesRound a0_yesRule a0_noRound a0_noRule a0_orders c_z c_past c_slots c_isSaved c_pastMany c_pad c_typed c_yes o0 c_yesThen c_noThen c_yesRound c_yesRule o1 o2 c_rounds o3 c_orders c_orderMany c_spot c_bad) := by
  refine MV.ofW (cc := cX6_byOneOwner) (maxL := 3) (ret := none) (by decide +kernel) rfl (Nat.le_of_ble_eq_true rfl) ?_
  intro p e s m below meth c hx hb hr hml hts hown hlk hK hP A hA hD ls hl
  have hS : va_S A s.heap s.heap [] := va_S.rf
  have hown : s.vm.findClass RX6 = some m.cls := hown
  have hl : lv_has ls 3 [(0, .ref a0)] := hl
  have iu_X6 : ∀ w ∈ u_ws RX6 TX6 21, w ∈ wsX6_byOneOwner := fun w h => List.mem_cons_of_mem _ (List.mem_append_right _ h)
  unfold f_X6_byOneOwner at h
  refine lv_iconst (v := (0 : Int32)) hx hb dX6_byOneOwner_0 rfl ?_
  refine lv_istore_n (lv' := [(1, .int (0 : Int32)), (0, .ref a0)]) hx hb dX6_byOneOwner_1 rfl hl (by decide) rfl (fun ls hl => ?_)
  have hL2 : ∀ (n2 : Nat) (v1_L2 : Int32) (c_no_L2 : Nat → Int32) (c_noRound_L2 : Nat → Int32) (c_noRule_L2 : Nat → Int32) (c_isMore_L2 : Int32), lo5 (f_X6_byOneOwner_L2 c_z c_yesThen c_rounds) n2 v1_L2 c_no_L2 c_noRound_L2 c_noRule_L2 c_isMore_L2 = some (o0, o1, o2, o3) → ∀ (H : Heap) (locs : List Loc), va_P (dC, dI) vwCl (wX6 ck a0 a0_z a0_past a0_slots a0_isSaved a0_pad a0_yes a0_no a0_yesThen a0_noThen a0_yesRound a0_yesRule a0_noRound a0_noRule a0_orders c_z c_past c_slots c_isSaved c_pastMany c_pad c_typed c_yes c_no_L2 c_yesThen c_noThen c_yesRound c_yesRule c_noRound_L2 c_noRule_L2 c_rounds c_isMore_L2 c_orders c_orderMany c_spot c_bad) H → va_D A (wX6 ck a0 a0_z a0_past a0_slots a0_isSaved a0_pad a0_yes a0_no a0_yesThen a0_noThen a0_yesRound a0_yesRule a0_noRound a0_noRule a0_orders c_z c_past c_slots c_isSaved c_pastMany c_pad c_typed c_yes c_no_L2 c_yesThen c_noThen c_yesRound c_yesRule c_noRound_L2 c_noRule_L2 c_rounds c_isMore_L2 c_orders c_orderMany c_spot c_bad) → va_S A s.heap H locs → ∀ ls : Array Slot, lv_has ls 3 [(1, .int v1_L2), (0, .ref a0)] → W p l e (headSpec wsX6_byOneOwner ({ frames := 2, cells := 0, slots := 0, locals := 42 })).room s m [.ref a0].toArray below meth c H locs 0 0 (MQ below (QV (dC, dI) (wX6 ck a0 a0_z a0_past a0_slots a0_isSaved a0_pad a0_yes a0_no a0_yesThen a0_noThen a0_yesRound a0_yesRule a0_noRound a0_noRule a0_orders c_z c_past c_slots c_isSaved c_pastMany c_pad c_typed c_yes o0 c_yesThen c_noThen c_yesRound c_yesRule o1 o2 c_rounds o3 c_orders c_orderMany c_spot c_bad) A) [.ref a0].toArray s 0 0 A) (F0 m 2 ls []) := by
    intro n2
    induction n2 with
    | zero => intro v1_L2 c_no_L2 c_noRound_L2 c_noRule_L2 c_isMore_L2 h; exact lo5_z h
    | succ n2 ih2 =>
      intro v1_L2 c_no_L2 c_noRound_L2 c_noRule_L2 c_isMore_L2 h H locs hP hD hS ls hl
      have h := lo5_s h
      unfold f_X6_byOneOwner_L2 at h
      refine lv_iload_n hx hb dX6_byOneOwner_2 rfl (lv_at hl 0 rfl) ?_
      refine lv_bipush (v := (6 : Int32)) hx hb dX6_byOneOwner_3 rfl ?_
      refine lv_icmp_ge (tgt := 61) hx hb dX6_byOneOwner_5 (by decide) (fun c_5 => ?_) (fun c_5 => ?_)
      · have h := if_t h c_5
        cases h
        exact eMv hx hb hr hlk hP hD hS dX6_byOneOwner_61
      · have h := if_f h c_5
        refine lv_iconst (v := (0 : Int32)) hx hb dX6_byOneOwner_8 rfl ?_
        refine lv_istore_n (lv' := [(2, .int (0 : Int32)), (1, .int v1_L2), (0, .ref a0)]) hx hb dX6_byOneOwner_9 rfl hl (by decide) rfl (fun ls hl => ?_)
        have hL10 : ∀ (n10 : Nat) (v2_L10 : Int32) (c_no_L10 : Nat → Int32) (c_noRound_L10 : Nat → Int32) (c_noRule_L10 : Nat → Int32) (c_isMore_L10 : Int32), lo5 (f_X6_byOneOwner_L10 c_z c_yesThen c_rounds (lo5 (f_X6_byOneOwner_L2 c_z c_yesThen c_rounds) n2) v1_L2) n10 v2_L10 c_no_L10 c_noRound_L10 c_noRule_L10 c_isMore_L10 = some (o0, o1, o2, o3) → ∀ (H : Heap) (locs : List Loc), va_P (dC, dI) vwCl (wX6 ck a0 a0_z a0_past a0_slots a0_isSaved a0_pad a0_yes a0_no a0_yesThen a0_noThen a0_yesRound a0_yesRule a0_noRound a0_noRule a0_orders c_z c_past c_slots c_isSaved c_pastMany c_pad c_typed c_yes c_no_L10 c_yesThen c_noThen c_yesRound c_yesRule c_noRound_L10 c_noRule_L10 c_rounds c_isMore_L10 c_orders c_orderMany c_spot c_bad) H → va_D A (wX6 ck a0 a0_z a0_past a0_slots a0_isSaved a0_pad a0_yes a0_no a0_yesThen a0_noThen a0_yesRound a0_yesRule a0_noRound a0_noRule a0_orders c_z c_past c_slots c_isSaved c_pastMany c_pad c_typed c_yes c_no_L10 c_yesThen c_noThen c_yesRound c_yesRule c_noRound_L10 c_noRule_L10 c_rounds c_isMore_L10 c_orders c_orderMany c_spot c_bad) → va_S A s.heap H locs → ∀ ls : Array Slot, lv_has ls 3 [(2, .int v2_L10), (1, .int v1_L2), (0, .ref a0)] → W p l e (headSpec wsX6_byOneOwner ({ frames := 2, cells := 0, slots := 0, locals := 42 })).room s m [.ref a0].toArray below meth c H locs 0 0 (MQ below (QV (dC, dI) (wX6 ck a0 a0_z a0_past a0_slots a0_isSaved a0_pad a0_yes a0_no a0_yesThen a0_noThen a0_yesRound a0_yesRule a0_noRound a0_noRule a0_orders c_z c_past c_slots c_isSaved c_pastMany c_pad c_typed c_yes o0 c_yesThen c_noThen c_yesRound c_yesRule o1 o2 c_rounds o3 c_orders c_orderMany c_spot c_bad) A) [.ref a0].toArray s 0 0 A) (F0 m 10 ls []) := by
          intro n10
          induction n10 with
          | zero => intro v2_L10 c_no_L10 c_noRound_L10 c_noRule_L10 c_isMore_L10 h; exact lo5_z h
          | succ n10 ih10 =>
            intro v2_L10 c_no_L10 c_noRound_L10 c_noRule_L10 c_isMore_L10 h H locs hP hD hS ls hl
            have h := lo5_s h
            unfold f_X6_byOneOwner_L10 at h
            refine lv_iload_n hx hb dX6_byOneOwner_10 rfl (lv_at hl 0 rfl) ?_
            refine lv_bipush (v := (6 : Int32)) hx hb dX6_byOneOwner_11 rfl ?_
            refine lv_icmp_ge (tgt := 55) hx hb dX6_byOneOwner_13 (by decide) (fun c_13 => ?_) (fun c_13 => ?_)
            · have h := if_t h c_13
              refine lv_iinc (v := (v1_L2 + (1 : Int32))) (lv' := [(1, .int (v1_L2 + (1 : Int32))), (2, .int v2_L10), (0, .ref a0)]) hx hb dX6_byOneOwner_55 hl (k := 1) rfl rfl (by decide) rfl (fun ls hl => ?_)
              refine lv_goto (tgt := 2) hx hb dX6_byOneOwner_58 (by decide) ?_
              exact ih2 _ _ _ _ _ h _ _ hP hD hS _ (lv_sub hl [0, 2] rfl)
            · have h := if_f h c_13
              refine lv_iload_n hx hb dX6_byOneOwner_16 rfl (lv_at hl 1 rfl) ?_
              refine lv_iload_n hx hb dX6_byOneOwner_17 rfl (lv_at hl 0 rfl) ?_
              refine lv_icmp_eq (tgt := 49) hx hb dX6_byOneOwner_18 (by decide) (fun c_18 => ?_) (fun c_18 => ?_)
              · have h := if_t h c_18
                refine lv_iinc (v := (v2_L10 + (1 : Int32))) (lv' := [(2, .int (v2_L10 + (1 : Int32))), (1, .int v1_L2), (0, .ref a0)]) hx hb dX6_byOneOwner_49 hl (k := 0) rfl rfl (by decide) rfl (fun ls hl => ?_)
                refine lv_goto (tgt := 10) hx hb dX6_byOneOwner_52 (by decide) ?_
                exact ih10 _ _ _ _ _ h _ _ hP hD hS _ (lv_sub hl [0, 1, 2] rfl)
              · have h := if_f h c_18
                refine lv_aload_n hx hb dX6_byOneOwner_21 rfl (lv_at hl 2 rfl) ?_
                refine lv_iload_n hx hb dX6_byOneOwner_22 rfl (lv_at hl 1 rfl) ?_
                obtain ⟨r_23, q_23, h⟩ := ob1_e h
                refine cRV (wc := wX6 ck a0 a0_z a0_past a0_slots a0_isSaved a0_pad a0_yes a0_no a0_yesThen a0_noThen a0_yesRound a0_yesRule a0_noRound a0_noRule a0_orders c_z c_past c_slots c_isSaved c_pastMany c_pad c_typed c_yes c_no_L10 c_yesThen c_noThen c_yesRound c_yesRule c_noRound_L10 c_noRule_L10 c_rounds c_isMore_L10 c_orders c_orderMany c_spot c_bad) ⟨hx, hb, hml, hown, hts⟩ hK hP [0, 1, 2, 3, 4, 5, 6, 7, 8, 9, 10, 11, 12, 13, 14] rfl (c_X6_isOwner l dC dI ck a0 a0_z a0_past a0_slots a0_isSaved a0_pad a0_yes a0_no a0_yesThen a0_noThen a0_yesRound a0_yesRule a0_noRound a0_noRule a0_orders c_z c_past c_slots c_isSaved c_pastMany c_pad c_typed c_yes c_no_L10 c_yesThen c_noThen c_yesRound c_yesRule c_noRound_L10 c_noRule_L10 c_rounds c_isMore_L10 c_orders c_orderMany c_spot c_bad v1_L2 r_23 q_23) (cwV 1 hts gX6_byOneOwner_X6_isOwner rfl rfl rfl (by decide +kernel) ⟨Nat.le_of_ble_eq_true rfl, Nat.le_of_ble_eq_true rfl⟩) 0 rfl rfl rfl hl.1 rfl (Nat.le_of_ble_eq_true rfl) dX6_byOneOwner_23 ⟨Nat.zero_le _, Nat.zero_le _⟩ ?_
                refine lv_if_eq (tgt := 49) hx hb dX6_byOneOwner_26 (by decide) (fun c_26 => ?_) (fun c_26 => ?_)
                · have h := if_t h c_26
                  refine lv_iinc (v := (v2_L10 + (1 : Int32))) (lv' := [(2, .int (v2_L10 + (1 : Int32))), (1, .int v1_L2), (0, .ref a0)]) hx hb dX6_byOneOwner_49 hl (k := 0) rfl rfl (by decide) rfl (fun ls hl => ?_)
                  refine lv_goto (tgt := 10) hx hb dX6_byOneOwner_52 (by decide) ?_
                  exact ih10 _ _ _ _ _ h _ _ hP hD hS _ (lv_sub hl [0, 1, 2] rfl)
                · have h := if_f h c_26
                  refine lv_aload_n hx hb dX6_byOneOwner_29 rfl (lv_at hl 2 rfl) ?_
                  refine lv_iload_n hx hb dX6_byOneOwner_30 rfl (lv_at hl 0 rfl) ?_
                  obtain ⟨r_31, q_31, h⟩ := ob1_e h
                  refine cRV (wc := wX6 ck a0 a0_z a0_past a0_slots a0_isSaved a0_pad a0_yes a0_no a0_yesThen a0_noThen a0_yesRound a0_yesRule a0_noRound a0_noRule a0_orders c_z c_past c_slots c_isSaved c_pastMany c_pad c_typed c_yes c_no_L10 c_yesThen c_noThen c_yesRound c_yesRule c_noRound_L10 c_noRule_L10 c_rounds c_isMore_L10 c_orders c_orderMany c_spot c_bad) ⟨hx, hb, hml, hown, hts⟩ hK hP [0, 1, 2, 3, 4, 5, 6, 7, 8, 9, 10, 11, 12, 13, 14] rfl (c_X6_isOwner l dC dI ck a0 a0_z a0_past a0_slots a0_isSaved a0_pad a0_yes a0_no a0_yesThen a0_noThen a0_yesRound a0_yesRule a0_noRound a0_noRule a0_orders c_z c_past c_slots c_isSaved c_pastMany c_pad c_typed c_yes c_no_L10 c_yesThen c_noThen c_yesRound c_yesRule c_noRound_L10 c_noRule_L10 c_rounds c_isMore_L10 c_orders c_orderMany c_spot c_bad v2_L10 r_31 q_31) (cwV 1 hts gX6_byOneOwner_X6_isOwner rfl rfl rfl (by decide +kernel) ⟨Nat.le_of_ble_eq_true rfl, Nat.le_of_ble_eq_true rfl⟩) 0 rfl rfl rfl hl.1 rfl (Nat.le_of_ble_eq_true rfl) dX6_byOneOwner_31 ⟨Nat.zero_le _, Nat.zero_le _⟩ ?_
                  refine lv_if_eq (tgt := 49) hx hb dX6_byOneOwner_34 (by decide) (fun c_34 => ?_) (fun c_34 => ?_)
                  · have h := if_t h c_34
                    refine lv_iinc (v := (v2_L10 + (1 : Int32))) (lv' := [(2, .int (v2_L10 + (1 : Int32))), (1, .int v1_L2), (0, .ref a0)]) hx hb dX6_byOneOwner_49 hl (k := 0) rfl rfl (by decide) rfl (fun ls hl => ?_)
                    refine lv_goto (tgt := 10) hx hb dX6_byOneOwner_52 (by decide) ?_
                    exact ih10 _ _ _ _ _ h _ _ hP hD hS _ (lv_sub hl [0, 1, 2] rfl)
                  · have h := if_f h c_34
                    refine lv_aload_n hx hb dX6_byOneOwner_37 rfl (lv_at hl 2 rfl) ?_
                    refine lv_iload_n hx hb dX6_byOneOwner_38 rfl (lv_at hl 0 rfl) ?_
                    refine lv_aload_n hx hb dX6_byOneOwner_39 rfl (lv_at hl 2 rfl) ?_
                    refine va_get (ci := 6) (v := .ref a0_yesThen) (C := RX6) (T := TX6) (N := 21) hx hb hts iu_X6 hown hK.1 hP 0 rfl rfl 9 (by decide) (hts (.fieldLink RX6 33 "SheetMarksModel" "yesThen" "[I") (List.mem_of_getElem? (i := 1) rfl)) (fun _ h9 => h9) rfl dX6_byOneOwner_40 ?_
                    refine lv_iload_n hx hb dX6_byOneOwner_43 rfl (lv_at hl 1 rfl) ?_
                    obtain ⟨g_44, h⟩ := gd_e h
                    refine va_iald hx hb hK.1 hP 8 0 rfl rfl g_44 dX6_byOneOwner_44 ?_
                    refine lv_iconst (v := (2 : Int32)) hx hb dX6_byOneOwner_45 rfl ?_
                    obtain ⟨c_no_46, c_noRound_46, c_noRule_46, c_isMore_46, q_46, h⟩ := ob4_e h
                    refine cMV (wc := wX6 ck a0 a0_z a0_past a0_slots a0_isSaved a0_pad a0_yes a0_no a0_yesThen a0_noThen a0_yesRound a0_yesRule a0_noRound a0_noRule a0_orders c_z c_past c_slots c_isSaved c_pastMany c_pad c_typed c_yes c_no_L10 c_yesThen c_noThen c_yesRound c_yesRule c_noRound_L10 c_noRule_L10 c_rounds c_isMore_L10 c_orders c_orderMany c_spot c_bad) (wr := []) (w1 := wX6 ck a0 a0_z a0_past a0_slots a0_isSaved a0_pad a0_yes a0_no a0_yesThen a0_noThen a0_yesRound a0_yesRule a0_noRound a0_noRule a0_orders c_z c_past c_slots c_isSaved c_pastMany c_pad c_typed c_yes c_no_46 c_yesThen c_noThen c_yesRound c_yesRule c_noRound_46 c_noRule_46 c_rounds c_isMore_46 c_orders c_orderMany c_spot c_bad) (wn := wX6 ck a0 a0_z a0_past a0_slots a0_isSaved a0_pad a0_yes a0_no a0_yesThen a0_noThen a0_yesRound a0_yesRule a0_noRound a0_noRule a0_orders c_z c_past c_slots c_isSaved c_pastMany c_pad c_typed c_yes c_no_46 c_yesThen c_noThen c_yesRound c_yesRule c_noRound_46 c_noRule_46 c_rounds c_isMore_46 c_orders c_orderMany c_spot c_bad) ⟨hx, hb, hml, hown, hts⟩ hK hP hD hS hA [0, 1, 2, 3, 4, 5, 6, 7, 8, 9, 10, 11, 12, 13, 14] [] [0, 1, 2, 3, 4, 5, 6, 7, 8, 9, 10, 11, 12, 13, 14] rfl (by decide) rfl (by decide) (by decide) rfl (by decide) (c_X6_giveNo l dC dI ck a0 a0_z a0_past a0_slots a0_isSaved a0_pad a0_yes a0_no a0_yesThen a0_noThen a0_yesRound a0_yesRule a0_noRound a0_noRule a0_orders c_z c_past c_slots c_isSaved c_pastMany c_pad c_typed c_yes c_no_L10 c_yesThen c_noThen c_yesRound c_yesRule c_noRound_L10 c_noRule_L10 c_rounds c_isMore_L10 c_orders c_orderMany c_spot c_bad v2_L10 (c_yesThen v1_L2.toNatClampNeg) (2 : Int32) c_no_46 c_noRound_46 c_noRule_46 c_isMore_46 q_46) (cwV 3 hts gX6_byOneOwner_X6_giveNo rfl rfl rfl (by decide +kernel) ⟨Nat.le_of_ble_eq_true rfl, Nat.le_of_ble_eq_true rfl⟩) 0 rfl rfl rfl hl.1 rfl (Nat.le_of_ble_eq_true rfl) dX6_byOneOwner_46 ⟨Nat.zero_le _, Nat.zero_le _⟩ (fun H locs hP hD hS => ?_)
                    refine lv_iinc (v := (v2_L10 + (1 : Int32))) (lv' := [(2, .int (v2_L10 + (1 : Int32))), (1, .int v1_L2), (0, .ref a0)]) hx hb dX6_byOneOwner_49 hl (k := 0) rfl rfl (by decide) rfl (fun ls hl => ?_)
                    refine lv_goto (tgt := 10) hx hb dX6_byOneOwner_52 (by decide) ?_
                    exact ih10 _ _ _ _ _ h _ _ hP hD hS _ (lv_sub hl [0, 1, 2] rfl)
        exact hL10 _ _ _ _ _ _ h _ _ hP hD hS _ (lv_sub hl [0, 1, 2] rfl)
  exact hL2 _ _ _ _ _ _ h _ _ hP hD hS _ (lv_sub hl [0, 1] rfl)
noncomputable def f_X6_byLastOwner_L16 (c_z : Nat → Int32) (c_noThen : Nat → Int32) (c_rounds : Int32) (rec2 : Int32 → (Nat → Int32) → (Nat → Int32) → (Nat → Int32) → Int32 → Option ((Nat → Int32) × (Nat → Int32) × (Nat → Int32) × Int32)) (v1_L2 : Int32) (c_yes_L2 : Nat → Int32) (c_yesRound_L2 : Nat → Int32) (c_yesRule_L2 : Nat → Int32) (c_isMore_L2 : Int32) (rec16 : Int32 → Int32 → Int32 → Option ((Nat → Int32) × (Nat → Int32) × (Nat → Int32) × Int32)) (v2_L16 : Int32) (v3_L16 : Int32) (v4_L16 : Int32) : Option ((Nat → Int32) × (Nat → Int32) × (Nat → Int32) × Int32) :=
  if (6 : Int32) ≤ v4_L16 then (if v2_L16 = (1 : Int32) then (ob4 (f_X6_giveYes c_yes_L2 c_yesRound_L2 c_yesRule_L2 c_rounds c_isMore_L2 v3_L16 ((1 : Int32) <<< (v1_L2 &&& 31)) (3 : Int32)) (fun (c_yes_69 : Nat → Int32) (c_yesRound_69 : Nat → Int32) (c_yesRule_69 : Nat → Int32) (c_isMore_69 : Int32) => rec2 (v1_L2 + (1 : Int32)) c_yes_69 c_yesRound_69 c_yesRule_69 c_isMore_69)) else (rec2 (v1_L2 + (1 : Int32)) c_yes_L2 c_yesRound_L2 c_yesRule_L2 c_isMore_L2)) else (ob1 (f_X6_isOwner c_z v4_L16) (fun (r_26 : Int32) => if r_26 = (0 : Int32) then (rec16 v2_L16 v3_L16 (v4_L16 + (1 : Int32))) else (gd v4_L16 6 (if (((c_noThen v4_L16.toNatClampNeg) >>> (v1_L2 &&& 31)) &&& (1 : Int32)) = (0 : Int32) then (lt' (v2_L16 + (1 : Int32)) (fun v2_46 : Int32 => rec16 v2_46 v4_L16 (v4_L16 + (1 : Int32)))) else (rec16 v2_L16 v3_L16 (v4_L16 + (1 : Int32)))))))
noncomputable def f_X6_byLastOwner_L2 (c_z : Nat → Int32) (c_noThen : Nat → Int32) (c_rounds : Int32) (rec2 : Int32 → (Nat → Int32) → (Nat → Int32) → (Nat → Int32) → Int32 → Option ((Nat → Int32) × (Nat → Int32) × (Nat → Int32) × Int32)) (v1_L2 : Int32) (c_yes_L2 : Nat → Int32) (c_yesRound_L2 : Nat → Int32) (c_yesRule_L2 : Nat → Int32) (c_isMore_L2 : Int32) : Option ((Nat → Int32) × (Nat → Int32) × (Nat → Int32) × Int32) :=
  if (18 : Int32) ≤ v1_L2 then (some (c_yes_L2, c_yesRound_L2, c_yesRule_L2, c_isMore_L2)) else (lo3 (f_X6_byLastOwner_L16 c_z c_noThen c_rounds rec2 v1_L2 c_yes_L2 c_yesRound_L2 c_yesRule_L2 c_isMore_L2) FU (0 : Int32) (-6 : Int32) (0 : Int32))
noncomputable def f_X6_byLastOwner (c_z : Nat → Int32) (c_yes : Nat → Int32) (c_noThen : Nat → Int32) (c_yesRound : Nat → Int32) (c_yesRule : Nat → Int32) (c_rounds : Int32) (c_isMore : Int32) : Option ((Nat → Int32) × (Nat → Int32) × (Nat → Int32) × Int32) :=
  lo5 (f_X6_byLastOwner_L2 c_z c_noThen c_rounds) FU (0 : Int32) c_yes c_yesRound c_yesRule c_isMore
set_option maxHeartbeats 4000000 in
set_option maxRecDepth 100000 in
theorem c_X6_byLastOwner (l : Launch) (dC : Nat → ClassId) (dI : Nat → Nat → Nat) (ck : Nat → ClassId) (a0 a0_z a0_past a0_slots a0_isSaved a0_pad a0_yes a0_no a0_yesThen a0_noThen a0_yesRound a0_yesRule a0_noRound a0_noRule a0_orders : Nat) (c_z : Nat → Int32) (c_past : Nat → Int32) (c_slots : Nat → Int32) (c_isSaved : Nat → Int32) (c_pastMany : Int32) (c_pad : Nat → Int32) (c_typed : Int32) (c_yes : Nat → Int32) (c_no : Nat → Int32) (c_yesThen : Nat → Int32) (c_noThen : Nat → Int32) (c_yesRound : Nat → Int32) (c_yesRule : Nat → Int32) (c_noRound : Nat → Int32) (c_noRule : Nat → Int32) (c_rounds : Int32) (c_isMore : Int32) (c_orders : Nat → Int32) (c_orderMany : Int32) (c_spot : Int32) (c_bad : Int32) (o0 : Nat → Int32) (o1 : Nat → Int32) (o2 : Nat → Int32) (o3 : Int32) (h : f_X6_byLastOwner c_z c_yes c_noThen c_yesRound c_yesRule c_rounds c_isMore = some (o0, o1, o2, o3)) : MV l yX6_byLastOwner wsX6_byLastOwner ({ frames := 2, cells := 0, slots := 0, locals := 42 }) [.ref a0] (dC, dI) ck (wX6 ck a0 a0_z a0_past a0_slots a0_isSaved a0_pad a0_yes a0_no a0_yesThen a0_noThen a0_yesRound a0_yesRule a0_noRound a0_noRule a0_orders c_z c_past c_slots c_isSaved c_pastMany c_pad c_typed c_yes c_no c_yesThen c_noThen c_yesRound c_yesRule c_noRound c_noRule c_rounds c_isMore c_orders c_orderMany c_spot c_bad) (wX6 ck a0 a0_z a0_past a0_slots a0_isSaved a0_pad a0_yes a0_no a0_yesThen a0_noThen a0_yesRound a0_yesRule a0_noRound a0_noRule a0_orders c_z c_past c_slots c_isSaved c_pastMany c_pad c_typed o0 c_no c_yesThen c_noThen o1 o2 c_noRound c_noRule c_rounds o3 c_orders c_orderMany c_spot c_bad) := by
  refine MV.ofW (cc := cX6_byLastOwner) (maxL := 5) (ret := none) (by decide +kernel) rfl (Nat.le_of_ble_eq_true rfl) ?_
  intro p e s m below meth c hx hb hr hml hts hown hlk hK hP A hA hD ls hl
  have hS : va_S A s.heap s.heap [] := va_S.rf
  have hown : s.vm.findClass RX6 = some m.cls := hown
  have hl : lv_has ls 5 [(0, .ref a0)] := hl
  have iu_X6 : ∀ w ∈ u_ws RX6 TX6 21, w ∈ wsX6_byLastOwner := fun w h => List.mem_cons_of_mem _ (List.mem_append_right _ h)
  unfold f_X6_byLastOwner at h
  refine lv_iconst (v := (0 : Int32)) hx hb dX6_byLastOwner_0 rfl ?_
  refine lv_istore_n (lv' := [(1, .int (0 : Int32)), (0, .ref a0)]) hx hb dX6_byLastOwner_1 rfl hl (by decide) rfl (fun ls hl => ?_)
  have hL2 : ∀ (n2 : Nat) (v1_L2 : Int32) (c_yes_L2 : Nat → Int32) (c_yesRound_L2 : Nat → Int32) (c_yesRule_L2 : Nat → Int32) (c_isMore_L2 : Int32), lo5 (f_X6_byLastOwner_L2 c_z c_noThen c_rounds) n2 v1_L2 c_yes_L2 c_yesRound_L2 c_yesRule_L2 c_isMore_L2 = some (o0, o1, o2, o3) → ∀ (H : Heap) (locs : List Loc), va_P (dC, dI) vwCl (wX6 ck a0 a0_z a0_past a0_slots a0_isSaved a0_pad a0_yes a0_no a0_yesThen a0_noThen a0_yesRound a0_yesRule a0_noRound a0_noRule a0_orders c_z c_past c_slots c_isSaved c_pastMany c_pad c_typed c_yes_L2 c_no c_yesThen c_noThen c_yesRound_L2 c_yesRule_L2 c_noRound c_noRule c_rounds c_isMore_L2 c_orders c_orderMany c_spot c_bad) H → va_D A (wX6 ck a0 a0_z a0_past a0_slots a0_isSaved a0_pad a0_yes a0_no a0_yesThen a0_noThen a0_yesRound a0_yesRule a0_noRound a0_noRule a0_orders c_z c_past c_slots c_isSaved c_pastMany c_pad c_typed c_yes_L2 c_no c_yesThen c_noThen c_yesRound_L2 c_yesRule_L2 c_noRound c_noRule c_rounds c_isMore_L2 c_orders c_orderMany c_spot c_bad) → va_S A s.heap H locs → ∀ ls : Array Slot, lv_has ls 5 [(1, .int v1_L2), (0, .ref a0)] → W p l e (headSpec wsX6_byLastOwner ({ frames := 2, cells := 0, slots := 0, locals := 42 })).room s m [.ref a0].toArray below meth c H locs 0 0 (MQ below (QV (dC, dI) (wX6 ck a0 a0_z a0_past a0_slots a0_isSaved a0_pad a0_yes a0_no a0_yesThen a0_noThen a0_yesRound a0_yesRule a0_noRound a0_noRule a0_orders c_z c_past c_slots c_isSaved c_pastMany c_pad c_typed o0 c_no c_yesThen c_noThen o1 o2 c_noRound c_noRule c_rounds o3 c_orders c_orderMany c_spot c_bad) A) [.ref a0].toArray s 0 0 A) (F0 m 2 ls []) := by
    intro n2
    induction n2 with
    | zero => intro v1_L2 c_yes_L2 c_yesRound_L2 c_yesRule_L2 c_isMore_L2 h; exact lo5_z h
    | succ n2 ih2 =>
      intro v1_L2 c_yes_L2 c_yesRound_L2 c_yesRule_L2 c_isMore_L2 h H locs hP hD hS ls hl
      have h := lo5_s h
      unfold f_X6_byLastOwner_L2 at h
      refine lv_iload_n hx hb dX6_byLastOwner_2 rfl (lv_at hl 0 rfl) ?_
      refine lv_bipush (v := (18 : Int32)) hx hb dX6_byLastOwner_3 rfl ?_
      refine lv_icmp_ge (tgt := 78) hx hb dX6_byLastOwner_5 (by decide) (fun c_5 => ?_) (fun c_5 => ?_)
      · have h := if_t h c_5
        cases h
        exact eMv hx hb hr hlk hP hD hS dX6_byLastOwner_78
      · have h := if_f h c_5
        refine lv_iconst (v := (0 : Int32)) hx hb dX6_byLastOwner_8 rfl ?_
        refine lv_istore_n (lv' := [(2, .int (0 : Int32)), (1, .int v1_L2), (0, .ref a0)]) hx hb dX6_byLastOwner_9 rfl hl (by decide) rfl (fun ls hl => ?_)
        refine lv_bipush (v := (-6 : Int32)) hx hb dX6_byLastOwner_10 rfl ?_
        refine lv_istore_n (lv' := [(3, .int (-6 : Int32)), (2, .int (0 : Int32)), (1, .int v1_L2), (0, .ref a0)]) hx hb dX6_byLastOwner_12 rfl hl (by decide) rfl (fun ls hl => ?_)
        refine lv_iconst (v := (0 : Int32)) hx hb dX6_byLastOwner_13 rfl ?_
        refine lv_istore (lv' := [(4, .int (0 : Int32)), (3, .int (-6 : Int32)), (2, .int (0 : Int32)), (1, .int v1_L2), (0, .ref a0)]) hx hb dX6_byLastOwner_14 hl (by decide) rfl (fun ls hl => ?_)
        have hL16 : ∀ (n16 : Nat) (v2_L16 : Int32) (v3_L16 : Int32) (v4_L16 : Int32), lo3 (f_X6_byLastOwner_L16 c_z c_noThen c_rounds (lo5 (f_X6_byLastOwner_L2 c_z c_noThen c_rounds) n2) v1_L2 c_yes_L2 c_yesRound_L2 c_yesRule_L2 c_isMore_L2) n16 v2_L16 v3_L16 v4_L16 = some (o0, o1, o2, o3) → ∀ (H : Heap) (locs : List Loc), va_P (dC, dI) vwCl (wX6 ck a0 a0_z a0_past a0_slots a0_isSaved a0_pad a0_yes a0_no a0_yesThen a0_noThen a0_yesRound a0_yesRule a0_noRound a0_noRule a0_orders c_z c_past c_slots c_isSaved c_pastMany c_pad c_typed c_yes_L2 c_no c_yesThen c_noThen c_yesRound_L2 c_yesRule_L2 c_noRound c_noRule c_rounds c_isMore_L2 c_orders c_orderMany c_spot c_bad) H → va_D A (wX6 ck a0 a0_z a0_past a0_slots a0_isSaved a0_pad a0_yes a0_no a0_yesThen a0_noThen a0_yesRound a0_yesRule a0_noRound a0_noRule a0_orders c_z c_past c_slots c_isSaved c_pastMany c_pad c_typed c_yes_L2 c_no c_yesThen c_noThen c_yesRound_L2 c_yesRule_L2 c_noRound c_noRule c_rounds c_isMore_L2 c_orders c_orderMany c_spot c_bad) → va_S A s.heap H locs → ∀ ls : Array Slot, lv_has ls 5 [(4, .int v4_L16), (3, .int v3_L16), (2, .int v2_L16), (1, .int v1_L2), (0, .ref a0)] → W p l e (headSpec wsX6_byLastOwner ({ frames := 2, cells := 0, slots := 0, locals := 42 })).room s m [.ref a0].toArray below meth c H locs 0 0 (MQ below (QV (dC, dI) (wX6 ck a0 a0_z a0_past a0_slots a0_isSaved a0_pad a0_yes a0_no a0_yesThen a0_noThen a0_yesRound a0_yesRule a0_noRound a0_noRule a0_orders c_z c_past c_slots c_isSaved c_pastMany c_pad c_typed o0 c_no c_yesThen c_noThen o1 o2 c_noRound c_noRule c_rounds o3 c_orders c_orderMany c_spot c_bad) A) [.ref a0].toArray s 0 0 A) (F0 m 16 ls []) := by
          intro n16
          induction n16 with
          | zero => intro v2_L16 v3_L16 v4_L16 h; exact lo3_z h
          | succ n16 ih16 =>
            intro v2_L16 v3_L16 v4_L16 h H locs hP hD hS ls hl
            have h := lo3_s h
            unfold f_X6_byLastOwner_L16 at h
            refine lv_iload hx hb dX6_byLastOwner_16 (lv_at hl 0 rfl) ?_
            refine lv_bipush (v := (6 : Int32)) hx hb dX6_byLastOwner_18 rfl ?_
            refine lv_icmp_ge (tgt := 58) hx hb dX6_byLastOwner_20 (by decide) (fun c_20 => ?_) (fun c_20 => ?_)
            · have h := if_t h c_20
              refine lv_iload_n hx hb dX6_byLastOwner_58 rfl (lv_at hl 2 rfl) ?_
              refine lv_iconst (v := (1 : Int32)) hx hb dX6_byLastOwner_59 rfl ?_
              refine lv_icmp_ne (tgt := 72) hx hb dX6_byLastOwner_60 (by decide) (fun c_60 => ?_) (fun c_60 => ?_)
              · have h := if_f h c_60
                refine lv_iinc (v := (v1_L2 + (1 : Int32))) (lv' := [(1, .int (v1_L2 + (1 : Int32))), (4, .int v4_L16), (3, .int v3_L16), (2, .int v2_L16), (0, .ref a0)]) hx hb dX6_byLastOwner_72 hl (k := 3) rfl rfl (by decide) rfl (fun ls hl => ?_)
                refine lv_goto (tgt := 2) hx hb dX6_byLastOwner_75 (by decide) ?_
                exact ih2 _ _ _ _ _ h _ _ hP hD hS _ (lv_sub hl [0, 4] rfl)
              · have h := if_t h c_60
                refine lv_aload_n hx hb dX6_byLastOwner_63 rfl (lv_at hl 4 rfl) ?_
                refine lv_iload_n hx hb dX6_byLastOwner_64 rfl (lv_at hl 1 rfl) ?_
                refine lv_iconst (v := (1 : Int32)) hx hb dX6_byLastOwner_65 rfl ?_
                refine lv_iload_n hx hb dX6_byLastOwner_66 rfl (lv_at hl 3 rfl) ?_
                refine lv_ishl hx hb dX6_byLastOwner_67 ?_
                refine lv_iconst (v := (3 : Int32)) hx hb dX6_byLastOwner_68 rfl ?_
                obtain ⟨c_yes_69, c_yesRound_69, c_yesRule_69, c_isMore_69, q_69, h⟩ := ob4_e h
                refine cMV (wc := wX6 ck a0 a0_z a0_past a0_slots a0_isSaved a0_pad a0_yes a0_no a0_yesThen a0_noThen a0_yesRound a0_yesRule a0_noRound a0_noRule a0_orders c_z c_past c_slots c_isSaved c_pastMany c_pad c_typed c_yes_L2 c_no c_yesThen c_noThen c_yesRound_L2 c_yesRule_L2 c_noRound c_noRule c_rounds c_isMore_L2 c_orders c_orderMany c_spot c_bad) (wr := []) (w1 := wX6 ck a0 a0_z a0_past a0_slots a0_isSaved a0_pad a0_yes a0_no a0_yesThen a0_noThen a0_yesRound a0_yesRule a0_noRound a0_noRule a0_orders c_z c_past c_slots c_isSaved c_pastMany c_pad c_typed c_yes_69 c_no c_yesThen c_noThen c_yesRound_69 c_yesRule_69 c_noRound c_noRule c_rounds c_isMore_69 c_orders c_orderMany c_spot c_bad) (wn := wX6 ck a0 a0_z a0_past a0_slots a0_isSaved a0_pad a0_yes a0_no a0_yesThen a0_noThen a0_yesRound a0_yesRule a0_noRound a0_noRule a0_orders c_z c_past c_slots c_isSaved c_pastMany c_pad c_typed c_yes_69 c_no c_yesThen c_noThen c_yesRound_69 c_yesRule_69 c_noRound c_noRule c_rounds c_isMore_69 c_orders c_orderMany c_spot c_bad) ⟨hx, hb, hml, hown, hts⟩ hK hP hD hS hA [0, 1, 2, 3, 4, 5, 6, 7, 8, 9, 10, 11, 12, 13, 14] [] [0, 1, 2, 3, 4, 5, 6, 7, 8, 9, 10, 11, 12, 13, 14] rfl (by decide) rfl (by decide) (by decide) rfl (by decide) (c_X6_giveYes l dC dI ck a0 a0_z a0_past a0_slots a0_isSaved a0_pad a0_yes a0_no a0_yesThen a0_noThen a0_yesRound a0_yesRule a0_noRound a0_noRule a0_orders c_z c_past c_slots c_isSaved c_pastMany c_pad c_typed c_yes_L2 c_no c_yesThen c_noThen c_yesRound_L2 c_yesRule_L2 c_noRound c_noRule c_rounds c_isMore_L2 c_orders c_orderMany c_spot c_bad v3_L16 ((1 : Int32) <<< (v1_L2 &&& 31)) (3 : Int32) c_yes_69 c_yesRound_69 c_yesRule_69 c_isMore_69 q_69) (cwV 3 hts gX6_byLastOwner_X6_giveYes rfl rfl rfl (by decide +kernel) ⟨Nat.le_of_ble_eq_true rfl, Nat.le_of_ble_eq_true rfl⟩) 0 rfl rfl rfl hl.1 rfl (Nat.le_of_ble_eq_true rfl) dX6_byLastOwner_69 ⟨Nat.zero_le _, Nat.zero_le _⟩ (fun H locs hP hD hS => ?_)
                refine lv_iinc (v := (v1_L2 + (1 : Int32))) (lv' := [(1, .int (v1_L2 + (1 : Int32))), (4, .int v4_L16), (3, .int v3_L16), (2, .int v2_L16), (0, .ref a0)]) hx hb dX6_byLastOwner_72 hl (k := 3) rfl rfl (by decide) rfl (fun ls hl => ?_)
                refine lv_goto (tgt := 2) hx hb dX6_byLastOwner_75 (by decide) ?_
                exact ih2 _ _ _ _ _ h _ _ hP hD hS _ (lv_sub hl [0, 4] rfl)
            · have h := if_f h c_20
              refine lv_aload_n hx hb dX6_byLastOwner_23 rfl (lv_at hl 4 rfl) ?_
              refine lv_iload hx hb dX6_byLastOwner_24 (lv_at hl 0 rfl) ?_
              obtain ⟨r_26, q_26, h⟩ := ob1_e h
              refine cRV (wc := wX6 ck a0 a0_z a0_past a0_slots a0_isSaved a0_pad a0_yes a0_no a0_yesThen a0_noThen a0_yesRound a0_yesRule a0_noRound a0_noRule a0_orders c_z c_past c_slots c_isSaved c_pastMany c_pad c_typed c_yes_L2 c_no c_yesThen c_noThen c_yesRound_L2 c_yesRule_L2 c_noRound c_noRule c_rounds c_isMore_L2 c_orders c_orderMany c_spot c_bad) ⟨hx, hb, hml, hown, hts⟩ hK hP [0, 1, 2, 3, 4, 5, 6, 7, 8, 9, 10, 11, 12, 13, 14] rfl (c_X6_isOwner l dC dI ck a0 a0_z a0_past a0_slots a0_isSaved a0_pad a0_yes a0_no a0_yesThen a0_noThen a0_yesRound a0_yesRule a0_noRound a0_noRule a0_orders c_z c_past c_slots c_isSaved c_pastMany c_pad c_typed c_yes_L2 c_no c_yesThen c_noThen c_yesRound_L2 c_yesRule_L2 c_noRound c_noRule c_rounds c_isMore_L2 c_orders c_orderMany c_spot c_bad v4_L16 r_26 q_26) (cwV 1 hts gX6_byLastOwner_X6_isOwner rfl rfl rfl (by decide +kernel) ⟨Nat.le_of_ble_eq_true rfl, Nat.le_of_ble_eq_true rfl⟩) 0 rfl rfl rfl hl.1 rfl (Nat.le_of_ble_eq_true rfl) dX6_byLastOwner_26 ⟨Nat.zero_le _, Nat.zero_le _⟩ ?_
              refine lv_if_eq (tgt := 52) hx hb dX6_byLastOwner_29 (by decide) (fun c_29 => ?_) (fun c_29 => ?_)
              · have h := if_t h c_29
                refine lv_iinc (v := (v4_L16 + (1 : Int32))) (lv' := [(4, .int (v4_L16 + (1 : Int32))), (3, .int v3_L16), (2, .int v2_L16), (1, .int v1_L2), (0, .ref a0)]) hx hb dX6_byLastOwner_52 hl (k := 0) rfl rfl (by decide) rfl (fun ls hl => ?_)
                refine lv_goto (tgt := 16) hx hb dX6_byLastOwner_55 (by decide) ?_
                exact ih16 _ _ _ h _ _ hP hD hS _ (lv_sub hl [0, 1, 2, 3, 4] rfl)
              · have h := if_f h c_29
                refine lv_aload_n hx hb dX6_byLastOwner_32 rfl (lv_at hl 4 rfl) ?_
                refine va_get (ci := 6) (v := .ref a0_noThen) (C := RX6) (T := TX6) (N := 21) hx hb hts iu_X6 hown hK.1 hP 0 rfl rfl 10 (by decide) (hts (.fieldLink RX6 36 "SheetMarksModel" "noThen" "[I") (List.mem_of_getElem? (i := 1) rfl)) (fun _ h9 => h9) rfl dX6_byLastOwner_33 ?_
                refine lv_iload hx hb dX6_byLastOwner_36 (lv_at hl 0 rfl) ?_
                obtain ⟨g_38, h⟩ := gd_e h
                refine va_iald hx hb hK.1 hP 9 0 rfl rfl g_38 dX6_byLastOwner_38 ?_
                refine lv_iload_n hx hb dX6_byLastOwner_39 rfl (lv_at hl 3 rfl) ?_
                refine lv_ishr hx hb dX6_byLastOwner_40 ?_
                refine lv_iconst (v := (1 : Int32)) hx hb dX6_byLastOwner_41 rfl ?_
                refine lv_iand hx hb dX6_byLastOwner_42 ?_
                refine lv_if_ne (tgt := 52) hx hb dX6_byLastOwner_43 (by decide) (fun c_43 => ?_) (fun c_43 => ?_)
                · have h := if_f h c_43
                  refine lv_iinc (v := (v4_L16 + (1 : Int32))) (lv' := [(4, .int (v4_L16 + (1 : Int32))), (3, .int v3_L16), (2, .int v2_L16), (1, .int v1_L2), (0, .ref a0)]) hx hb dX6_byLastOwner_52 hl (k := 0) rfl rfl (by decide) rfl (fun ls hl => ?_)
                  refine lv_goto (tgt := 16) hx hb dX6_byLastOwner_55 (by decide) ?_
                  exact ih16 _ _ _ h _ _ hP hD hS _ (lv_sub hl [0, 1, 2, 3, 4] rfl)
                · have h := if_t h c_43
                  obtain ⟨v2_46, e_46⟩ : ∃ y : Int32, y = (v2_L16 + (1 : Int32)) := ⟨_, rfl⟩
                  have h := lt'_e e_46 h
                  refine lv_iinc (v := v2_46) (lv' := [(2, .int v2_46), (4, .int v4_L16), (3, .int v3_L16), (1, .int v1_L2), (0, .ref a0)]) hx hb dX6_byLastOwner_46 hl (k := 2) rfl (by rw [e_46]; rfl) (by decide) rfl (fun ls hl => ?_)
                  refine lv_iload hx hb dX6_byLastOwner_49 (lv_at hl 1 rfl) ?_
                  refine lv_istore_n (lv' := [(3, .int v4_L16), (2, .int v2_46), (4, .int v4_L16), (1, .int v1_L2), (0, .ref a0)]) hx hb dX6_byLastOwner_51 rfl hl (by decide) rfl (fun ls hl => ?_)
                  refine lv_iinc (v := (v4_L16 + (1 : Int32))) (lv' := [(4, .int (v4_L16 + (1 : Int32))), (3, .int v4_L16), (2, .int v2_46), (1, .int v1_L2), (0, .ref a0)]) hx hb dX6_byLastOwner_52 hl (k := 2) rfl rfl (by decide) rfl (fun ls hl => ?_)
                  refine lv_goto (tgt := 16) hx hb dX6_byLastOwner_55 (by decide) ?_
                  exact ih16 _ _ _ h _ _ hP hD hS _ (lv_sub hl [0, 1, 2, 3, 4] rfl)
        exact hL16 _ _ _ _ h _ _ hP hD hS _ (lv_sub hl [0, 1, 2, 3, 4] rfl)
  exact hL2 _ _ _ _ _ _ h _ _ hP hD hS _ (lv_sub hl [0, 1] rfl)
