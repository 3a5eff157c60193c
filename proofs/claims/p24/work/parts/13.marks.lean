noncomputable def f_X2_followWhatWasSeen_L2 (c_y_sets : Nat → Int32) (c_y_round : Int32) (c_n_sets : Nat → Int32) (c_n_round : Int32) (p1_told : Int32) (p1_kinds : Nat → Int32) (p1_owners : Nat → Int32) (p1_cards : Nat → Int32) (rec2 : Int32 → (Nat → Int32) → (Nat → Int32) → (Nat → Int32) → (Nat → Int32) → Option ((Nat → Int32) × (Nat → Int32) × (Nat → Int32) × (Nat → Int32))) (v2_L2 : Int32) (c_y_coming_L2 : Nat → Int32) (c_y_origins_L2 : Nat → Int32) (c_n_coming_L2 : Nat → Int32) (c_n_origins_L2 : Nat → Int32) : Option ((Nat → Int32) × (Nat → Int32) × (Nat → Int32) × (Nat → Int32)) :=
  if p1_told ≤ v2_L2 then (some (c_y_coming_L2, c_y_origins_L2, c_n_coming_L2, c_n_origins_L2)) else (gd v2_L2 41 (if (p1_kinds v2_L2.toNatClampNeg) = (0 : Int32) then (gd v2_L2 41 (gd v2_L2 41 (ob2 (f_X4_add c_y_sets c_y_coming_L2 c_y_origins_L2 c_y_round (p1_owners v2_L2.toNatClampNeg) (p1_cards v2_L2.toNatClampNeg) (1 : Int32)) (fun (c_y_coming_36 : Nat → Int32) (c_y_origins_36 : Nat → Int32) => rec2 (v2_L2 + (1 : Int32)) c_y_coming_36 c_y_origins_36 c_n_coming_L2 c_n_origins_L2)))) else (gd v2_L2 41 (if (p1_kinds v2_L2.toNatClampNeg) = (1 : Int32) then (gd v2_L2 41 (gd v2_L2 41 (ob2 (f_X4_add c_n_sets c_n_coming_L2 c_n_origins_L2 c_n_round (p1_owners v2_L2.toNatClampNeg) (p1_cards v2_L2.toNatClampNeg) (1 : Int32)) (fun (c_n_coming_69 : Nat → Int32) (c_n_origins_69 : Nat → Int32) => rec2 (v2_L2 + (1 : Int32)) c_y_coming_L2 c_y_origins_L2 c_n_coming_69 c_n_origins_69)))) else (rec2 (v2_L2 + (1 : Int32)) c_y_coming_L2 c_y_origins_L2 c_n_coming_L2 c_n_origins_L2)))))
noncomputable def f_X2_followWhatWasSeen (c_y_sets : Nat → Int32) (c_y_coming : Nat → Int32) (c_y_origins : Nat → Int32) (c_y_round : Int32) (c_n_sets : Nat → Int32) (c_n_coming : Nat → Int32) (c_n_origins : Nat → Int32) (c_n_round : Int32) (p1_told : Int32) (p1_kinds : Nat → Int32) (p1_owners : Nat → Int32) (p1_cards : Nat → Int32) : Option ((Nat → Int32) × (Nat → Int32) × (Nat → Int32) × (Nat → Int32)) :=
  lo5 (f_X2_followWhatWasSeen_L2 c_y_sets c_y_round c_n_sets c_n_round p1_told p1_kinds p1_owners p1_cards) FU (0 : Int32) c_y_coming c_y_origins c_n_coming c_n_origins
set_option maxHeartbeats 4000000 in
set_option maxRecDepth 100000 in
theorem c_X2_followWhatWasSeen (l : Launch) (dC : Nat → ClassId) (dI : Nat → Nat → Nat) (ck : Nat → ClassId) (a0 a0_y a0_y_sets a0_y_coming a0_y_origins a0_n a0_n_sets a0_n_coming a0_n_origins b1 b1_kinds b1_owners b1_cards : Nat) (c_y_sets : Nat → Int32) (c_y_coming : Nat → Int32) (c_y_origins : Nat → Int32) (c_y_round : Int32) (c_n_sets : Nat → Int32) (c_n_coming : Nat → Int32) (c_n_origins : Nat → Int32) (c_n_round : Int32) (c_rounds : Int32) (p1_players : Int32) (p1_told : Int32) (p1_kinds : Nat → Int32) (p1_owners : Nat → Int32) (p1_cards : Nat → Int32) (o0 : Nat → Int32) (o1 : Nat → Int32) (o2 : Nat → Int32) (o3 : Nat → Int32) (h : f_X2_followWhatWasSeen c_y_sets c_y_coming c_y_origins c_y_round c_n_sets c_n_coming c_n_origins c_n_round p1_told p1_kinds p1_owners p1_cards = some (o0, o1, o2, o3)) : MV l yX2_followWhatWasSeen wsX2_followWhatWasSeen ({ frames := 2, cells := 0, slots := 0, locals := 46 }) [.ref a0, .ref b1] (dC, dI) ck (wX2 ck a0 a0_y a0_y_sets a0_y_coming a0_y_origins a0_n a0_n_sets a0_n_coming a0_n_origins c_y_sets c_y_coming c_y_origins c_y_round c_n_sets c_n_coming c_n_origins c_n_round c_rounds ++ wX0 ck b1 b1_kinds b1_owners b1_cards p1_players p1_told p1_kinds p1_owners p1_cards) (wX2 ck a0 a0_y a0_y_sets a0_y_coming a0_y_origins a0_n a0_n_sets a0_n_coming a0_n_origins c_y_sets o0 o1 c_y_round c_n_sets o2 o3 c_n_round c_rounds ++ wX0 ck b1 b1_kinds b1_owners b1_cards p1_players p1_told p1_kinds p1_owners p1_cards) := by
  refine MV.ofW (cc := cX2_followWhatWasSeen) (maxL := 3) (ret := none) (by decide +kernel) rfl (Nat.le_of_ble_eq_true rfl) ?_
  intro p e s m below meth c hx hb hr hml hts hown hlk hK hP A hA hD ls hl
  have hS : va_S A s.heap s.heap [] := va_S.rf
  have hown : s.vm.findClass RX2 = some m.cls := hown
  have hl : lv_has ls 3 [(0, .ref a0), (1, .ref b1)] := hl
  have iu_X0 : ∀ w ∈ u_ws RX0 TX0 5, w ∈ wsX2_followWhatWasSeen := fun w h => List.mem_cons_of_mem _ (List.mem_append_left _ (List.mem_append_left _ (List.mem_append_right _ h)))
  have iu_X2 : ∀ w ∈ u_ws RX2 TX2 3, w ∈ wsX2_followWhatWasSeen := fun w h => List.mem_cons_of_mem _ (List.mem_append_left _ (List.mem_append_right _ h))
  unfold f_X2_followWhatWasSeen at h
  refine lv_iconst (v := (0 : Int32)) hx hb dX2_followWhatWasSeen_0 rfl ?_
  refine lv_istore_n (lv' := [(2, .int (0 : Int32)), (0, .ref a0), (1, .ref b1)]) hx hb dX2_followWhatWasSeen_1 rfl hl (by decide) rfl (fun ls hl => ?_)
  have hL2 : ∀ (n2 : Nat) (v2_L2 : Int32) (c_y_coming_L2 : Nat → Int32) (c_y_origins_L2 : Nat → Int32) (c_n_coming_L2 : Nat → Int32) (c_n_origins_L2 : Nat → Int32), lo5 (f_X2_followWhatWasSeen_L2 c_y_sets c_y_round c_n_sets c_n_round p1_told p1_kinds p1_owners p1_cards) n2 v2_L2 c_y_coming_L2 c_y_origins_L2 c_n_coming_L2 c_n_origins_L2 = some (o0, o1, o2, o3) → ∀ (H : Heap) (locs : List Loc), va_P (dC, dI) vwCl (wX2 ck a0 a0_y a0_y_sets a0_y_coming a0_y_origins a0_n a0_n_sets a0_n_coming a0_n_origins c_y_sets c_y_coming_L2 c_y_origins_L2 c_y_round c_n_sets c_n_coming_L2 c_n_origins_L2 c_n_round c_rounds ++ wX0 ck b1 b1_kinds b1_owners b1_cards p1_players p1_told p1_kinds p1_owners p1_cards) H → va_D A (wX2 ck a0 a0_y a0_y_sets a0_y_coming a0_y_origins a0_n a0_n_sets a0_n_coming a0_n_origins c_y_sets c_y_coming_L2 c_y_origins_L2 c_y_round c_n_sets c_n_coming_L2 c_n_origins_L2 c_n_round c_rounds ++ wX0 ck b1 b1_kinds b1_owners b1_cards p1_players p1_told p1_kinds p1_owners p1_cards) → va_S A s.heap H locs → ∀ ls : Array Slot, lv_has ls 3 [(2, .int v2_L2), (0, .ref a0), (1, .ref b1)] → W p l e (headSpec wsX2_followWhatWasSeen ({ frames := 2, cells := 0, slots := 0, locals := 46 })).room s m [.ref a0, .ref b1].toArray below meth c H locs 0 0 (MQ below (QV (dC, dI) (wX2 ck a0 a0_y a0_y_sets a0_y_coming a0_y_origins a0_n a0_n_sets a0_n_coming a0_n_origins c_y_sets o0 o1 c_y_round c_n_sets o2 o3 c_n_round c_rounds ++ wX0 ck b1 b1_kinds b1_owners b1_cards p1_players p1_told p1_kinds p1_owners p1_cards) A) [.ref a0, .ref b1].toArray s 0 0 A) (F0 m 2 ls []) := by
    intro n2
    induction n2 with
    | zero => intro v2_L2 c_y_coming_L2 c_y_origins_L2 c_n_coming_L2 c_n_origins_L2 h; exact lo5_z h
    | succ n2 ih2 =>
      intro v2_L2 c_y_coming_L2 c_y_origins_L2 c_n_coming_L2 c_n_origins_L2 h H locs hP hD hS ls hl
      have h := lo5_s h
      unfold f_X2_followWhatWasSeen_L2 at h
      refine lv_iload_n hx hb dX2_followWhatWasSeen_2 rfl (lv_at hl 0 rfl) ?_
      refine lv_aload_n hx hb dX2_followWhatWasSeen_3 rfl (lv_at hl 2 rfl) ?_
      refine va_getN (ci := 0) (v := .int p1_told) (C := RX0) (T := TX0) (N := 5) hx hb hts iu_X0 hown hK.1 hP 9 rfl rfl 1 (by decide) (va_Nw.use rfl (hK.2.f 2 rfl)) (fun _ h9 => h9) rfl dX2_followWhatWasSeen_4 ?_
      refine lv_icmp_ge (tgt := 78) hx hb dX2_followWhatWasSeen_7 (by decide) (fun c_7 => ?_) (fun c_7 => ?_)
      · have h := if_t h c_7
        cases h
        exact eMv hx hb hr hlk hP hD hS dX2_followWhatWasSeen_78
      · have h := if_f h c_7
        refine lv_aload_n hx hb dX2_followWhatWasSeen_10 rfl (lv_at hl 2 rfl) ?_
        refine va_getN (ci := 0) (v := .ref b1_kinds) (C := RX0) (T := TX0) (N := 5) hx hb hts iu_X0 hown hK.1 hP 9 rfl rfl 2 (by decide) (va_Nw.use rfl (hK.2.f 3 rfl)) (fun _ h9 => h9) rfl dX2_followWhatWasSeen_11 ?_
        refine lv_iload_n hx hb dX2_followWhatWasSeen_14 rfl (lv_at hl 0 rfl) ?_
        obtain ⟨g_15, h⟩ := gd_e h
        refine va_iald hx hb hK.1 hP 10 0 rfl rfl g_15 dX2_followWhatWasSeen_15 ?_
        refine lv_if_ne (tgt := 42) hx hb dX2_followWhatWasSeen_16 (by decide) (fun c_16 => ?_) (fun c_16 => ?_)
        · have h := if_f h c_16
          refine lv_aload_n hx hb dX2_followWhatWasSeen_42 rfl (lv_at hl 2 rfl) ?_
          refine va_getN (ci := 0) (v := .ref b1_kinds) (C := RX0) (T := TX0) (N := 5) hx hb hts iu_X0 hown hK.1 hP 9 rfl rfl 2 (by decide) (va_Nw.use rfl (hK.2.f 3 rfl)) (fun _ h9 => h9) rfl dX2_followWhatWasSeen_43 ?_
          refine lv_iload_n hx hb dX2_followWhatWasSeen_46 rfl (lv_at hl 0 rfl) ?_
          obtain ⟨g_47, h⟩ := gd_e h
          refine va_iald hx hb hK.1 hP 10 0 rfl rfl g_47 dX2_followWhatWasSeen_47 ?_
          refine lv_iconst (v := (1 : Int32)) hx hb dX2_followWhatWasSeen_48 rfl ?_
          refine lv_icmp_ne (tgt := 72) hx hb dX2_followWhatWasSeen_49 (by decide) (fun c_49 => ?_) (fun c_49 => ?_)
          · have h := if_f h c_49
            refine lv_iinc (v := (v2_L2 + (1 : Int32))) (lv' := [(2, .int (v2_L2 + (1 : Int32))), (0, .ref a0), (1, .ref b1)]) hx hb dX2_followWhatWasSeen_72 hl (k := 0) rfl rfl (by decide) rfl (fun ls hl => ?_)
            refine lv_goto (tgt := 2) hx hb dX2_followWhatWasSeen_75 (by decide) ?_
            exact ih2 _ _ _ _ _ h _ _ hP hD hS _ (lv_sub hl [0, 1, 2] rfl)
          · have h := if_t h c_49
            refine lv_aload_n hx hb dX2_followWhatWasSeen_52 rfl (lv_at hl 1 rfl) ?_
            refine va_get (ci := 2) (v := .ref a0_n) (C := RX2) (T := TX2) (N := 3) hx hb hts iu_X2 hown hK.1 hP 0 rfl rfl 1 (by decide) (hts (.fieldLink RX2 18 "SheetMarks$Marks" "no" "LSheetMarks$Ticks;") (List.mem_of_getElem? (i := 2) rfl)) (fun _ h9 => h9) rfl dX2_followWhatWasSeen_53 ?_
            refine lv_aload_n hx hb dX2_followWhatWasSeen_56 rfl (lv_at hl 2 rfl) ?_
            refine va_getN (ci := 0) (v := .ref b1_owners) (C := RX0) (T := TX0) (N := 5) hx hb hts iu_X0 hown hK.1 hP 9 rfl rfl 3 (by decide) (va_Nw.use rfl (hK.2.f 5 rfl)) (fun _ h9 => h9) rfl dX2_followWhatWasSeen_57 ?_
            refine lv_iload_n hx hb dX2_followWhatWasSeen_60 rfl (lv_at hl 0 rfl) ?_
            obtain ⟨g_61, h⟩ := gd_e h
            refine va_iald hx hb hK.1 hP 11 0 rfl rfl g_61 dX2_followWhatWasSeen_61 ?_
            refine lv_aload_n hx hb dX2_followWhatWasSeen_62 rfl (lv_at hl 2 rfl) ?_
            refine va_getN (ci := 0) (v := .ref b1_cards) (C := RX0) (T := TX0) (N := 5) hx hb hts iu_X0 hown hK.1 hP 9 rfl rfl 4 (by decide) (va_Nw.use rfl (hK.2.f 7 rfl)) (fun _ h9 => h9) rfl dX2_followWhatWasSeen_63 ?_
            refine lv_iload_n hx hb dX2_followWhatWasSeen_66 rfl (lv_at hl 0 rfl) ?_
            obtain ⟨g_67, h⟩ := gd_e h
            refine va_iald hx hb hK.1 hP 12 0 rfl rfl g_67 dX2_followWhatWasSeen_67 ?_
            refine lv_iconst (v := (1 : Int32)) hx hb dX2_followWhatWasSeen_68 rfl ?_
            obtain ⟨c_n_coming_69, c_n_origins_69, q_69, h⟩ := ob2_e h
            refine cMV (wc := wX4 ck a0_n a0_n_sets a0_n_coming a0_n_origins c_n_sets c_n_coming_L2 c_n_origins_L2 c_n_round) (wr := [(a0, .inr (2, [.ref a0_y, .ref a0_n, .int c_rounds]))] ++ wX4 ck a0_y a0_y_sets a0_y_coming a0_y_origins c_y_sets c_y_coming_L2 c_y_origins_L2 c_y_round ++ wX0 ck b1 b1_kinds b1_owners b1_cards p1_players p1_told p1_kinds p1_owners p1_cards) (w1 := wX4 ck a0_n a0_n_sets a0_n_coming a0_n_origins c_n_sets c_n_coming_69 c_n_origins_69 c_n_round) (wn := wX2 ck a0 a0_y a0_y_sets a0_y_coming a0_y_origins a0_n a0_n_sets a0_n_coming a0_n_origins c_y_sets c_y_coming_L2 c_y_origins_L2 c_y_round c_n_sets c_n_coming_69 c_n_origins_69 c_n_round c_rounds ++ wX0 ck b1 b1_kinds b1_owners b1_cards p1_players p1_told p1_kinds p1_owners p1_cards) ⟨hx, hb, hml, hown, hts⟩ hK hP hD hS hA [5, 6, 7, 8] [0, 1, 2, 3, 4, 9, 10, 11, 12] [0, 1, 2, 3, 4, 9, 10, 11, 12, 5, 6, 7, 8] rfl (by decide) rfl (by decide) (by decide) rfl (by decide) (c_X4_add l dC dI ck a0_n a0_n_sets a0_n_coming a0_n_origins c_n_sets c_n_coming_L2 c_n_origins_L2 c_n_round (p1_owners v2_L2.toNatClampNeg) (p1_cards v2_L2.toNatClampNeg) (1 : Int32) c_n_coming_69 c_n_origins_69 q_69) (cwV 3 hts gX2_followWhatWasSeen_X4_add rfl rfl rfl (by decide +kernel) ⟨Nat.le_of_ble_eq_true rfl, Nat.le_of_ble_eq_true rfl⟩) 5 rfl rfl rfl hl.1 rfl (Nat.le_of_ble_eq_true rfl) dX2_followWhatWasSeen_69 ⟨Nat.zero_le _, Nat.zero_le _⟩ (fun H locs hP hD hS => ?_)
            refine lv_iinc (v := (v2_L2 + (1 : Int32))) (lv' := [(2, .int (v2_L2 + (1 : Int32))), (0, .ref a0), (1, .ref b1)]) hx hb dX2_followWhatWasSeen_72 hl (k := 0) rfl rfl (by decide) rfl (fun ls hl => ?_)
            refine lv_goto (tgt := 2) hx hb dX2_followWhatWasSeen_75 (by decide) ?_
            exact ih2 _ _ _ _ _ h _ _ hP hD hS _ (lv_sub hl [0, 1, 2] rfl)
        · have h := if_t h c_16
          refine lv_aload_n hx hb dX2_followWhatWasSeen_19 rfl (lv_at hl 1 rfl) ?_
          refine va_get (ci := 2) (v := .ref a0_y) (C := RX2) (T := TX2) (N := 3) hx hb hts iu_X2 hown hK.1 hP 0 rfl rfl 0 (by decide) (hts (.fieldLink RX2 12 "SheetMarks$Marks" "yes" "LSheetMarks$Ticks;") (List.mem_of_getElem? (i := 1) rfl)) (fun _ h9 => h9) rfl dX2_followWhatWasSeen_20 ?_
          refine lv_aload_n hx hb dX2_followWhatWasSeen_23 rfl (lv_at hl 2 rfl) ?_
          refine va_getN (ci := 0) (v := .ref b1_owners) (C := RX0) (T := TX0) (N := 5) hx hb hts iu_X0 hown hK.1 hP 9 rfl rfl 3 (by decide) (va_Nw.use rfl (hK.2.f 5 rfl)) (fun _ h9 => h9) rfl dX2_followWhatWasSeen_24 ?_
          refine lv_iload_n hx hb dX2_followWhatWasSeen_27 rfl (lv_at hl 0 rfl) ?_
          obtain ⟨g_28, h⟩ := gd_e h
          refine va_iald hx hb hK.1 hP 11 0 rfl rfl g_28 dX2_followWhatWasSeen_28 ?_
          refine lv_aload_n hx hb dX2_followWhatWasSeen_29 rfl (lv_at hl 2 rfl) ?_
          refine va_getN (ci := 0) (v := .ref b1_cards) (C := RX0) (T := TX0) (N := 5) hx hb hts iu_X0 hown hK.1 hP 9 rfl rfl 4 (by decide) (va_Nw.use rfl (hK.2.f 7 rfl)) (fun _ h9 => h9) rfl dX2_followWhatWasSeen_30 ?_
          refine lv_iload_n hx hb dX2_followWhatWasSeen_33 rfl (lv_at hl 0 rfl) ?_
          obtain ⟨g_34, h⟩ := gd_e h
          refine va_iald hx hb hK.1 hP 12 0 rfl rfl g_34 dX2_followWhatWasSeen_34 ?_
          refine lv_iconst (v := (1 : Int32)) hx hb dX2_followWhatWasSeen_35 rfl ?_
          obtain ⟨c_y_coming_36, c_y_origins_36, q_36, h⟩ := ob2_e h
          refine cMV (wc := wX4 ck a0_y a0_y_sets a0_y_coming a0_y_origins c_y_sets c_y_coming_L2 c_y_origins_L2 c_y_round) (wr := [(a0, .inr (2, [.ref a0_y, .ref a0_n, .int c_rounds]))] ++ wX4 ck a0_n a0_n_sets a0_n_coming a0_n_origins c_n_sets c_n_coming_L2 c_n_origins_L2 c_n_round ++ wX0 ck b1 b1_kinds b1_owners b1_cards p1_players p1_told p1_kinds p1_owners p1_cards) (w1 := wX4 ck a0_y a0_y_sets a0_y_coming a0_y_origins c_y_sets c_y_coming_36 c_y_origins_36 c_y_round) (wn := wX2 ck a0 a0_y a0_y_sets a0_y_coming a0_y_origins a0_n a0_n_sets a0_n_coming a0_n_origins c_y_sets c_y_coming_36 c_y_origins_36 c_y_round c_n_sets c_n_coming_L2 c_n_origins_L2 c_n_round c_rounds ++ wX0 ck b1 b1_kinds b1_owners b1_cards p1_players p1_told p1_kinds p1_owners p1_cards) ⟨hx, hb, hml, hown, hts⟩ hK hP hD hS hA [1, 2, 3, 4] [0, 5, 6, 7, 8, 9, 10, 11, 12] [0, 9, 10, 11, 12, 1, 2, 3, 4, 5, 6, 7, 8] rfl (by decide) rfl (by decide) (by decide) rfl (by decide) (c_X4_add l dC dI ck a0_y a0_y_sets a0_y_coming a0_y_origins c_y_sets c_y_coming_L2 c_y_origins_L2 c_y_round (p1_owners v2_L2.toNatClampNeg) (p1_cards v2_L2.toNatClampNeg) (1 : Int32) c_y_coming_36 c_y_origins_36 q_36) (cwV 3 hts gX2_followWhatWasSeen_X4_add rfl rfl rfl (by decide +kernel) ⟨Nat.le_of_ble_eq_true rfl, Nat.le_of_ble_eq_true rfl⟩) 1 rfl rfl rfl hl.1 rfl (Nat.le_of_ble_eq_true rfl) dX2_followWhatWasSeen_36 ⟨Nat.zero_le _, Nat.zero_le _⟩ (fun H locs hP hD hS => ?_)
          refine lv_goto (tgt := 72) hx hb dX2_followWhatWasSeen_39 (by decide) ?_
          refine lv_iinc (v := (v2_L2 + (1 : Int32))) (lv' := [(2, .int (v2_L2 + (1 : Int32))), (0, .ref a0), (1, .ref b1)]) hx hb dX2_followWhatWasSeen_72 hl (k := 0) rfl rfl (by decide) rfl (fun ls hl => ?_)
          refine lv_goto (tgt := 2) hx hb dX2_followWhatWasSeen_75 (by decide) ?_
          exact ih2 _ _ _ _ _ h _ _ hP hD hS _ (lv_sub hl [0, 1, 2] rfl)
  exact hL2 _ _ _ _ _ _ h _ _ hP hD hS _ (lv_sub hl [0, 1, 2] rfl)
noncomputable def f_X2_followOtherOwners_L49 (c_y_sets : Nat → Int32) (c_n_sets : Nat → Int32) (c_n_round : Int32) (p1_players : Int32) (v2_L7 : Int32) (v3_L7 : Int32) (rec49 : Int32 → (Nat → Int32) → (Nat → Int32) → Option ((Nat → Int32) × (Nat → Int32))) (v4_L49 : Int32) (c_n_coming_L49 : Nat → Int32) (c_n_origins_L49 : Nat → Int32) : Option ((Nat → Int32) × (Nat → Int32)) :=
  if (6 : Int32) ≤ v4_L49 then (some (c_n_coming_L49, c_n_origins_L49)) else (ob1 (f_X0_hasOwner p1_players v4_L49) (fun (r_59 : Int32) => if r_59 = (0 : Int32) then (rec49 (v4_L49 + (1 : Int32)) c_n_coming_L49 c_n_origins_L49) else (ob1 (f_X4_of c_y_sets v4_L49) (fun (r_78 : Int32) => ob2 (f_X4_add c_n_sets c_n_coming_L49 c_n_origins_L49 c_n_round v4_L49 ((v2_L7 &&& (r_78 ^^^ (-1 : Int32))) ||| v3_L7) (2 : Int32)) (fun (c_n_coming_87 : Nat → Int32) (c_n_origins_87 : Nat → Int32) => rec49 (v4_L49 + (1 : Int32)) c_n_coming_87 c_n_origins_87)))))
noncomputable def f_X2_followOtherOwners_L7 (c_y_sets : Nat → Int32) (c_n_sets : Nat → Int32) (c_n_coming : Nat → Int32) (c_n_origins : Nat → Int32) (c_n_round : Int32) (p1_players : Int32) (rec7 : Int32 → Int32 → Int32 → Option ((Nat → Int32) × (Nat → Int32))) (v2_L7 : Int32) (v3_L7 : Int32) (v4_L7 : Int32) : Option ((Nat → Int32) × (Nat → Int32)) :=
  if (6 : Int32) ≤ v4_L7 then (lo3 (f_X2_followOtherOwners_L49 c_y_sets c_n_sets c_n_round p1_players v2_L7 v3_L7) FU (0 : Int32) c_n_coming c_n_origins) else (ob1 (f_X4_of c_y_sets v4_L7) (fun (r_22 : Int32) => lt' (v3_L7 ||| (v2_L7 &&& r_22)) (fun v3_27 : Int32 => ob1 (f_X4_of c_y_sets v4_L7) (fun (r_35 : Int32) => lt' (v2_L7 ||| r_35) (fun v2_39 : Int32 => rec7 v2_39 v3_27 (v4_L7 + (1 : Int32)))))))
noncomputable def f_X2_followOtherOwners (c_y_sets : Nat → Int32) (c_n_sets : Nat → Int32) (c_n_coming : Nat → Int32) (c_n_origins : Nat → Int32) (c_n_round : Int32) (p1_players : Int32) : Option ((Nat → Int32) × (Nat → Int32)) :=
  lo3 (f_X2_followOtherOwners_L7 c_y_sets c_n_sets c_n_coming c_n_origins c_n_round p1_players) FU (0 : Int32) (0 : Int32) (0 : Int32)
set_option maxHeartbeats 4000000 in
set_option maxRecDepth 100000 in
theorem c_X2_followOtherOwners (l : Launch) (dC : Nat → ClassId) (dI : Nat → Nat → Nat) (ck : Nat → ClassId) (a0 a0_y a0_y_sets a0_y_coming a0_y_origins a0_n a0_n_sets a0_n_coming a0_n_origins b1 b1_kinds b1_owners b1_cards : Nat) (c_y_sets : Nat → Int32) (c_y_coming : Nat → Int32) (c_y_origins : Nat → Int32) (c_y_round : Int32) (c_n_sets : Nat → Int32) (c_n_coming : Nat → Int32) (c_n_origins : Nat → Int32) (c_n_round : Int32) (c_rounds : Int32) (p1_players : Int32) (p1_told : Int32) (p1_kinds : Nat → Int32) (p1_owners : Nat → Int32) (p1_cards : Nat → Int32) (o0 : Nat → Int32) (o1 : Nat → Int32) (h : f_X2_followOtherOwners c_y_sets c_n_sets c_n_coming c_n_origins c_n_round p1_players = some (o0, o1)) : MV l yX2_followOtherOwners wsX2_followOtherOwners ({ frames := 2, cells := 0, slots := 0, locals := 46 }) [.ref a0, .ref b1] (dC, dI) ck (wX2 ck a0 a0_y a0_y_sets a0_y_coming a0_y_origins a0_n a0_n_sets a0_n_coming a0_n_origins c_y_sets c_y_coming c_y_origins c_y_round c_n_sets c_n_coming c_n_origins c_n_round c_rounds ++ wX0 ck b1 b1_kinds b1_owners b1_cards p1_players p1_told p1_kinds p1_owners p1_cards) (wX2 ck a0 a0_y a0_y_sets a0_y_coming a0_y_origins a0_n a0_n_sets a0_n_coming a0_n_origins c_y_sets c_y_coming c_y_origins c_y_round c_n_sets o0 o1 c_n_round c_rounds ++ wX0 ck b1 b1_kinds b1_owners b1_cards p1_players p1_told p1_kinds p1_owners p1_cards) := by
  refine MV.ofW (cc := cX2_followOtherOwners) (maxL := 5) (ret := none) (by decide +kernel) rfl (Nat.le_of_ble_eq_true rfl) ?_
  intro p e s m below meth c hx hb hr hml hts hown hlk hK hP A hA hD ls hl
  have hS : va_S A s.heap s.heap [] := va_S.rf
  have hown : s.vm.findClass RX2 = some m.cls := hown
  have hl : lv_has ls 5 [(0, .ref a0), (1, .ref b1)] := hl
  have iu_X2 : ∀ w ∈ u_ws RX2 TX2 3, w ∈ wsX2_followOtherOwners := fun w h => List.mem_cons_of_mem _ (List.mem_append_left _ (List.mem_append_left _ (List.mem_append_right _ h)))
  unfold f_X2_followOtherOwners at h
  refine lv_iconst (v := (0 : Int32)) hx hb dX2_followOtherOwners_0 rfl ?_
  refine lv_istore_n (lv' := [(2, .int (0 : Int32)), (0, .ref a0), (1, .ref b1)]) hx hb dX2_followOtherOwners_1 rfl hl (by decide) rfl (fun ls hl => ?_)
  refine lv_iconst (v := (0 : Int32)) hx hb dX2_followOtherOwners_2 rfl ?_
  refine lv_istore_n (lv' := [(3, .int (0 : Int32)), (2, .int (0 : Int32)), (0, .ref a0), (1, .ref b1)]) hx hb dX2_followOtherOwners_3 rfl hl (by decide) rfl (fun ls hl => ?_)
  refine lv_iconst (v := (0 : Int32)) hx hb dX2_followOtherOwners_4 rfl ?_
  refine lv_istore (lv' := [(4, .int (0 : Int32)), (3, .int (0 : Int32)), (2, .int (0 : Int32)), (0, .ref a0), (1, .ref b1)]) hx hb dX2_followOtherOwners_5 hl (by decide) rfl (fun ls hl => ?_)
  have hL7 : ∀ (n7 : Nat) (v2_L7 : Int32) (v3_L7 : Int32) (v4_L7 : Int32), lo3 (f_X2_followOtherOwners_L7 c_y_sets c_n_sets c_n_coming c_n_origins c_n_round p1_players) n7 v2_L7 v3_L7 v4_L7 = some (o0, o1) → ∀ (H : Heap) (locs : List Loc), va_P (dC, dI) vwCl (wX2 ck a0 a0_y a0_y_sets a0_y_coming a0_y_origins a0_n a0_n_sets a0_n_coming a0_n_origins c_y_sets c_y_coming c_y_origins c_y_round c_n_sets c_n_coming c_n_origins c_n_round c_rounds ++ wX0 ck b1 b1_kinds b1_owners b1_cards p1_players p1_told p1_kinds p1_owners p1_cards) H → va_D A (wX2 ck a0 a0_y a0_y_sets a0_y_coming a0_y_origins a0_n a0_n_sets a0_n_coming a0_n_origins c_y_sets c_y_coming c_y_origins c_y_round c_n_sets c_n_coming c_n_origins c_n_round c_rounds ++ wX0 ck b1 b1_kinds b1_owners b1_cards p1_players p1_told p1_kinds p1_owners p1_cards) → va_S A s.heap H locs → ∀ ls : Array Slot, lv_has ls 5 [(4, .int v4_L7), (3, .int v3_L7), (2, .int v2_L7), (0, .ref a0), (1, .ref b1)] → W p l e (headSpec wsX2_followOtherOwners ({ frames := 2, cells := 0, slots := 0, locals := 46 })).room s m [.ref a0, .ref b1].toArray below meth c H locs 0 0 (MQ below (QV (dC, dI) (wX2 ck a0 a0_y a0_y_sets a0_y_coming a0_y_origins a0_n a0_n_sets a0_n_coming a0_n_origins c_y_sets c_y_coming c_y_origins c_y_round c_n_sets o0 o1 c_n_round c_rounds ++ wX0 ck b1 b1_kinds b1_owners b1_cards p1_players p1_told p1_kinds p1_owners p1_cards) A) [.ref a0, .ref b1].toArray s 0 0 A) (F0 m 7 ls []) := by
    intro n7
    induction n7 with
    | zero => intro v2_L7 v3_L7 v4_L7 h; exact lo3_z h
    | succ n7 ih7 =>
      intro v2_L7 v3_L7 v4_L7 h H locs hP hD hS ls hl
      have h := lo3_s h
      unfold f_X2_followOtherOwners_L7 at h
      refine lv_iload hx hb dX2_followOtherOwners_7 (lv_at hl 0 rfl) ?_
      refine lv_bipush (v := (6 : Int32)) hx hb dX2_followOtherOwners_9 rfl ?_
      refine lv_icmp_ge (tgt := 46) hx hb dX2_followOtherOwners_11 (by decide) (fun c_11 => ?_) (fun c_11 => ?_)
      · have h := if_t h c_11
        refine lv_iconst (v := (0 : Int32)) hx hb dX2_followOtherOwners_46 rfl ?_
        refine lv_istore (lv' := [(4, .int (0 : Int32)), (3, .int v3_L7), (2, .int v2_L7), (0, .ref a0), (1, .ref b1)]) hx hb dX2_followOtherOwners_47 hl (by decide) rfl (fun ls hl => ?_)
        have hL49 : ∀ (n49 : Nat) (v4_L49 : Int32) (c_n_coming_L49 : Nat → Int32) (c_n_origins_L49 : Nat → Int32), lo3 (f_X2_followOtherOwners_L49 c_y_sets c_n_sets c_n_round p1_players v2_L7 v3_L7) n49 v4_L49 c_n_coming_L49 c_n_origins_L49 = some (o0, o1) → ∀ (H : Heap) (locs : List Loc), va_P (dC, dI) vwCl (wX2 ck a0 a0_y a0_y_sets a0_y_coming a0_y_origins a0_n a0_n_sets a0_n_coming a0_n_origins c_y_sets c_y_coming c_y_origins c_y_round c_n_sets c_n_coming_L49 c_n_origins_L49 c_n_round c_rounds ++ wX0 ck b1 b1_kinds b1_owners b1_cards p1_players p1_told p1_kinds p1_owners p1_cards) H → va_D A (wX2 ck a0 a0_y a0_y_sets a0_y_coming a0_y_origins a0_n a0_n_sets a0_n_coming a0_n_origins c_y_sets c_y_coming c_y_origins c_y_round c_n_sets c_n_coming_L49 c_n_origins_L49 c_n_round c_rounds ++ wX0 ck b1 b1_kinds b1_owners b1_cards p1_players p1_told p1_kinds p1_owners p1_cards) → va_S A s.heap H locs → ∀ ls : Array Slot, lv_has ls 5 [(4, .int v4_L49), (3, .int v3_L7), (2, .int v2_L7), (0, .ref a0), (1, .ref b1)] → W p l e (headSpec wsX2_followOtherOwners ({ frames := 2, cells := 0, slots := 0, locals := 46 })).room s m [.ref a0, .ref b1].toArray below meth c H locs 0 0 (MQ below (QV (dC, dI) (wX2 ck a0 a0_y a0_y_sets a0_y_coming a0_y_origins a0_n a0_n_sets a0_n_coming a0_n_origins c_y_sets c_y_coming c_y_origins c_y_round c_n_sets o0 o1 c_n_round c_rounds ++ wX0 ck b1 b1_kinds b1_owners b1_cards p1_players p1_told p1_kinds p1_owners p1_cards) A) [.ref a0, .ref b1].toArray s 0 0 A) (F0 m 49 ls []) := by
          intro n49
          induction n49 with
          | zero => intro v4_L49 c_n_coming_L49 c_n_origins_L49 h; exact lo3_z h
          | succ n49 ih49 =>
            intro v4_L49 c_n_coming_L49 c_n_origins_L49 h H locs hP hD hS ls hl
            have h := lo3_s h
            unfold f_X2_followOtherOwners_L49 at h
            refine lv_iload hx hb dX2_followOtherOwners_49 (lv_at hl 0 rfl) ?_
            refine lv_bipush (v := (6 : Int32)) hx hb dX2_followOtherOwners_51 rfl ?_
            refine lv_icmp_ge (tgt := 96) hx hb dX2_followOtherOwners_53 (by decide) (fun c_53 => ?_) (fun c_53 => ?_)
            · have h := if_t h c_53
              cases h
              exact eMv hx hb hr hlk hP hD hS dX2_followOtherOwners_96
            · have h := if_f h c_53
              refine lv_aload_n hx hb dX2_followOtherOwners_56 rfl (lv_at hl 4 rfl) ?_
              refine lv_iload hx hb dX2_followOtherOwners_57 (lv_at hl 0 rfl) ?_
              obtain ⟨r_59, q_59, h⟩ := ob1_e h
              refine cRV (wc := wX0 ck b1 b1_kinds b1_owners b1_cards p1_players p1_told p1_kinds p1_owners p1_cards) ⟨hx, hb, hml, hown, hts⟩ hK hP [9, 10, 11, 12] rfl (c_X0_hasOwner l dC dI ck b1 b1_kinds b1_owners b1_cards p1_players p1_told p1_kinds p1_owners p1_cards v4_L49 r_59 q_59) (cwV 1 hts gX2_followOtherOwners_X0_hasOwner rfl rfl rfl (by decide +kernel) ⟨Nat.le_of_ble_eq_true rfl, Nat.le_of_ble_eq_true rfl⟩) 9 rfl rfl rfl hl.1 rfl (Nat.le_of_ble_eq_true rfl) dX2_followOtherOwners_59 ⟨Nat.zero_le _, Nat.zero_le _⟩ ?_
              refine lv_if_eq (tgt := 90) hx hb dX2_followOtherOwners_62 (by decide) (fun c_62 => ?_) (fun c_62 => ?_)
              · have h := if_t h c_62
                refine lv_iinc (v := (v4_L49 + (1 : Int32))) (lv' := [(4, .int (v4_L49 + (1 : Int32))), (3, .int v3_L7), (2, .int v2_L7), (0, .ref a0), (1, .ref b1)]) hx hb dX2_followOtherOwners_90 hl (k := 0) rfl rfl (by decide) rfl (fun ls hl => ?_)
                refine lv_goto (tgt := 49) hx hb dX2_followOtherOwners_93 (by decide) ?_
                exact ih49 _ _ _ h _ _ hP hD hS _ (lv_sub hl [0, 1, 2, 3, 4] rfl)
              · have h := if_f h c_62
                refine lv_aload_n hx hb dX2_followOtherOwners_65 rfl (lv_at hl 3 rfl) ?_
                refine va_get (ci := 2) (v := .ref a0_n) (C := RX2) (T := TX2) (N := 3) hx hb hts iu_X2 hown hK.1 hP 0 rfl rfl 1 (by decide) (hts (.fieldLink RX2 18 "SheetMarks$Marks" "no" "LSheetMarks$Ticks;") (List.mem_of_getElem? (i := 2) rfl)) (fun _ h9 => h9) rfl dX2_followOtherOwners_66 ?_
                refine lv_iload hx hb dX2_followOtherOwners_69 (lv_at hl 0 rfl) ?_
                refine lv_iload_n hx hb dX2_followOtherOwners_71 rfl (lv_at hl 2 rfl) ?_
                refine lv_aload_n hx hb dX2_followOtherOwners_72 rfl (lv_at hl 3 rfl) ?_
                refine va_get (ci := 2) (v := .ref a0_y) (C := RX2) (T := TX2) (N := 3) hx hb hts iu_X2 hown hK.1 hP 0 rfl rfl 0 (by decide) (hts (.fieldLink RX2 12 "SheetMarks$Marks" "yes" "LSheetMarks$Ticks;") (List.mem_of_getElem? (i := 1) rfl)) (fun _ h9 => h9) rfl dX2_followOtherOwners_73 ?_
                refine lv_iload hx hb dX2_followOtherOwners_76 (lv_at hl 0 rfl) ?_
                obtain ⟨r_78, q_78, h⟩ := ob1_e h
                refine cRV (wc := wX4 ck a0_y a0_y_sets a0_y_coming a0_y_origins c_y_sets c_y_coming c_y_origins c_y_round) ⟨hx, hb, hml, hown, hts⟩ hK hP [1, 2, 3, 4] rfl (c_X4_of l dC dI ck a0_y a0_y_sets a0_y_coming a0_y_origins c_y_sets c_y_coming c_y_origins c_y_round v4_L49 r_78 q_78) (cwV 1 hts gX2_followOtherOwners_X4_of rfl rfl rfl (by decide +kernel) ⟨Nat.le_of_ble_eq_true rfl, Nat.le_of_ble_eq_true rfl⟩) 1 rfl rfl rfl hl.1 rfl (Nat.le_of_ble_eq_true rfl) dX2_followOtherOwners_78 ⟨Nat.zero_le _, Nat.zero_le _⟩ ?_
                refine lv_iconst (v := (-1 : Int32)) hx hb dX2_followOtherOwners_81 rfl ?_
                refine lv_ixor hx hb dX2_followOtherOwners_82 ?_
                refine lv_iand hx hb dX2_followOtherOwners_83 ?_
                refine lv_iload_n hx hb dX2_followOtherOwners_84 rfl (lv_at hl 1 rfl) ?_
                refine lv_ior hx hb dX2_followOtherOwners_85 ?_
                refine lv_iconst (v := (2 : Int32)) hx hb dX2_followOtherOwners_86 rfl ?_
                obtain ⟨c_n_coming_87, c_n_origins_87, q_87, h⟩ := ob2_e h
                refine cMV (wc := wX4 ck a0_n a0_n_sets a0_n_coming a0_n_origins c_n_sets c_n_coming_L49 c_n_origins_L49 c_n_round) (wr := [(a0, .inr (2, [.ref a0_y, .ref a0_n, .int c_rounds]))] ++ wX4 ck a0_y a0_y_sets a0_y_coming a0_y_origins c_y_sets c_y_coming c_y_origins c_y_round ++ wX0 ck b1 b1_kinds b1_owners b1_cards p1_players p1_told p1_kinds p1_owners p1_cards) (w1 := wX4 ck a0_n a0_n_sets a0_n_coming a0_n_origins c_n_sets c_n_coming_87 c_n_origins_87 c_n_round) (wn := wX2 ck a0 a0_y a0_y_sets a0_y_coming a0_y_origins a0_n a0_n_sets a0_n_coming a0_n_origins c_y_sets c_y_coming c_y_origins c_y_round c_n_sets c_n_coming_87 c_n_origins_87 c_n_round c_rounds ++ wX0 ck b1 b1_kinds b1_owners b1_cards p1_players p1_told p1_kinds p1_owners p1_cards) ⟨hx, hb, hml, hown, hts⟩ hK hP hD hS hA [5, 6, 7, 8] [0, 1, 2, 3, 4, 9, 10, 11, 12] [0, 1, 2, 3, 4, 9, 10, 11, 12, 5, 6, 7, 8] rfl (by decide) rfl (by decide) (by decide) rfl (by decide) (c_X4_add l dC dI ck a0_n a0_n_sets a0_n_coming a0_n_origins c_n_sets c_n_coming_L49 c_n_origins_L49 c_n_round v4_L49 ((v2_L7 &&& (r_78 ^^^ (-1 : Int32))) ||| v3_L7) (2 : Int32) c_n_coming_87 c_n_origins_87 q_87) (cwV 3 hts gX2_followOtherOwners_X4_add rfl rfl rfl (by decide +kernel) ⟨Nat.le_of_ble_eq_true rfl, Nat.le_of_ble_eq_true rfl⟩) 5 rfl rfl rfl hl.1 rfl (Nat.le_of_ble_eq_true rfl) dX2_followOtherOwners_87 ⟨Nat.zero_le _, Nat.zero_le _⟩ (fun H locs hP hD hS => ?_)
                refine lv_iinc (v := (v4_L49 + (1 : Int32))) (lv' := [(4, .int (v4_L49 + (1 : Int32))), (3, .int v3_L7), (2, .int v2_L7), (0, .ref a0), (1, .ref b1)]) hx hb dX2_followOtherOwners_90 hl (k := 0) rfl rfl (by decide) rfl (fun ls hl => ?_)
                refine lv_goto (tgt := 49) hx hb dX2_followOtherOwners_93 (by decide) ?_
                exact ih49 _ _ _ h _ _ hP hD hS _ (lv_sub hl [0, 1, 2, 3, 4] rfl)
        exact hL49 _ _ _ _ h _ _ hP hD hS _ (lv_sub hl [0, 1, 2, 3, 4] rfl)
      · have h := if_f h c_11
        refine lv_iload_n hx hb dX2_followOtherOwners_14 rfl (lv_at hl 1 rfl) ?_
        refine lv_iload_n hx hb dX2_followOtherOwners_15 rfl (lv_at hl 2 rfl) ?_
        refine lv_aload_n hx hb dX2_followOtherOwners_16 rfl (lv_at hl 3 rfl) ?_
        refine va_get (ci := 2) (v := .ref a0_y) (C := RX2) (T := TX2) (N := 3) hx hb hts iu_X2 hown hK.1 hP 0 rfl rfl 0 (by decide) (hts (.fieldLink RX2 12 "SheetMarks$Marks" "yes" "LSheetMarks$Ticks;") (List.mem_of_getElem? (i := 1) rfl)) (fun _ h9 => h9) rfl dX2_followOtherOwners_17 ?_
        refine lv_iload hx hb dX2_followOtherOwners_20 (lv_at hl 0 rfl) ?_
        obtain ⟨r_22, q_22, h⟩ := ob1_e h
        refine cRV (wc := wX4 ck a0_y a0_y_sets a0_y_coming a0_y_origins c_y_sets c_y_coming c_y_origins c_y_round) ⟨hx, hb, hml, hown, hts⟩ hK hP [1, 2, 3, 4] rfl (c_X4_of l dC dI ck a0_y a0_y_sets a0_y_coming a0_y_origins c_y_sets c_y_coming c_y_origins c_y_round v4_L7 r_22 q_22) (cwV 1 hts gX2_followOtherOwners_X4_of rfl rfl rfl (by decide +kernel) ⟨Nat.le_of_ble_eq_true rfl, Nat.le_of_ble_eq_true rfl⟩) 1 rfl rfl rfl hl.1 rfl (Nat.le_of_ble_eq_true rfl) dX2_followOtherOwners_22 ⟨Nat.zero_le _, Nat.zero_le _⟩ ?_
        refine lv_iand hx hb dX2_followOtherOwners_25 ?_
        refine lv_ior hx hb dX2_followOtherOwners_26 ?_
        refine lv_topi (fun v3_27 e_27 => ?_)
        have h := lt'_e e_27 h
        refine lv_istore_n (lv' := [(3, .int v3_27), (4, .int v4_L7), (2, .int v2_L7), (0, .ref a0), (1, .ref b1)]) hx hb dX2_followOtherOwners_27 rfl hl (by decide) rfl (fun ls hl => ?_)
        refine lv_iload_n hx hb dX2_followOtherOwners_28 rfl (lv_at hl 2 rfl) ?_
        refine lv_aload_n hx hb dX2_followOtherOwners_29 rfl (lv_at hl 3 rfl) ?_
        refine va_get (ci := 2) (v := .ref a0_y) (C := RX2) (T := TX2) (N := 3) hx hb hts iu_X2 hown hK.1 hP 0 rfl rfl 0 (by decide) (hts (.fieldLink RX2 12 "SheetMarks$Marks" "yes" "LSheetMarks$Ticks;") (List.mem_of_getElem? (i := 1) rfl)) (fun _ h9 => h9) rfl dX2_followOtherOwners_30 ?_
        refine lv_iload hx hb dX2_followOtherOwners_33 (lv_at hl 1 rfl) ?_
        obtain ⟨r_35, q_35, h⟩ := ob1_e h
        refine cRV (wc := wX4 ck a0_y a0_y_sets a0_y_coming a0_y_origins c_y_sets c_y_coming c_y_origins c_y_round) ⟨hx, hb, hml, hown, hts⟩ hK hP [1, 2, 3, 4] rfl (c_X4_of l dC dI ck a0_y a0_y_sets a0_y_coming a0_y_origins c_y_sets c_y_coming c_y_origins c_y_round v4_L7 r_35 q_35) (cwV 1 hts gX2_followOtherOwners_X4_of rfl rfl rfl (by decide +kernel) ⟨Nat.le_of_ble_eq_true rfl, Nat.le_of_ble_eq_true rfl⟩) 1 rfl rfl rfl hl.1 rfl (Nat.le_of_ble_eq_true rfl) dX2_followOtherOwners_35 ⟨Nat.zero_le _, Nat.zero_le _⟩ ?_
        refine lv_ior hx hb dX2_followOtherOwners_38 ?_
        refine lv_topi (fun v2_39 e_39 => ?_)
        have h := lt'_e e_39 h
        refine lv_istore_n (lv' := [(2, .int v2_39), (3, .int v3_27), (4, .int v4_L7), (0, .ref a0), (1, .ref b1)]) hx hb dX2_followOtherOwners_39 rfl hl (by decide) rfl (fun ls hl => ?_)
        refine lv_iinc (v := (v4_L7 + (1 : Int32))) (lv' := [(4, .int (v4_L7 + (1 : Int32))), (2, .int v2_39), (3, .int v3_27), (0, .ref a0), (1, .ref b1)]) hx hb dX2_followOtherOwners_40 hl (k := 2) rfl rfl (by decide) rfl (fun ls hl => ?_)
        refine lv_goto (tgt := 7) hx hb dX2_followOtherOwners_43 (by decide) ?_
        exact ih7 _ _ _ h _ _ hP hD hS _ (lv_sub hl [0, 2, 1, 3, 4] rfl)
  exact hL7 _ _ _ _ h _ _ hP hD hS _ (lv_sub hl [0, 1, 2, 3, 4] rfl)
noncomputable def f_X2_followLastOwner_L60 (c_y_sets : Nat → Int32) (c_y_round : Int32) (c_n_sets : Nat → Int32) (p1_players : Int32) (v2_L7 : Int32) (v3_L7 : Int32) (rec60 : Int32 → (Nat → Int32) → (Nat → Int32) → Option ((Nat → Int32) × (Nat → Int32))) (v4_L60 : Int32) (c_y_coming_L60 : Nat → Int32) (c_y_origins_L60 : Nat → Int32) : Option ((Nat → Int32) × (Nat → Int32)) :=
  if (6 : Int32) ≤ v4_L60 then (some (c_y_coming_L60, c_y_origins_L60)) else (ob1 (f_X0_hasOwner p1_players v4_L60) (fun (r_70 : Int32) => if r_70 = (0 : Int32) then (rec60 (v4_L60 + (1 : Int32)) c_y_coming_L60 c_y_origins_L60) else (ob1 (f_X4_of c_n_sets v4_L60) (fun (r_93 : Int32) => ob2 (f_X4_add c_y_sets c_y_coming_L60 c_y_origins_L60 c_y_round v4_L60 ((v2_L7 &&& (v3_L7 ^^^ (-1 : Int32))) &&& (r_93 ^^^ (-1 : Int32))) (3 : Int32)) (fun (c_y_coming_100 : Nat → Int32) (c_y_origins_100 : Nat → Int32) => rec60 (v4_L60 + (1 : Int32)) c_y_coming_100 c_y_origins_100)))))
noncomputable def f_X2_followLastOwner_L7 (c_y_sets : Nat → Int32) (c_y_coming : Nat → Int32) (c_y_origins : Nat → Int32) (c_y_round : Int32) (c_n_sets : Nat → Int32) (p1_players : Int32) (rec7 : Int32 → Int32 → Int32 → Option ((Nat → Int32) × (Nat → Int32))) (v2_L7 : Int32) (v3_L7 : Int32) (v4_L7 : Int32) : Option ((Nat → Int32) × (Nat → Int32)) :=
  if (6 : Int32) ≤ v4_L7 then (lo3 (f_X2_followLastOwner_L60 c_y_sets c_y_round c_n_sets p1_players v2_L7 v3_L7) FU (0 : Int32) c_y_coming c_y_origins) else (ob1 (f_X0_hasOwner p1_players v4_L7) (fun (r_17 : Int32) => if r_17 = (0 : Int32) then (rec7 v2_L7 v3_L7 (v4_L7 + (1 : Int32))) else (ob1 (f_X4_of c_n_sets v4_L7) (fun (r_31 : Int32) => lt' ((262143 : Int32) &&& (r_31 ^^^ (-1 : Int32))) (fun v5_37 : Int32 => lt' (v3_L7 ||| (v2_L7 &&& v5_37)) (fun v3_45 : Int32 => lt' (v2_L7 ||| v5_37) (fun v2_50 : Int32 => rec7 v2_50 v3_45 (v4_L7 + (1 : Int32)))))))))
noncomputable def f_X2_followLastOwner (c_y_sets : Nat → Int32) (c_y_coming : Nat → Int32) (c_y_origins : Nat → Int32) (c_y_round : Int32) (c_n_sets : Nat → Int32) (p1_players : Int32) : Option ((Nat → Int32) × (Nat → Int32)) :=
  lo3 (f_X2_followLastOwner_L7 c_y_sets c_y_coming c_y_origins c_y_round c_n_sets p1_players) FU (0 : Int32) (0 : Int32) (0 : Int32)
set_option maxHeartbeats 4000000 in
set_option maxRecDepth 100000 in
theorem c_X2_followLastOwner (l : Launch) (dC : Nat → ClassId) (dI : Nat → Nat → Nat) (ck : Nat → ClassId) (a0 a0_y a0_y_sets a0_y_coming a0_y_origins a0_n a0_n_sets a0_n_coming a0_n_origins b1 b1_kinds b1_owners b1_cards : Nat) (c_y_sets : Nat → Int32) (c_y_coming : Nat → Int32) (c_y_origins : Nat → Int32) (c_y_round : Int32) (c_n_sets : Nat → Int32) (c_n_coming : Nat → Int32) (c_n_origins : Nat → Int32) (c_n_round : Int32) (c_rounds : Int32) (p1_players : Int32) (p1_told : Int32) (p1_kinds : Nat → Int32) (p1_owners : Nat → Int32) (p1_cards : Nat → Int32) (o0 : Nat → Int32) (o1 : Nat → Int32) (h : f_X2_followLastOwner c_y_sets c_y_coming c_y_origins c_y_round c_n_sets p1_players = some (o0, o1)) : MV l yX2_followLastOwner wsX2_followLastOwner ({ frames := 2, cells := 0, slots := 0, locals := 46 }) [.ref a0, .ref b1] (dC, dI) ck (wX2 ck a0 a0_y a0_y_sets a0_y_coming a0_y_origins a0_n a0_n_sets a0_n_coming a0_n_origins c_y_sets c_y_coming c_y_origins c_y_round c_n_sets c_n_coming c_n_origins c_n_round c_rounds ++ wX0 ck b1 b1_kinds b1_owners b1_cards p1_players p1_told p1_kinds p1_owners p1_cards) (wX2 ck a0 a0_y a0_y_sets a0_y_coming a0_y_origins a0_n a0_n_sets a0_n_coming a0_n_origins c_y_sets o0 o1 c_y_round c_n_sets c_n_coming c_n_origins c_n_round c_rounds ++ wX0 ck b1 b1_kinds b1_owners b1_cards p1_players p1_told p1_kinds p1_owners p1_cards) := by
  refine MV.ofW (cc := cX2_followLastOwner) (maxL := 6) (ret := none) (by decide +kernel) rfl (Nat.le_of_ble_eq_true rfl) ?_
  intro p e s m below meth c hx hb hr hml hts hown hlk hK hP A hA hD ls hl
  have hS : va_S A s.heap s.heap [] := va_S.rf
  have hown : s.vm.findClass RX2 = some m.cls := hown
  have hl : lv_has ls 6 [(0, .ref a0), (1, .ref b1)] := hl
  have iu_X2 : ∀ w ∈ u_ws RX2 TX2 3, w ∈ wsX2_followLastOwner := fun w h => List.mem_cons_of_mem _ (List.mem_append_left _ (List.mem_append_left _ (List.mem_append_right _ h)))
  unfold f_X2_followLastOwner at h
  refine lv_iconst (v := (0 : Int32)) hx hb dX2_followLastOwner_0 rfl ?_
  refine lv_istore_n (lv' := [(2, .int (0 : Int32)), (0, .ref a0), (1, .ref b1)]) hx hb dX2_followLastOwner_1 rfl hl (by decide) rfl (fun ls hl => ?_)
  refine lv_iconst (v := (0 : Int32)) hx hb dX2_followLastOwner_2 rfl ?_
  refine lv_istore_n (lv' := [(3, .int (0 : Int32)), (2, .int (0 : Int32)), (0, .ref a0), (1, .ref b1)]) hx hb dX2_followLastOwner_3 rfl hl (by decide) rfl (fun ls hl => ?_)
  refine lv_iconst (v := (0 : Int32)) hx hb dX2_followLastOwner_4 rfl ?_
  refine lv_istore (lv' := [(4, .int (0 : Int32)), (3, .int (0 : Int32)), (2, .int (0 : Int32)), (0, .ref a0), (1, .ref b1)]) hx hb dX2_followLastOwner_5 hl (by decide) rfl (fun ls hl => ?_)
  have hL7 : ∀ (n7 : Nat) (v2_L7 : Int32) (v3_L7 : Int32) (v4_L7 : Int32), lo3 (f_X2_followLastOwner_L7 c_y_sets c_y_coming c_y_origins c_y_round c_n_sets p1_players) n7 v2_L7 v3_L7 v4_L7 = some (o0, o1) → ∀ (H : Heap) (locs : List Loc), va_P (dC, dI) vwCl (wX2 ck a0 a0_y a0_y_sets a0_y_coming a0_y_origins a0_n a0_n_sets a0_n_coming a0_n_origins c_y_sets c_y_coming c_y_origins c_y_round c_n_sets c_n_coming c_n_origins c_n_round c_rounds ++ wX0 ck b1 b1_kinds b1_owners b1_cards p1_players p1_told p1_kinds p1_owners p1_cards) H → va_D A (wX2 ck a0 a0_y a0_y_sets a0_y_coming a0_y_origins a0_n a0_n_sets a0_n_coming a0_n_origins c_y_sets c_y_coming c_y_origins c_y_round c_n_sets c_n_coming c_n_origins c_n_round c_rounds ++ wX0 ck b1 b1_kinds b1_owners b1_cards p1_players p1_told p1_kinds p1_owners p1_cards) → va_S A s.heap H locs → ∀ ls : Array Slot, lv_has ls 6 [(4, .int v4_L7), (3, .int v3_L7), (2, .int v2_L7), (0, .ref a0), (1, .ref b1)] → W p l e (headSpec wsX2_followLastOwner ({ frames := 2, cells := 0, slots := 0, locals := 46 })).room s m [.ref a0, .ref b1].toArray below meth c H locs 0 0 (MQ below (QV (dC, dI) (wX2 ck a0 a0_y a0_y_sets a0_y_coming a0_y_origins a0_n a0_n_sets a0_n_coming a0_n_origins c_y_sets o0 o1 c_y_round c_n_sets c_n_coming c_n_origins c_n_round c_rounds ++ wX0 ck b1 b1_kinds b1_owners b1_cards p1_players p1_told p1_kinds p1_owners p1_cards) A) [.ref a0, .ref b1].toArray s 0 0 A) (F0 m 7 ls []) := by
    intro n7
    induction n7 with
    | zero => intro v2_L7 v3_L7 v4_L7 h; exact lo3_z h
    | succ n7 ih7 =>
      intro v2_L7 v3_L7 v4_L7 h H locs hP hD hS ls hl
      have h := lo3_s h
      unfold f_X2_followLastOwner_L7 at h
      refine lv_iload hx hb dX2_followLastOwner_7 (lv_at hl 0 rfl) ?_
      refine lv_bipush (v := (6 : Int32)) hx hb dX2_followLastOwner_9 rfl ?_
      refine lv_icmp_ge (tgt := 57) hx hb dX2_followLastOwner_11 (by decide) (fun c_11 => ?_) (fun c_11 => ?_)
      · have h := if_t h c_11
        refine lv_iconst (v := (0 : Int32)) hx hb dX2_followLastOwner_57 rfl ?_
        refine lv_istore (lv' := [(4, .int (0 : Int32)), (3, .int v3_L7), (2, .int v2_L7), (0, .ref a0), (1, .ref b1)]) hx hb dX2_followLastOwner_58 hl (by decide) rfl (fun ls hl => ?_)
        have hL60 : ∀ (n60 : Nat) (v4_L60 : Int32) (c_y_coming_L60 : Nat → Int32) (c_y_origins_L60 : Nat → Int32), lo3 (f_X2_followLastOwner_L60 c_y_sets c_y_round c_n_sets p1_players v2_L7 v3_L7) n60 v4_L60 c_y_coming_L60 c_y_origins_L60 = some (o0, o1) → ∀ (H : Heap) (locs : List Loc), va_P (dC, dI) vwCl (wX2 ck a0 a0_y a0_y_sets a0_y_coming a0_y_origins a0_n a0_n_sets a0_n_coming a0_n_origins c_y_sets c_y_coming_L60 c_y_origins_L60 c_y_round c_n_sets c_n_coming c_n_origins c_n_round c_rounds ++ wX0 ck b1 b1_kinds b1_owners b1_cards p1_players p1_told p1_kinds p1_owners p1_cards) H → va_D A (wX2 ck a0 a0_y a0_y_sets a0_y_coming a0_y_origins a0_n a0_n_sets a0_n_coming a0_n_origins c_y_sets c_y_coming_L60 c_y_origins_L60 c_y_round c_n_sets c_n_coming c_n_origins c_n_round c_rounds ++ wX0 ck b1 b1_kinds b1_owners b1_cards p1_players p1_told p1_kinds p1_owners p1_cards) → va_S A s.heap H locs → ∀ ls : Array Slot, lv_has ls 6 [(4, .int v4_L60), (3, .int v3_L7), (2, .int v2_L7), (0, .ref a0), (1, .ref b1)] → W p l e (headSpec wsX2_followLastOwner ({ frames := 2, cells := 0, slots := 0, locals := 46 })).room s m [.ref a0, .ref b1].toArray below meth c H locs 0 0 (MQ below (QV (dC, dI) (wX2 ck a0 a0_y a0_y_sets a0_y_coming a0_y_origins a0_n a0_n_sets a0_n_coming a0_n_origins c_y_sets o0 o1 c_y_round c_n_sets c_n_coming c_n_origins c_n_round c_rounds ++ wX0 ck b1 b1_kinds b1_owners b1_cards p1_players p1_told p1_kinds p1_owners p1_cards) A) [.ref a0, .ref b1].toArray s 0 0 A) (F0 m 60 ls []) := by
          intro n60
          induction n60 with
          | zero => intro v4_L60 c_y_coming_L60 c_y_origins_L60 h; exact lo3_z h
          | succ n60 ih60 =>
            intro v4_L60 c_y_coming_L60 c_y_origins_L60 h H locs hP hD hS ls hl
            have h := lo3_s h
            unfold f_X2_followLastOwner_L60 at h
            refine lv_iload hx hb dX2_followLastOwner_60 (lv_at hl 0 rfl) ?_
            refine lv_bipush (v := (6 : Int32)) hx hb dX2_followLastOwner_62 rfl ?_
            refine lv_icmp_ge (tgt := 109) hx hb dX2_followLastOwner_64 (by decide) (fun c_64 => ?_) (fun c_64 => ?_)
            · have h := if_t h c_64
              cases h
              exact eMv hx hb hr hlk hP hD hS dX2_followLastOwner_109
            · have h := if_f h c_64
              refine lv_aload_n hx hb dX2_followLastOwner_67 rfl (lv_at hl 4 rfl) ?_
              refine lv_iload hx hb dX2_followLastOwner_68 (lv_at hl 0 rfl) ?_
              obtain ⟨r_70, q_70, h⟩ := ob1_e h
              refine cRV (wc := wX0 ck b1 b1_kinds b1_owners b1_cards p1_players p1_told p1_kinds p1_owners p1_cards) ⟨hx, hb, hml, hown, hts⟩ hK hP [9, 10, 11, 12] rfl (c_X0_hasOwner l dC dI ck b1 b1_kinds b1_owners b1_cards p1_players p1_told p1_kinds p1_owners p1_cards v4_L60 r_70 q_70) (cwV 1 hts gX2_followLastOwner_X0_hasOwner rfl rfl rfl (by decide +kernel) ⟨Nat.le_of_ble_eq_true rfl, Nat.le_of_ble_eq_true rfl⟩) 9 rfl rfl rfl hl.1 rfl (Nat.le_of_ble_eq_true rfl) dX2_followLastOwner_70 ⟨Nat.zero_le _, Nat.zero_le _⟩ ?_
              refine lv_if_eq (tgt := 103) hx hb dX2_followLastOwner_73 (by decide) (fun c_73 => ?_) (fun c_73 => ?_)
              · have h := if_t h c_73
                refine lv_iinc (v := (v4_L60 + (1 : Int32))) (lv' := [(4, .int (v4_L60 + (1 : Int32))), (3, .int v3_L7), (2, .int v2_L7), (0, .ref a0), (1, .ref b1)]) hx hb dX2_followLastOwner_103 hl (k := 0) rfl rfl (by decide) rfl (fun ls hl => ?_)
                refine lv_goto (tgt := 60) hx hb dX2_followLastOwner_106 (by decide) ?_
                exact ih60 _ _ _ h _ _ hP hD hS _ (lv_sub hl [0, 1, 2, 3, 4] rfl)
              · have h := if_f h c_73
                refine lv_aload_n hx hb dX2_followLastOwner_76 rfl (lv_at hl 3 rfl) ?_
                refine va_get (ci := 2) (v := .ref a0_y) (C := RX2) (T := TX2) (N := 3) hx hb hts iu_X2 hown hK.1 hP 0 rfl rfl 0 (by decide) (hts (.fieldLink RX2 12 "SheetMarks$Marks" "yes" "LSheetMarks$Ticks;") (List.mem_of_getElem? (i := 3) rfl)) (fun _ h9 => h9) rfl dX2_followLastOwner_77 ?_
                refine lv_iload hx hb dX2_followLastOwner_80 (lv_at hl 0 rfl) ?_
                refine lv_iload_n hx hb dX2_followLastOwner_82 rfl (lv_at hl 2 rfl) ?_
                refine lv_iload_n hx hb dX2_followLastOwner_83 rfl (lv_at hl 1 rfl) ?_
                refine lv_iconst (v := (-1 : Int32)) hx hb dX2_followLastOwner_84 rfl ?_
                refine lv_ixor hx hb dX2_followLastOwner_85 ?_
                refine lv_iand hx hb dX2_followLastOwner_86 ?_
                refine lv_aload_n hx hb dX2_followLastOwner_87 rfl (lv_at hl 3 rfl) ?_
                refine va_get (ci := 2) (v := .ref a0_n) (C := RX2) (T := TX2) (N := 3) hx hb hts iu_X2 hown hK.1 hP 0 rfl rfl 1 (by decide) (hts (.fieldLink RX2 18 "SheetMarks$Marks" "no" "LSheetMarks$Ticks;") (List.mem_of_getElem? (i := 2) rfl)) (fun _ h9 => h9) rfl dX2_followLastOwner_88 ?_
                refine lv_iload hx hb dX2_followLastOwner_91 (lv_at hl 0 rfl) ?_
                obtain ⟨r_93, q_93, h⟩ := ob1_e h
                refine cRV (wc := wX4 ck a0_n a0_n_sets a0_n_coming a0_n_origins c_n_sets c_n_coming c_n_origins c_n_round) ⟨hx, hb, hml, hown, hts⟩ hK hP [5, 6, 7, 8] rfl (c_X4_of l dC dI ck a0_n a0_n_sets a0_n_coming a0_n_origins c_n_sets c_n_coming c_n_origins c_n_round v4_L60 r_93 q_93) (cwV 1 hts gX2_followLastOwner_X4_of rfl rfl rfl (by decide +kernel) ⟨Nat.le_of_ble_eq_true rfl, Nat.le_of_ble_eq_true rfl⟩) 5 rfl rfl rfl hl.1 rfl (Nat.le_of_ble_eq_true rfl) dX2_followLastOwner_93 ⟨Nat.zero_le _, Nat.zero_le _⟩ ?_
                refine lv_iconst (v := (-1 : Int32)) hx hb dX2_followLastOwner_96 rfl ?_
                refine lv_ixor hx hb dX2_followLastOwner_97 ?_
                refine lv_iand hx hb dX2_followLastOwner_98 ?_
                refine lv_iconst (v := (3 : Int32)) hx hb dX2_followLastOwner_99 rfl ?_
                obtain ⟨c_y_coming_100, c_y_origins_100, q_100, h⟩ := ob2_e h
                refine cMV (wc := wX4 ck a0_y a0_y_sets a0_y_coming a0_y_origins c_y_sets c_y_coming_L60 c_y_origins_L60 c_y_round) (wr := [(a0, .inr (2, [.ref a0_y, .ref a0_n, .int c_rounds]))] ++ wX4 ck a0_n a0_n_sets a0_n_coming a0_n_origins c_n_sets c_n_coming c_n_origins c_n_round ++ wX0 ck b1 b1_kinds b1_owners b1_cards p1_players p1_told p1_kinds p1_owners p1_cards) (w1 := wX4 ck a0_y a0_y_sets a0_y_coming a0_y_origins c_y_sets c_y_coming_100 c_y_origins_100 c_y_round) (wn := wX2 ck a0 a0_y a0_y_sets a0_y_coming a0_y_origins a0_n a0_n_sets a0_n_coming a0_n_origins c_y_sets c_y_coming_100 c_y_origins_100 c_y_round c_n_sets c_n_coming c_n_origins c_n_round c_rounds ++ wX0 ck b1 b1_kinds b1_owners b1_cards p1_players p1_told p1_kinds p1_owners p1_cards) ⟨hx, hb, hml, hown, hts⟩ hK hP hD hS hA [1, 2, 3, 4] [0, 5, 6, 7, 8, 9, 10, 11, 12] [0, 9, 10, 11, 12, 1, 2, 3, 4, 5, 6, 7, 8] rfl (by decide) rfl (by decide) (by decide) rfl (by decide) (c_X4_add l dC dI ck a0_y a0_y_sets a0_y_coming a0_y_origins c_y_sets c_y_coming_L60 c_y_origins_L60 c_y_round v4_L60 ((v2_L7 &&& (v3_L7 ^^^ (-1 : Int32))) &&& (r_93 ^^^ (-1 : Int32))) (3 : Int32) c_y_coming_100 c_y_origins_100 q_100) (cwV 3 hts gX2_followLastOwner_X4_add rfl rfl rfl (by decide +kernel) ⟨Nat.le_of_ble_eq_true rfl, Nat.le_of_ble_eq_true rfl⟩) 1 rfl rfl rfl hl.1 rfl (Nat.le_of_ble_eq_true rfl) dX2_followLastOwner_100 ⟨Nat.zero_le _, Nat.zero_le _⟩ (fun H locs hP hD hS => ?_)
                refine lv_iinc (v := (v4_L60 + (1 : Int32))) (lv' := [(4, .int (v4_L60 + (1 : Int32))), (3, .int v3_L7), (2, .int v2_L7), (0, .ref a0), (1, .ref b1)]) hx hb dX2_followLastOwner_103 hl (k := 0) rfl rfl (by decide) rfl (fun ls hl => ?_)
                refine lv_goto (tgt := 60) hx hb dX2_followLastOwner_106 (by decide) ?_
                exact ih60 _ _ _ h _ _ hP hD hS _ (lv_sub hl [0, 1, 2, 3, 4] rfl)
        exact hL60 _ _ _ _ h _ _ hP hD hS _ (lv_sub hl [0, 1, 2, 3, 4] rfl)
      · have h := if_f h c_11
        refine lv_aload_n hx hb dX2_followLastOwner_14 rfl (lv_at hl 4 rfl) ?_
        refine lv_iload hx hb dX2_followLastOwner_15 (lv_at hl 0 rfl) ?_
        obtain ⟨r_17, q_17, h⟩ := ob1_e h
        refine cRV (wc := wX0 ck b1 b1_kinds b1_owners b1_cards p1_players p1_told p1_kinds p1_owners p1_cards) ⟨hx, hb, hml, hown, hts⟩ hK hP [9, 10, 11, 12] rfl (c_X0_hasOwner l dC dI ck b1 b1_kinds b1_owners b1_cards p1_players p1_told p1_kinds p1_owners p1_cards v4_L7 r_17 q_17) (cwV 1 hts gX2_followLastOwner_X0_hasOwner rfl rfl rfl (by decide +kernel) ⟨Nat.le_of_ble_eq_true rfl, Nat.le_of_ble_eq_true rfl⟩) 9 rfl rfl rfl hl.1 rfl (Nat.le_of_ble_eq_true rfl) dX2_followLastOwner_17 ⟨Nat.zero_le _, Nat.zero_le _⟩ ?_
        refine lv_if_eq (tgt := 51) hx hb dX2_followLastOwner_20 (by decide) (fun c_20 => ?_) (fun c_20 => ?_)
        · have h := if_t h c_20
          refine lv_iinc (v := (v4_L7 + (1 : Int32))) (lv' := [(4, .int (v4_L7 + (1 : Int32))), (3, .int v3_L7), (2, .int v2_L7), (0, .ref a0), (1, .ref b1)]) hx hb dX2_followLastOwner_51 hl (k := 0) rfl rfl (by decide) rfl (fun ls hl => ?_)
          refine lv_goto (tgt := 7) hx hb dX2_followLastOwner_54 (by decide) ?_
          exact ih7 _ _ _ h _ _ hP hD hS _ (lv_sub hl [0, 1, 2, 3, 4] rfl)
        · have h := if_f h c_20
          refine lv_ldc hx hb hown (hts (.constant RX2 44 (262143)) (List.mem_of_getElem? (i := 1) rfl)) dX2_followLastOwner_23 ?_
          refine lv_aload_n hx hb dX2_followLastOwner_25 rfl (lv_at hl 3 rfl) ?_
          refine va_get (ci := 2) (v := .ref a0_n) (C := RX2) (T := TX2) (N := 3) hx hb hts iu_X2 hown hK.1 hP 0 rfl rfl 1 (by decide) (hts (.fieldLink RX2 18 "SheetMarks$Marks" "no" "LSheetMarks$Ticks;") (List.mem_of_getElem? (i := 2) rfl)) (fun _ h9 => h9) rfl dX2_followLastOwner_26 ?_
          refine lv_iload hx hb dX2_followLastOwner_29 (lv_at hl 0 rfl) ?_
          obtain ⟨r_31, q_31, h⟩ := ob1_e h
          refine cRV (wc := wX4 ck a0_n a0_n_sets a0_n_coming a0_n_origins c_n_sets c_n_coming c_n_origins c_n_round) ⟨hx, hb, hml, hown, hts⟩ hK hP [5, 6, 7, 8] rfl (c_X4_of l dC dI ck a0_n a0_n_sets a0_n_coming a0_n_origins c_n_sets c_n_coming c_n_origins c_n_round v4_L7 r_31 q_31) (cwV 1 hts gX2_followLastOwner_X4_of rfl rfl rfl (by decide +kernel) ⟨Nat.le_of_ble_eq_true rfl, Nat.le_of_ble_eq_true rfl⟩) 5 rfl rfl rfl hl.1 rfl (Nat.le_of_ble_eq_true rfl) dX2_followLastOwner_31 ⟨Nat.zero_le _, Nat.zero_le _⟩ ?_
          refine lv_iconst (v := (-1 : Int32)) hx hb dX2_followLastOwner_34 rfl ?_
          refine lv_ixor hx hb dX2_followLastOwner_35 ?_
          refine lv_iand hx hb dX2_followLastOwner_36 ?_
          refine lv_topi (fun v5_37 e_37 => ?_)
          have h := lt'_e e_37 h
          refine lv_istore (lv' := [(5, .int v5_37), (4, .int v4_L7), (3, .int v3_L7), (2, .int v2_L7), (0, .ref a0), (1, .ref b1)]) hx hb dX2_followLastOwner_37 hl (by decide) rfl (fun ls hl => ?_)
          refine lv_iload_n hx hb dX2_followLastOwner_39 rfl (lv_at hl 2 rfl) ?_
          refine lv_iload_n hx hb dX2_followLastOwner_40 rfl (lv_at hl 3 rfl) ?_
          refine lv_iload hx hb dX2_followLastOwner_41 (lv_at hl 0 rfl) ?_
          refine lv_iand hx hb dX2_followLastOwner_43 ?_
          refine lv_ior hx hb dX2_followLastOwner_44 ?_
          refine lv_topi (fun v3_45 e_45 => ?_)
          have h := lt'_e e_45 h
          refine lv_istore_n (lv' := [(3, .int v3_45), (5, .int v5_37), (4, .int v4_L7), (2, .int v2_L7), (0, .ref a0), (1, .ref b1)]) hx hb dX2_followLastOwner_45 rfl hl (by decide) rfl (fun ls hl => ?_)
          refine lv_iload_n hx hb dX2_followLastOwner_46 rfl (lv_at hl 3 rfl) ?_
          refine lv_iload hx hb dX2_followLastOwner_47 (lv_at hl 1 rfl) ?_
          refine lv_ior hx hb dX2_followLastOwner_49 ?_
          refine lv_topi (fun v2_50 e_50 => ?_)
          have h := lt'_e e_50 h
          refine lv_istore_n (lv' := [(2, .int v2_50), (3, .int v3_45), (5, .int v5_37), (4, .int v4_L7), (0, .ref a0), (1, .ref b1)]) hx hb dX2_followLastOwner_50 rfl hl (by decide) rfl (fun ls hl => ?_)
          refine lv_iinc (v := (v4_L7 + (1 : Int32))) (lv' := [(4, .int (v4_L7 + (1 : Int32))), (2, .int v2_50), (3, .int v3_45), (5, .int v5_37), (0, .ref a0), (1, .ref b1)]) hx hb dX2_followLastOwner_51 hl (k := 3) rfl rfl (by decide) rfl (fun ls hl => ?_)
          refine lv_goto (tgt := 7) hx hb dX2_followLastOwner_54 (by decide) ?_
          exact ih7 _ _ _ h _ _ hP hD hS _ (lv_sub hl [0, 2, 1, 4, 5] rfl)
  exact hL7 _ _ _ _ h _ _ hP hD hS _ (lv_sub hl [0, 1, 2, 3, 4] rfl)
noncomputable def f_X2_followHands_L2 (c_y_sets : Nat → Int32) (c_y_round : Int32) (c_n_sets : Nat → Int32) (c_n_round : Int32) (p1_players : Int32) (rec2 : Int32 → (Nat → Int32) → (Nat → Int32) → (Nat → Int32) → (Nat → Int32) → Option ((Nat → Int32) × (Nat → Int32) × (Nat → Int32) × (Nat → Int32))) (v2_L2 : Int32) (c_y_coming_L2 : Nat → Int32) (c_y_origins_L2 : Nat → Int32) (c_n_coming_L2 : Nat → Int32) (c_n_origins_L2 : Nat → Int32) : Option ((Nat → Int32) × (Nat → Int32) × (Nat → Int32) × (Nat → Int32)) :=
  if (8 : Int32) ≤ v2_L2 then (some (c_y_coming_L2, c_y_origins_L2, c_n_coming_L2, c_n_origins_L2)) else (ob1 (f_X0_hasHand p1_players v2_L2) (fun (r_10 : Int32) => if r_10 = (0 : Int32) then (rec2 (v2_L2 + (1 : Int32)) c_y_coming_L2 c_y_origins_L2 c_n_coming_L2 c_n_origins_L2) else (ob1 (f_X0_ownerOfHand v2_L2) (fun (r_17 : Int32) => ob1 (f_X0_cardsForHand v2_L2) (fun (r_22 : Int32) => ob1 (f_X0_sizeOfHand p1_players v2_L2) (fun (r_29 : Int32) => ob1 (f_X4_of c_y_sets r_17) (fun (r_41 : Int32) => lt' (r_22 &&& r_41) (fun v6_45 : Int32 => ob1 (f_X4_of c_n_sets r_17) (fun (r_54 : Int32) => lt' (r_22 &&& (r_54 ^^^ (-1 : Int32))) (fun v7_60 : Int32 => ob1 (f_J6_bitCount_0f7a4 v6_45) (fun (r_64 : Int32) => if r_64 < r_29 then (ob1 (f_J6_bitCount_0f7a4 v7_60) (fun (r_90 : Int32) => if r_29 < r_90 then (rec2 (v2_L2 + (1 : Int32)) c_y_coming_L2 c_y_origins_L2 c_n_coming_L2 c_n_origins_L2) else (ob2 (f_X4_add c_y_sets c_y_coming_L2 c_y_origins_L2 c_y_round r_17 v7_60 (5 : Int32)) (fun (c_y_coming_106 : Nat → Int32) (c_y_origins_106 : Nat → Int32) => rec2 (v2_L2 + (1 : Int32)) c_y_coming_106 c_y_origins_106 c_n_coming_L2 c_n_origins_L2)))) else (ob2 (f_X4_add c_n_sets c_n_coming_L2 c_n_origins_L2 c_n_round r_17 (r_22 &&& (v6_45 ^^^ (-1 : Int32))) (4 : Int32)) (fun (c_n_coming_85 : Nat → Int32) (c_n_origins_85 : Nat → Int32) => ob1 (f_J6_bitCount_0f7a4 v7_60) (fun (r_90 : Int32) => if r_29 < r_90 then (rec2 (v2_L2 + (1 : Int32)) c_y_coming_L2 c_y_origins_L2 c_n_coming_85 c_n_origins_85) else (ob2 (f_X4_add c_y_sets c_y_coming_L2 c_y_origins_L2 c_y_round r_17 v7_60 (5 : Int32)) (fun (c_y_coming_106 : Nat → Int32) (c_y_origins_106 : Nat → Int32) => rec2 (v2_L2 + (1 : Int32)) c_y_coming_106 c_y_origins_106 c_n_coming_85 c_n_origins_85))))))))))))))))
noncomputable def f_X2_followHands (c_y_sets : Nat → Int32) (c_y_coming : Nat → Int32) (c_y_origins : Nat → Int32) (c_y_round : Int32) (c_n_sets : Nat → Int32) (c_n_coming : Nat → Int32) (c_n_origins : Nat → Int32) (c_n_round : Int32) (p1_players : Int32) : Option ((Nat → Int32) × (Nat → Int32) × (Nat → Int32) × (Nat → Int32)) :=
  lo5 (f_X2_followHands_L2 c_y_sets c_y_round c_n_sets c_n_round p1_players) FU (0 : Int32) c_y_coming c_y_origins c_n_coming c_n_origins
set_option maxHeartbeats 4000000 in
set_option maxRecDepth 100000 in
theorem c_X2_followHands (l : Launch) (dC : Nat → ClassId) (dI : Nat → Nat → Nat) (ck : Nat → ClassId) (a0 a0_y a0_y_sets a0_y_coming a0_y_origins a0_n a0_n_sets a0_n_coming a0_n_origins b1 b1_kinds b1_owners b1_cards : Nat) (c_y_sets : Nat → Int32) (c_y_coming : Nat → Int32) (c_y_origins : Nat → Int32) (c_y_round : Int32) (c_n_sets : Nat → Int32) (c_n_coming : Nat → Int32) (c_n_origins : Nat → Int32) (c_n_round : Int32) (c_rounds : Int32) (p1_players : Int32) (p1_told : Int32) (p1_kinds : Nat → Int32) (p1_owners : Nat → Int32) (p1_cards : Nat → Int32) (o0 : Nat → Int32) (o1 : Nat → Int32) (o2 : Nat → Int32) (o3 : Nat → Int32) (h : f_X2_followHands c_y_sets c_y_coming c_y_origins c_y_round c_n_sets c_n_coming c_n_origins c_n_round p1_players = some (o0, o1, o2, o3)) : MV l yX2_followHands wsX2_followHands ({ frames := 2, cells := 0, slots := 0, locals := 46 }) [.ref a0, .ref b1] (dC, dI) ck (wX2 ck a0 a0_y a0_y_sets a0_y_coming a0_y_origins a0_n a0_n_sets a0_n_coming a0_n_origins c_y_sets c_y_coming c_y_origins c_y_round c_n_sets c_n_coming c_n_origins c_n_round c_rounds ++ wX0 ck b1 b1_kinds b1_owners b1_cards p1_players p1_told p1_kinds p1_owners p1_cards) (wX2 ck a0 a0_y a0_y_sets a0_y_coming a0_y_origins a0_n a0_n_sets a0_n_coming a0_n_origins c_y_sets o0 o1 c_y_round c_n_sets o2 o3 c_n_round c_rounds ++ wX0 ck b1 b1_kinds b1_owners b1_cards p1_players p1_told p1_kinds p1_owners p1_cards) := by
  refine MV.ofW (cc := cX2_followHands) (maxL := 8) (ret := none) (by decide +kernel) rfl (Nat.le_of_ble_eq_true rfl) ?_
  intro p e s m below meth c hx hb hr hml hts hown hlk hK hP A hA hD ls hl
  have hS : va_S A s.heap s.heap [] := va_S.rf
  have hown : s.vm.findClass RX2 = some m.cls := hown
  have hl : lv_has ls 8 [(0, .ref a0), (1, .ref b1)] := hl
  have iu_X2 : ∀ w ∈ u_ws RX2 TX2 3, w ∈ wsX2_followHands := fun w h => List.mem_cons_of_mem _ (List.mem_append_left _ (List.mem_append_left _ (List.mem_append_right _ h)))
  unfold f_X2_followHands at h
  refine lv_iconst (v := (0 : Int32)) hx hb dX2_followHands_0 rfl ?_
  refine lv_istore_n (lv' := [(2, .int (0 : Int32)), (0, .ref a0), (1, .ref b1)]) hx hb dX2_followHands_1 rfl hl (by decide) rfl (fun ls hl => ?_)
  have hL2 : ∀ (n2 : Nat) (v2_L2 : Int32) (c_y_coming_L2 : Nat → Int32) (c_y_origins_L2 : Nat → Int32) (c_n_coming_L2 : Nat → Int32) (c_n_origins_L2 : Nat → Int32), lo5 (f_X2_followHands_L2 c_y_sets c_y_round c_n_sets c_n_round p1_players) n2 v2_L2 c_y_coming_L2 c_y_origins_L2 c_n_coming_L2 c_n_origins_L2 = some (o0, o1, o2, o3) → ∀ (H : Heap) (locs : List Loc), va_P (dC, dI) vwCl (wX2 ck a0 a0_y a0_y_sets a0_y_coming a0_y_origins a0_n a0_n_sets a0_n_coming a0_n_origins c_y_sets c_y_coming_L2 c_y_origins_L2 c_y_round c_n_sets c_n_coming_L2 c_n_origins_L2 c_n_round c_rounds ++ wX0 ck b1 b1_kinds b1_owners b1_cards p1_players p1_told p1_kinds p1_owners p1_cards) H → va_D A (wX2 ck a0 a0_y a0_y_sets a0_y_coming a0_y_origins a0_n a0_n_sets a0_n_coming a0_n_origins c_y_sets c_y_coming_L2 c_y_origins_L2 c_y_round c_n_sets c_n_coming_L2 c_n_origins_L2 c_n_round c_rounds ++ wX0 ck b1 b1_kinds b1_owners b1_cards p1_players p1_told p1_kinds p1_owners p1_cards) → va_S A s.heap H locs → ∀ ls : Array Slot, lv_has ls 8 [(2, .int v2_L2), (0, .ref a0), (1, .ref b1)] → W p l e (headSpec wsX2_followHands ({ frames := 2, cells := 0, slots := 0, locals := 46 })).room s m [.ref a0, .ref b1].toArray below meth c H locs 0 0 (MQ below (QV (dC, dI) (wX2 ck a0 a0_y a0_y_sets a0_y_coming a0_y_origins a0_n a0_n_sets a0_n_coming a0_n_origins c_y_sets o0 o1 c_y_round c_n_sets o2 o3 c_n_round c_rounds ++ wX0 ck b1 b1_kinds b1_owners b1_cards p1_players p1_told p1_kinds p1_owners p1_cards) A) [.ref a0, .ref b1].toArray s 0 0 A) (F0 m 2 ls []) := by
    intro n2
    induction n2 with
    | zero => intro v2_L2 c_y_coming_L2 c_y_origins_L2 c_n_coming_L2 c_n_origins_L2 h; exact lo5_z h
    | succ n2 ih2 =>
      intro v2_L2 c_y_coming_L2 c_y_origins_L2 c_n_coming_L2 c_n_origins_L2 h H locs hP hD hS ls hl
      have h := lo5_s h
      unfold f_X2_followHands_L2 at h
      refine lv_iload_n hx hb dX2_followHands_2 rfl (lv_at hl 0 rfl) ?_
      refine lv_bipush (v := (8 : Int32)) hx hb dX2_followHands_3 rfl ?_
      refine lv_icmp_ge (tgt := 115) hx hb dX2_followHands_5 (by decide) (fun c_5 => ?_) (fun c_5 => ?_)
      · have h := if_t h c_5
        cases h
        exact eMv hx hb hr hlk hP hD hS dX2_followHands_115
      · have h := if_f h c_5
        refine lv_aload_n hx hb dX2_followHands_8 rfl (lv_at hl 2 rfl) ?_
        refine lv_iload_n hx hb dX2_followHands_9 rfl (lv_at hl 0 rfl) ?_
        obtain ⟨r_10, q_10, h⟩ := ob1_e h
        refine cRV (wc := wX0 ck b1 b1_kinds b1_owners b1_cards p1_players p1_told p1_kinds p1_owners p1_cards) ⟨hx, hb, hml, hown, hts⟩ hK hP [9, 10, 11, 12] rfl (c_X0_hasHand l dC dI ck b1 b1_kinds b1_owners b1_cards p1_players p1_told p1_kinds p1_owners p1_cards v2_L2 r_10 q_10) (cwV 1 hts gX2_followHands_X0_hasHand rfl rfl rfl (by decide +kernel) ⟨Nat.le_of_ble_eq_true rfl, Nat.le_of_ble_eq_true rfl⟩) 9 rfl rfl rfl hl.1 rfl (Nat.le_of_ble_eq_true rfl) dX2_followHands_10 ⟨Nat.zero_le _, Nat.zero_le _⟩ ?_
        refine lv_if_eq (tgt := 109) hx hb dX2_followHands_13 (by decide) (fun c_13 => ?_) (fun c_13 => ?_)
        · have h := if_t h c_13
          refine lv_iinc (v := (v2_L2 + (1 : Int32))) (lv' := [(2, .int (v2_L2 + (1 : Int32))), (0, .ref a0), (1, .ref b1)]) hx hb dX2_followHands_109 hl (k := 0) rfl rfl (by decide) rfl (fun ls hl => ?_)
          refine lv_goto (tgt := 2) hx hb dX2_followHands_112 (by decide) ?_
          exact ih2 _ _ _ _ _ h _ _ hP hD hS _ (lv_sub hl [0, 1, 2] rfl)
        · have h := if_f h c_13
          refine lv_iload_n hx hb dX2_followHands_16 rfl (lv_at hl 0 rfl) ?_
          obtain ⟨r_17, q_17, h⟩ := ob1_e h
          refine cRS (wc := []) ⟨hx, hb, hml, hown, hts⟩ hK hP [] rfl (c_X0_ownerOfHand l dC dI ck v2_L2 r_17 q_17) (va_cwS 1 hts gX2_followHands_X0_ownerOfHand rfl rfl rfl (by decide +kernel) ⟨Nat.le_of_ble_eq_true rfl, Nat.le_of_ble_eq_true rfl⟩) rfl hl.1 rfl (Nat.le_of_ble_eq_true rfl) dX2_followHands_17 ⟨Nat.zero_le _, Nat.zero_le _⟩ ?_
          refine lv_istore_n (lv' := [(3, .int r_17), (2, .int v2_L2), (0, .ref a0), (1, .ref b1)]) hx hb dX2_followHands_20 rfl hl (by decide) rfl (fun ls hl => ?_)
          refine lv_iload_n hx hb dX2_followHands_21 rfl (lv_at hl 1 rfl) ?_
          obtain ⟨r_22, q_22, h⟩ := ob1_e h
          refine cRS (wc := []) ⟨hx, hb, hml, hown, hts⟩ hK hP [] rfl (c_X0_cardsForHand l dC dI ck v2_L2 r_22 q_22) (va_cwS 1 hts gX2_followHands_X0_cardsForHand rfl rfl rfl (by decide +kernel) ⟨Nat.le_of_ble_eq_true rfl, Nat.le_of_ble_eq_true rfl⟩) rfl hl.1 rfl (Nat.le_of_ble_eq_true rfl) dX2_followHands_22 ⟨Nat.zero_le _, Nat.zero_le _⟩ ?_
          refine lv_istore (lv' := [(4, .int r_22), (3, .int r_17), (2, .int v2_L2), (0, .ref a0), (1, .ref b1)]) hx hb dX2_followHands_25 hl (by decide) rfl (fun ls hl => ?_)
          refine lv_aload_n hx hb dX2_followHands_27 rfl (lv_at hl 4 rfl) ?_
          refine lv_iload_n hx hb dX2_followHands_28 rfl (lv_at hl 2 rfl) ?_
          obtain ⟨r_29, q_29, h⟩ := ob1_e h
          refine cRV (wc := wX0 ck b1 b1_kinds b1_owners b1_cards p1_players p1_told p1_kinds p1_owners p1_cards) ⟨hx, hb, hml, hown, hts⟩ hK hP [9, 10, 11, 12] rfl (c_X0_sizeOfHand l dC dI ck b1 b1_kinds b1_owners b1_cards p1_players p1_told p1_kinds p1_owners p1_cards v2_L2 r_29 q_29) (cwV 1 hts gX2_followHands_X0_sizeOfHand rfl rfl rfl (by decide +kernel) ⟨Nat.le_of_ble_eq_true rfl, Nat.le_of_ble_eq_true rfl⟩) 9 rfl rfl rfl hl.1 rfl (Nat.le_of_ble_eq_true rfl) dX2_followHands_29 ⟨Nat.zero_le _, Nat.zero_le _⟩ ?_
          refine lv_istore (lv' := [(5, .int r_29), (4, .int r_22), (3, .int r_17), (2, .int v2_L2), (0, .ref a0), (1, .ref b1)]) hx hb dX2_followHands_32 hl (by decide) rfl (fun ls hl => ?_)
          refine lv_iload hx hb dX2_followHands_34 (lv_at hl 1 rfl) ?_
          refine lv_aload_n hx hb dX2_followHands_36 rfl (lv_at hl 4 rfl) ?_
          refine va_get (ci := 2) (v := .ref a0_y) (C := RX2) (T := TX2) (N := 3) hx hb hts iu_X2 hown hK.1 hP 0 rfl rfl 0 (by decide) (hts (.fieldLink RX2 12 "SheetMarks$Marks" "yes" "LSheetMarks$Ticks;") (List.mem_of_getElem? (i := 1) rfl)) (fun _ h9 => h9) rfl dX2_followHands_37 ?_
          refine lv_iload_n hx hb dX2_followHands_40 rfl (lv_at hl 2 rfl) ?_
          obtain ⟨r_41, q_41, h⟩ := ob1_e h
          refine cRV (wc := wX4 ck a0_y a0_y_sets a0_y_coming a0_y_origins c_y_sets c_y_coming_L2 c_y_origins_L2 c_y_round) ⟨hx, hb, hml, hown, hts⟩ hK hP [1, 2, 3, 4] rfl (c_X4_of l dC dI ck a0_y a0_y_sets a0_y_coming a0_y_origins c_y_sets c_y_coming_L2 c_y_origins_L2 c_y_round r_17 r_41 q_41) (cwV 1 hts gX2_followHands_X4_of rfl rfl rfl (by decide +kernel) ⟨Nat.le_of_ble_eq_true rfl, Nat.le_of_ble_eq_true rfl⟩) 1 rfl rfl rfl hl.1 rfl (Nat.le_of_ble_eq_true rfl) dX2_followHands_41 ⟨Nat.zero_le _, Nat.zero_le _⟩ ?_
          refine lv_iand hx hb dX2_followHands_44 ?_
          refine lv_topi (fun v6_45 e_45 => ?_)
          have h := lt'_e e_45 h
          refine lv_istore (lv' := [(6, .int v6_45), (5, .int r_29), (4, .int r_22), (3, .int r_17), (2, .int v2_L2), (0, .ref a0), (1, .ref b1)]) hx hb dX2_followHands_45 hl (by decide) rfl (fun ls hl => ?_)
          refine lv_iload hx hb dX2_followHands_47 (lv_at hl 2 rfl) ?_
          refine lv_aload_n hx hb dX2_followHands_49 rfl (lv_at hl 5 rfl) ?_
          refine va_get (ci := 2) (v := .ref a0_n) (C := RX2) (T := TX2) (N := 3) hx hb hts iu_X2 hown hK.1 hP 0 rfl rfl 1 (by decide) (hts (.fieldLink RX2 18 "SheetMarks$Marks" "no" "LSheetMarks$Ticks;") (List.mem_of_getElem? (i := 2) rfl)) (fun _ h9 => h9) rfl dX2_followHands_50 ?_
          refine lv_iload_n hx hb dX2_followHands_53 rfl (lv_at hl 3 rfl) ?_
          obtain ⟨r_54, q_54, h⟩ := ob1_e h
          refine cRV (wc := wX4 ck a0_n a0_n_sets a0_n_coming a0_n_origins c_n_sets c_n_coming_L2 c_n_origins_L2 c_n_round) ⟨hx, hb, hml, hown, hts⟩ hK hP [5, 6, 7, 8] rfl (c_X4_of l dC dI ck a0_n a0_n_sets a0_n_coming a0_n_origins c_n_sets c_n_coming_L2 c_n_origins_L2 c_n_round r_17 r_54 q_54) (cwV 1 hts gX2_followHands_X4_of rfl rfl rfl (by decide +kernel) ⟨Nat.le_of_ble_eq_true rfl, Nat.le_of_ble_eq_true rfl⟩) 5 rfl rfl rfl hl.1 rfl (Nat.le_of_ble_eq_true rfl) dX2_followHands_54 ⟨Nat.zero_le _, Nat.zero_le _⟩ ?_
          refine lv_iconst (v := (-1 : Int32)) hx hb dX2_followHands_57 rfl ?_
          refine lv_ixor hx hb dX2_followHands_58 ?_
          refine lv_iand hx hb dX2_followHands_59 ?_
          refine lv_topi (fun v7_60 e_60 => ?_)
          have h := lt'_e e_60 h
          refine lv_istore (lv' := [(7, .int v7_60), (6, .int v6_45), (5, .int r_29), (4, .int r_22), (3, .int r_17), (2, .int v2_L2), (0, .ref a0), (1, .ref b1)]) hx hb dX2_followHands_60 hl (by decide) rfl (fun ls hl => ?_)
          refine lv_iload hx hb dX2_followHands_62 (lv_at hl 1 rfl) ?_
          obtain ⟨r_64, q_64, h⟩ := ob1_e h
          refine cRS (wc := []) ⟨hx, hb, hml, hown, hts⟩ hK hP [] rfl (c_J6_bitCount_0f7a4 l dC dI ck v6_45 r_64 q_64) (va_cwS 1 hts gX2_followHands_J6_bitCount_0f7a4 rfl rfl rfl (by decide +kernel) ⟨Nat.le_of_ble_eq_true rfl, Nat.le_of_ble_eq_true rfl⟩) rfl hl.1 rfl (Nat.le_of_ble_eq_true rfl) dX2_followHands_64 ⟨Nat.zero_le _, Nat.zero_le _⟩ ?_
          refine lv_iload hx hb dX2_followHands_67 (lv_at hl 2 rfl) ?_
          refine lv_icmp_lt (tgt := 88) hx hb dX2_followHands_69 (by decide) (fun c_69 => ?_) (fun c_69 => ?_)
          · have h := if_t h c_69
            refine lv_iload hx hb dX2_followHands_88 (lv_at hl 0 rfl) ?_
            obtain ⟨r_90, q_90, h⟩ := ob1_e h
            refine cRS (wc := []) ⟨hx, hb, hml, hown, hts⟩ hK hP [] rfl (c_J6_bitCount_0f7a4 l dC dI ck v7_60 r_90 q_90) (va_cwS 1 hts gX2_followHands_J6_bitCount_0f7a4 rfl rfl rfl (by decide +kernel) ⟨Nat.le_of_ble_eq_true rfl, Nat.le_of_ble_eq_true rfl⟩) rfl hl.1 rfl (Nat.le_of_ble_eq_true rfl) dX2_followHands_90 ⟨Nat.zero_le _, Nat.zero_le _⟩ ?_
            refine lv_iload hx hb dX2_followHands_93 (lv_at hl 2 rfl) ?_
            refine lv_icmp_gt (tgt := 109) hx hb dX2_followHands_95 (by decide) (fun c_95 => ?_) (fun c_95 => ?_)
            · have h := if_t h c_95
              refine lv_iinc (v := (v2_L2 + (1 : Int32))) (lv' := [(2, .int (v2_L2 + (1 : Int32))), (7, .int v7_60), (6, .int v6_45), (5, .int r_29), (4, .int r_22), (3, .int r_17), (0, .ref a0), (1, .ref b1)]) hx hb dX2_followHands_109 hl (k := 5) rfl rfl (by decide) rfl (fun ls hl => ?_)
              refine lv_goto (tgt := 2) hx hb dX2_followHands_112 (by decide) ?_
              exact ih2 _ _ _ _ _ h _ _ hP hD hS _ (lv_sub hl [0, 6, 7] rfl)
            · have h := if_f h c_95
              refine lv_aload_n hx hb dX2_followHands_98 rfl (lv_at hl 6 rfl) ?_
              refine va_get (ci := 2) (v := .ref a0_y) (C := RX2) (T := TX2) (N := 3) hx hb hts iu_X2 hown hK.1 hP 0 rfl rfl 0 (by decide) (hts (.fieldLink RX2 12 "SheetMarks$Marks" "yes" "LSheetMarks$Ticks;") (List.mem_of_getElem? (i := 1) rfl)) (fun _ h9 => h9) rfl dX2_followHands_99 ?_
              refine lv_iload_n hx hb dX2_followHands_102 rfl (lv_at hl 4 rfl) ?_
              refine lv_iload hx hb dX2_followHands_103 (lv_at hl 0 rfl) ?_
              refine lv_iconst (v := (5 : Int32)) hx hb dX2_followHands_105 rfl ?_
              obtain ⟨c_y_coming_106, c_y_origins_106, q_106, h⟩ := ob2_e h
              refine cMV (wc := wX4 ck a0_y a0_y_sets a0_y_coming a0_y_origins c_y_sets c_y_coming_L2 c_y_origins_L2 c_y_round) (wr := [(a0, .inr (2, [.ref a0_y, .ref a0_n, .int c_rounds]))] ++ wX4 ck a0_n a0_n_sets a0_n_coming a0_n_origins c_n_sets c_n_coming_L2 c_n_origins_L2 c_n_round ++ wX0 ck b1 b1_kinds b1_owners b1_cards p1_players p1_told p1_kinds p1_owners p1_cards) (w1 := wX4 ck a0_y a0_y_sets a0_y_coming a0_y_origins c_y_sets c_y_coming_106 c_y_origins_106 c_y_round) (wn := wX2 ck a0 a0_y a0_y_sets a0_y_coming a0_y_origins a0_n a0_n_sets a0_n_coming a0_n_origins c_y_sets c_y_coming_106 c_y_origins_106 c_y_round c_n_sets c_n_coming_L2 c_n_origins_L2 c_n_round c_rounds ++ wX0 ck b1 b1_kinds b1_owners b1_cards p1_players p1_told p1_kinds p1_owners p1_cards) ⟨hx, hb, hml, hown, hts⟩ hK hP hD hS hA [1, 2, 3, 4] [0, 5, 6, 7, 8, 9, 10, 11, 12] [0, 9, 10, 11, 12, 1, 2, 3, 4, 5, 6, 7, 8] rfl (by decide) rfl (by decide) (by decide) rfl (by decide) (c_X4_add l dC dI ck a0_y a0_y_sets a0_y_coming a0_y_origins c_y_sets c_y_coming_L2 c_y_origins_L2 c_y_round r_17 v7_60 (5 : Int32) c_y_coming_106 c_y_origins_106 q_106) (cwV 3 hts gX2_followHands_X4_add rfl rfl rfl (by decide +kernel) ⟨Nat.le_of_ble_eq_true rfl, Nat.le_of_ble_eq_true rfl⟩) 1 rfl rfl rfl hl.1 rfl (Nat.le_of_ble_eq_true rfl) dX2_followHands_106 ⟨Nat.zero_le _, Nat.zero_le _⟩ (fun H locs hP hD hS => ?_)
              refine lv_iinc (v := (v2_L2 + (1 : Int32))) (lv' := [(2, .int (v2_L2 + (1 : Int32))), (7, .int v7_60), (6, .int v6_45), (5, .int r_29), (4, .int r_22), (3, .int r_17), (0, .ref a0), (1, .ref b1)]) hx hb dX2_followHands_109 hl (k := 5) rfl rfl (by decide) rfl (fun ls hl => ?_)
              refine lv_goto (tgt := 2) hx hb dX2_followHands_112 (by decide) ?_
              exact ih2 _ _ _ _ _ h _ _ hP hD hS _ (lv_sub hl [0, 6, 7] rfl)
          · have h := if_f h c_69
            refine lv_aload_n hx hb dX2_followHands_72 rfl (lv_at hl 6 rfl) ?_
            refine va_get (ci := 2) (v := .ref a0_n) (C := RX2) (T := TX2) (N := 3) hx hb hts iu_X2 hown hK.1 hP 0 rfl rfl 1 (by decide) (hts (.fieldLink RX2 18 "SheetMarks$Marks" "no" "LSheetMarks$Ticks;") (List.mem_of_getElem? (i := 2) rfl)) (fun _ h9 => h9) rfl dX2_followHands_73 ?_
            refine lv_iload_n hx hb dX2_followHands_76 rfl (lv_at hl 4 rfl) ?_
            refine lv_iload hx hb dX2_followHands_77 (lv_at hl 3 rfl) ?_
            refine lv_iload hx hb dX2_followHands_79 (lv_at hl 1 rfl) ?_
            refine lv_iconst (v := (-1 : Int32)) hx hb dX2_followHands_81 rfl ?_
            refine lv_ixor hx hb dX2_followHands_82 ?_
            refine lv_iand hx hb dX2_followHands_83 ?_
            refine lv_iconst (v := (4 : Int32)) hx hb dX2_followHands_84 rfl ?_
            obtain ⟨c_n_coming_85, c_n_origins_85, q_85, h⟩ := ob2_e h
            refine cMV (wc := wX4 ck a0_n a0_n_sets a0_n_coming a0_n_origins c_n_sets c_n_coming_L2 c_n_origins_L2 c_n_round) (wr := [(a0, .inr (2, [.ref a0_y, .ref a0_n, .int c_rounds]))] ++ wX4 ck a0_y a0_y_sets a0_y_coming a0_y_origins c_y_sets c_y_coming_L2 c_y_origins_L2 c_y_round ++ wX0 ck b1 b1_kinds b1_owners b1_cards p1_players p1_told p1_kinds p1_owners p1_cards) (w1 := wX4 ck a0_n a0_n_sets a0_n_coming a0_n_origins c_n_sets c_n_coming_85 c_n_origins_85 c_n_round) (wn := wX2 ck a0 a0_y a0_y_sets a0_y_coming a0_y_origins a0_n a0_n_sets a0_n_coming a0_n_origins c_y_sets c_y_coming_L2 c_y_origins_L2 c_y_round c_n_sets c_n_coming_85 c_n_origins_85 c_n_round c_rounds ++ wX0 ck b1 b1_kinds b1_owners b1_cards p1_players p1_told p1_kinds p1_owners p1_cards) ⟨hx, hb, hml, hown, hts⟩ hK hP hD hS hA [5, 6, 7, 8] [0, 1, 2, 3, 4, 9, 10, 11, 12] [0, 1, 2, 3, 4, 9, 10, 11, 12, 5, 6, 7, 8] rfl (by decide) rfl (by decide) (by decide) rfl (by decide) (c_X4_add l dC dI ck a0_n a0_n_sets a0_n_coming a0_n_origins c_n_sets c_n_coming_L2 c_n_origins_L2 c_n_round r_17 (r_22 &&& (v6_45 ^^^ (-1 : Int32))) (4 : Int32) c_n_coming_85 c_n_origins_85 q_85) (cwV 3 hts gX2_followHands_X4_add rfl rfl rfl (by decide +kernel) ⟨Nat.le_of_ble_eq_true rfl, Nat.le_of_ble_eq_true rfl⟩) 5 rfl rfl rfl hl.1 rfl (Nat.le_of_ble_eq_true rfl) dX2_followHands_85 ⟨Nat.zero_le _, Nat.zero_le _⟩ (fun H locs hP hD hS => ?_)
            refine lv_iload hx hb dX2_followHands_88 (lv_at hl 0 rfl) ?_
            obtain ⟨r_90, q_90, h⟩ := ob1_e h
            refine cRS (wc := []) ⟨hx, hb, hml, hown, hts⟩ hK hP [] rfl (c_J6_bitCount_0f7a4 l dC dI ck v7_60 r_90 q_90) (va_cwS 1 hts gX2_followHands_J6_bitCount_0f7a4 rfl rfl rfl (by decide +kernel) ⟨Nat.le_of_ble_eq_true rfl, Nat.le_of_ble_eq_true rfl⟩) rfl hl.1 rfl (Nat.le_of_ble_eq_true rfl) dX2_followHands_90 ⟨Nat.zero_le _, Nat.zero_le _⟩ ?_
            refine lv_iload hx hb dX2_followHands_93 (lv_at hl 2 rfl) ?_
            refine lv_icmp_gt (tgt := 109) hx hb dX2_followHands_95 (by decide) (fun c_95 => ?_) (fun c_95 => ?_)
            · have h := if_t h c_95
              refine lv_iinc (v := (v2_L2 + (1 : Int32))) (lv' := [(2, .int (v2_L2 + (1 : Int32))), (7, .int v7_60), (6, .int v6_45), (5, .int r_29), (4, .int r_22), (3, .int r_17), (0, .ref a0), (1, .ref b1)]) hx hb dX2_followHands_109 hl (k := 5) rfl rfl (by decide) rfl (fun ls hl => ?_)
              refine lv_goto (tgt := 2) hx hb dX2_followHands_112 (by decide) ?_
              exact ih2 _ _ _ _ _ h _ _ hP hD hS _ (lv_sub hl [0, 6, 7] rfl)
            · have h := if_f h c_95
              refine lv_aload_n hx hb dX2_followHands_98 rfl (lv_at hl 6 rfl) ?_
              refine va_get (ci := 2) (v := .ref a0_y) (C := RX2) (T := TX2) (N := 3) hx hb hts iu_X2 hown hK.1 hP 0 rfl rfl 0 (by decide) (hts (.fieldLink RX2 12 "SheetMarks$Marks" "yes" "LSheetMarks$Ticks;") (List.mem_of_getElem? (i := 1) rfl)) (fun _ h9 => h9) rfl dX2_followHands_99 ?_
              refine lv_iload_n hx hb dX2_followHands_102 rfl (lv_at hl 4 rfl) ?_
              refine lv_iload hx hb dX2_followHands_103 (lv_at hl 0 rfl) ?_
              refine lv_iconst (v := (5 : Int32)) hx hb dX2_followHands_105 rfl ?_
              obtain ⟨c_y_coming_106, c_y_origins_106, q_106, h⟩ := ob2_e h
              refine cMV (wc := wX4 ck a0_y a0_y_sets a0_y_coming a0_y_origins c_y_sets c_y_coming_L2 c_y_origins_L2 c_y_round) (wr := [(a0, .inr (2, [.ref a0_y, .ref a0_n, .int c_rounds]))] ++ wX4 ck a0_n a0_n_sets a0_n_coming a0_n_origins c_n_sets c_n_coming_85 c_n_origins_85 c_n_round ++ wX0 ck b1 b1_kinds b1_owners b1_cards p1_players p1_told p1_kinds p1_owners p1_cards) (w1 := wX4 ck a0_y a0_y_sets a0_y_coming a0_y_origins c_y_sets c_y_coming_106 c_y_origins_106 c_y_round) (wn := wX2 ck a0 a0_y a0_y_sets a0_y_coming a0_y_origins a0_n a0_n_sets a0_n_coming a0_n_origins c_y_sets c_y_coming_106 c_y_origins_106 c_y_round c_n_sets c_n_coming_85 c_n_origins_85 c_n_round c_rounds ++ wX0 ck b1 b1_kinds b1_owners b1_cards p1_players p1_told p1_kinds p1_owners p1_cards) ⟨hx, hb, hml, hown, hts⟩ hK hP hD hS hA [1, 2, 3, 4] [0, 5, 6, 7, 8, 9, 10, 11, 12] [0, 9, 10, 11, 12, 1, 2, 3, 4, 5, 6, 7, 8] rfl (by decide) rfl (by decide) (by decide) rfl (by decide) (c_X4_add l dC dI ck a0_y a0_y_sets a0_y_coming a0_y_origins c_y_sets c_y_coming_L2 c_y_origins_L2 c_y_round r_17 v7_60 (5 : Int32) c_y_coming_106 c_y_origins_106 q_106) (cwV 3 hts gX2_followHands_X4_add rfl rfl rfl (by decide +kernel) ⟨Nat.le_of_ble_eq_true rfl, Nat.le_of_ble_eq_true rfl⟩) 1 rfl rfl rfl hl.1 rfl (Nat.le_of_ble_eq_true rfl) dX2_followHands_106 ⟨Nat.zero_le _, Nat.zero_le _⟩ (fun H locs hP hD hS => ?_)
              refine lv_iinc (v := (v2_L2 + (1 : Int32))) (lv' := [(2, .int (v2_L2 + (1 : Int32))), (7, .int v7_60), (6, .int v6_45), (5, .int r_29), (4, .int r_22), (3, .int r_17), (0, .ref a0), (1, .ref b1)]) hx hb dX2_followHands_109 hl (k := 5) rfl rfl (by decide) rfl (fun ls hl => ?_)
              refine lv_goto (tgt := 2) hx hb dX2_followHands_112 (by decide) ?_
              exact ih2 _ _ _ _ _ h _ _ hP hD hS _ (lv_sub hl [0, 6, 7] rfl)
  exact hL2 _ _ _ _ _ _ h _ _ hP hD hS _ (lv_sub hl [0, 1, 2] rfl)
noncomputable def f_X2_leftOfThree (c_y_sets : Nat → Int32) (c_n_sets : Nat → Int32) (p1_kinds : Nat → Int32) (p1_owners : Nat → Int32) (p1_cards : Nat → Int32) (v2 : Int32) : Option (Int32) :=
  gd v2 41 (if (p1_kinds v2.toNatClampNeg) = (3 : Int32) then (gd v2 41 (gd v2 41 (ob1 (f_X4_of c_y_sets (p1_owners v2.toNatClampNeg)) (fun (r_35 : Int32) => some ((p1_cards v2.toNatClampNeg) &&& (r_35 ^^^ (-1 : Int32))))))) else (gd v2 41 (gd v2 41 (ob1 (f_X4_of c_n_sets (p1_owners v2.toNatClampNeg)) (fun (r_35 : Int32) => some ((p1_cards v2.toNatClampNeg) &&& (r_35 ^^^ (-1 : Int32))))))))
set_option maxHeartbeats 4000000 in
set_option maxRecDepth 100000 in
theorem c_X2_leftOfThree (l : Launch) (dC : Nat → ClassId) (dI : Nat → Nat → Nat) (ck : Nat → ClassId) (a0 a0_y a0_y_sets a0_y_coming a0_y_origins a0_n a0_n_sets a0_n_coming a0_n_origins b1 b1_kinds b1_owners b1_cards : Nat) (c_y_sets : Nat → Int32) (c_y_coming : Nat → Int32) (c_y_origins : Nat → Int32) (c_y_round : Int32) (c_n_sets : Nat → Int32) (c_n_coming : Nat → Int32) (c_n_origins : Nat → Int32) (c_n_round : Int32) (c_rounds : Int32) (p1_players : Int32) (p1_told : Int32) (p1_kinds : Nat → Int32) (p1_owners : Nat → Int32) (p1_cards : Nat → Int32) (v2 : Int32) (o0 : Int32) (h : f_X2_leftOfThree c_y_sets c_n_sets p1_kinds p1_owners p1_cards v2 = some o0) : RD l yX2_leftOfThree wsX2_leftOfThree ({ frames := 1, cells := 0, slots := 0, locals := 21 }) [.ref a0, .ref b1, .int v2] (dC, dI) ck (wX2 ck a0 a0_y a0_y_sets a0_y_coming a0_y_origins a0_n a0_n_sets a0_n_coming a0_n_origins c_y_sets c_y_coming c_y_origins c_y_round c_n_sets c_n_coming c_n_origins c_n_round c_rounds ++ wX0 ck b1 b1_kinds b1_owners b1_cards p1_players p1_told p1_kinds p1_owners p1_cards) o0 := by
  refine RD.ofW (cc := cX2_leftOfThree) (maxL := 4) (ret := (some .int)) (by decide +kernel) rfl (Nat.le_of_ble_eq_true rfl) ?_
  intro p e s m below meth c hx hb hr hml hts hown hlk hK hP ls hl
  have hown : s.vm.findClass RX2 = some m.cls := hown
  have hl : lv_has ls 4 [(0, .ref a0), (1, .ref b1), (2, .int v2)] := hl
  have iu_X0 : ∀ w ∈ u_ws RX0 TX0 5, w ∈ wsX2_leftOfThree := fun w h => List.mem_cons_of_mem _ (List.mem_append_left _ (List.mem_append_left _ (List.mem_append_right _ h)))
  have iu_X2 : ∀ w ∈ u_ws RX2 TX2 3, w ∈ wsX2_leftOfThree := fun w h => List.mem_cons_of_mem _ (List.mem_append_left _ (List.mem_append_right _ h))
  unfold f_X2_leftOfThree at h
  refine lv_aload_n hx hb dX2_leftOfThree_0 rfl (lv_at hl 1 rfl) ?_
  refine va_getN (ci := 0) (v := .ref b1_kinds) (C := RX0) (T := TX0) (N := 5) hx hb hts iu_X0 hown hK.1 hP 9 rfl rfl 2 (by decide) (va_Nw.use rfl (hK.2.f 3 rfl)) (fun _ h9 => h9) rfl dX2_leftOfThree_1 ?_
  refine lv_iload_n hx hb dX2_leftOfThree_4 rfl (lv_at hl 2 rfl) ?_
  obtain ⟨g_5, h⟩ := gd_e h
  refine va_iald hx hb hK.1 hP 10 0 rfl rfl g_5 dX2_leftOfThree_5 ?_
  refine lv_iconst (v := (3 : Int32)) hx hb dX2_leftOfThree_6 rfl ?_
  refine lv_icmp_ne (tgt := 17) hx hb dX2_leftOfThree_7 (by decide) (fun c_7 => ?_) (fun c_7 => ?_)
  · have h := if_f h c_7
    refine lv_aload_n hx hb dX2_leftOfThree_17 rfl (lv_at hl 0 rfl) ?_
    refine va_get (ci := 2) (v := .ref a0_n) (C := RX2) (T := TX2) (N := 3) hx hb hts iu_X2 hown hK.1 hP 0 rfl rfl 1 (by decide) (hts (.fieldLink RX2 18 "SheetMarks$Marks" "no" "LSheetMarks$Ticks;") (List.mem_of_getElem? (i := 2) rfl)) (fun _ h9 => h9) rfl dX2_leftOfThree_18 ?_
    refine lv_astore_n (lv' := [(3, .ref a0_n), (0, .ref a0), (1, .ref b1), (2, .int v2)]) hx hb dX2_leftOfThree_21 rfl hl (by decide) rfl (fun ls hl => ?_)
    refine lv_aload_n hx hb dX2_leftOfThree_22 rfl (lv_at hl 2 rfl) ?_
    refine va_getN (ci := 0) (v := .ref b1_cards) (C := RX0) (T := TX0) (N := 5) hx hb hts iu_X0 hown hK.1 hP 9 rfl rfl 4 (by decide) (va_Nw.use rfl (hK.2.f 7 rfl)) (fun _ h9 => h9) rfl dX2_leftOfThree_23 ?_
    refine lv_iload_n hx hb dX2_leftOfThree_26 rfl (lv_at hl 3 rfl) ?_
    obtain ⟨g_27, h⟩ := gd_e h
    refine va_iald hx hb hK.1 hP 12 0 rfl rfl g_27 dX2_leftOfThree_27 ?_
    refine lv_aload_n hx hb dX2_leftOfThree_28 rfl (lv_at hl 0 rfl) ?_
    refine lv_aload_n hx hb dX2_leftOfThree_29 rfl (lv_at hl 2 rfl) ?_
    refine va_getN (ci := 0) (v := .ref b1_owners) (C := RX0) (T := TX0) (N := 5) hx hb hts iu_X0 hown hK.1 hP 9 rfl rfl 3 (by decide) (va_Nw.use rfl (hK.2.f 5 rfl)) (fun _ h9 => h9) rfl dX2_leftOfThree_30 ?_
    refine lv_iload_n hx hb dX2_leftOfThree_33 rfl (lv_at hl 3 rfl) ?_
    obtain ⟨g_34, h⟩ := gd_e h
    refine va_iald hx hb hK.1 hP 11 0 rfl rfl g_34 dX2_leftOfThree_34 ?_
    obtain ⟨r_35, q_35, h⟩ := ob1_e h
    refine cRV (wc := wX4 ck a0_n a0_n_sets a0_n_coming a0_n_origins c_n_sets c_n_coming c_n_origins c_n_round) ⟨hx, hb, hml, hown, hts⟩ hK hP [5, 6, 7, 8] rfl (c_X4_of l dC dI ck a0_n a0_n_sets a0_n_coming a0_n_origins c_n_sets c_n_coming c_n_origins c_n_round (p1_owners v2.toNatClampNeg) r_35 q_35) (cwV 1 hts gX2_leftOfThree_X4_of rfl rfl rfl (by decide +kernel) ⟨Nat.le_of_ble_eq_true rfl, Nat.le_of_ble_eq_true rfl⟩) 5 rfl rfl rfl hl.1 rfl (Nat.le_of_ble_eq_true rfl) dX2_leftOfThree_35 ⟨Nat.zero_le _, Nat.zero_le _⟩ ?_
    refine lv_iconst (v := (-1 : Int32)) hx hb dX2_leftOfThree_38 rfl ?_
    refine lv_ixor hx hb dX2_leftOfThree_39 ?_
    refine lv_iand hx hb dX2_leftOfThree_40 ?_
    cases h
    exact eRi hx hb hr hlk rfl dX2_leftOfThree_41
  · have h := if_t h c_7
    refine lv_aload_n hx hb dX2_leftOfThree_10 rfl (lv_at hl 0 rfl) ?_
    refine va_get (ci := 2) (v := .ref a0_y) (C := RX2) (T := TX2) (N := 3) hx hb hts iu_X2 hown hK.1 hP 0 rfl rfl 0 (by decide) (hts (.fieldLink RX2 12 "SheetMarks$Marks" "yes" "LSheetMarks$Ticks;") (List.mem_of_getElem? (i := 1) rfl)) (fun _ h9 => h9) rfl dX2_leftOfThree_11 ?_
    refine lv_goto (tgt := 21) hx hb dX2_leftOfThree_14 (by decide) ?_
    refine lv_astore_n (lv' := [(3, .ref a0_y), (0, .ref a0), (1, .ref b1), (2, .int v2)]) hx hb dX2_leftOfThree_21 rfl hl (by decide) rfl (fun ls hl => ?_)
    refine lv_aload_n hx hb dX2_leftOfThree_22 rfl (lv_at hl 2 rfl) ?_
    refine va_getN (ci := 0) (v := .ref b1_cards) (C := RX0) (T := TX0) (N := 5) hx hb hts iu_X0 hown hK.1 hP 9 rfl rfl 4 (by decide) (va_Nw.use rfl (hK.2.f 7 rfl)) (fun _ h9 => h9) rfl dX2_leftOfThree_23 ?_
    refine lv_iload_n hx hb dX2_leftOfThree_26 rfl (lv_at hl 3 rfl) ?_
    obtain ⟨g_27, h⟩ := gd_e h
    refine va_iald hx hb hK.1 hP 12 0 rfl rfl g_27 dX2_leftOfThree_27 ?_
    refine lv_aload_n hx hb dX2_leftOfThree_28 rfl (lv_at hl 0 rfl) ?_
    refine lv_aload_n hx hb dX2_leftOfThree_29 rfl (lv_at hl 2 rfl) ?_
    refine va_getN (ci := 0) (v := .ref b1_owners) (C := RX0) (T := TX0) (N := 5) hx hb hts iu_X0 hown hK.1 hP 9 rfl rfl 3 (by decide) (va_Nw.use rfl (hK.2.f 5 rfl)) (fun _ h9 => h9) rfl dX2_leftOfThree_30 ?_
    refine lv_iload_n hx hb dX2_leftOfThree_33 rfl (lv_at hl 3 rfl) ?_
    obtain ⟨g_34, h⟩ := gd_e h
    refine va_iald hx hb hK.1 hP 11 0 rfl rfl g_34 dX2_leftOfThree_34 ?_
    obtain ⟨r_35, q_35, h⟩ := ob1_e h
    refine cRV (wc := wX4 ck a0_y a0_y_sets a0_y_coming a0_y_origins c_y_sets c_y_coming c_y_origins c_y_round) ⟨hx, hb, hml, hown, hts⟩ hK hP [1, 2, 3, 4] rfl (c_X4_of l dC dI ck a0_y a0_y_sets a0_y_coming a0_y_origins c_y_sets c_y_coming c_y_origins c_y_round (p1_owners v2.toNatClampNeg) r_35 q_35) (cwV 1 hts gX2_leftOfThree_X4_of rfl rfl rfl (by decide +kernel) ⟨Nat.le_of_ble_eq_true rfl, Nat.le_of_ble_eq_true rfl⟩) 1 rfl rfl rfl hl.1 rfl (Nat.le_of_ble_eq_true rfl) dX2_leftOfThree_35 ⟨Nat.zero_le _, Nat.zero_le _⟩ ?_
    refine lv_iconst (v := (-1 : Int32)) hx hb dX2_leftOfThree_38 rfl ?_
    refine lv_ixor hx hb dX2_leftOfThree_39 ?_
    refine lv_iand hx hb dX2_leftOfThree_40 ?_
    cases h
    exact eRi hx hb hr hlk rfl dX2_leftOfThree_41
noncomputable def f_X2_followThrees_L2 (c_y_sets : Nat → Int32) (c_y_round : Int32) (c_n_sets : Nat → Int32) (c_n_round : Int32) (p1_told : Int32) (p1_kinds : Nat → Int32) (p1_owners : Nat → Int32) (p1_cards : Nat → Int32) (rec2 : Int32 → (Nat → Int32) → (Nat → Int32) → (Nat → Int32) → (Nat → Int32) → Option ((Nat → Int32) × (Nat → Int32) × (Nat → Int32) × (Nat → Int32))) (v2_L2 : Int32) (c_y_coming_L2 : Nat → Int32) (c_y_origins_L2 : Nat → Int32) (c_n_coming_L2 : Nat → Int32) (c_n_origins_L2 : Nat → Int32) : Option ((Nat → Int32) × (Nat → Int32) × (Nat → Int32) × (Nat → Int32)) :=
  if p1_told ≤ v2_L2 then (some (c_y_coming_L2, c_y_origins_L2, c_n_coming_L2, c_n_origins_L2)) else (ob1 (f_X2_leftOfThree c_y_sets c_n_sets p1_kinds p1_owners p1_cards v2_L2) (fun (r_13 : Int32) => ob1 (f_J6_bitCount_0f7a4 r_13) (fun (r_18 : Int32) => if r_18 = (1 : Int32) then (gd v2_L2 41 (if (p1_kinds v2_L2.toNatClampNeg) = (2 : Int32) then (gd v2_L2 41 (ob2 (f_X4_add c_y_sets c_y_coming_L2 c_y_origins_L2 c_y_round (p1_owners v2_L2.toNatClampNeg) r_13 (6 : Int32)) (fun (c_y_coming_48 : Nat → Int32) (c_y_origins_48 : Nat → Int32) => rec2 (v2_L2 + (1 : Int32)) c_y_coming_48 c_y_origins_48 c_n_coming_L2 c_n_origins_L2))) else (gd v2_L2 41 (if (p1_kinds v2_L2.toNatClampNeg) = (3 : Int32) then (gd v2_L2 41 (ob2 (f_X4_add c_n_sets c_n_coming_L2 c_n_origins_L2 c_n_round (p1_owners v2_L2.toNatClampNeg) r_13 (7 : Int32)) (fun (c_n_coming_77 : Nat → Int32) (c_n_origins_77 : Nat → Int32) => rec2 (v2_L2 + (1 : Int32)) c_y_coming_L2 c_y_origins_L2 c_n_coming_77 c_n_origins_77))) else (rec2 (v2_L2 + (1 : Int32)) c_y_coming_L2 c_y_origins_L2 c_n_coming_L2 c_n_origins_L2))))) else (rec2 (v2_L2 + (1 : Int32)) c_y_coming_L2 c_y_origins_L2 c_n_coming_L2 c_n_origins_L2))))
noncomputable def f_X2_followThrees (c_y_sets : Nat → Int32) (c_y_coming : Nat → Int32) (c_y_origins : Nat → Int32) (c_y_round : Int32) (c_n_sets : Nat → Int32) (c_n_coming : Nat → Int32) (c_n_origins : Nat → Int32) (c_n_round : Int32) (p1_told : Int32) (p1_kinds : Nat → Int32) (p1_owners : Nat → Int32) (p1_cards : Nat → Int32) : Option ((Nat → Int32) × (Nat → Int32) × (Nat → Int32) × (Nat → Int32)) :=
  lo5 (f_X2_followThrees_L2 c_y_sets c_y_round c_n_sets c_n_round p1_told p1_kinds p1_owners p1_cards) FU (0 : Int32) c_y_coming c_y_origins c_n_coming c_n_origins
set_option maxHeartbeats 4000000 in
set_option maxRecDepth 100000 in
theorem c_X2_followThrees (l : Launch) (dC : Nat → ClassId) (dI : Nat → Nat → Nat) (ck : Nat → ClassId) (a0 a0_y a0_y_sets a0_y_coming a0_y_origins a0_n a0_n_sets a0_n_coming a0_n_origins b1 b1_kinds b1_owners b1_cards : Nat) (c_y_sets : Nat → Int32) (c_y_coming : Nat → Int32) (c_y_origins : Nat → Int32) (c_y_round : Int32) (c_n_sets : Nat → Int32) (c_n_coming : Nat → Int32) (c_n_origins : Nat → Int32) (c_n_round : Int32) (c_rounds : Int32) (p1_players : Int32) (p1_told : Int32) (p1_kinds : Nat → Int32) (p1_owners : Nat → Int32) (p1_cards : Nat → Int32) (o0 : Nat → Int32) (o1 : Nat → Int32) (o2 : Nat → Int32) (o3 : Nat → Int32) (h : f_X2_followThrees c_y_sets c_y_coming c_y_origins c_y_round c_n_sets c_n_coming c_n_origins c_n_round p1_told p1_kinds p1_owners p1_cards = some (o0, o1, o2, o3)) : MV l yX2_followThrees wsX2_followThrees ({ frames := 2, cells := 0, slots := 0, locals := 46 }) [.ref a0, .ref b1] (dC, dI) ck (wX2 ck a0 a0_y a0_y_sets a0_y_coming a0_y_origins a0_n a0_n_sets a0_n_coming a0_n_origins c_y_sets c_y_coming c_y_origins c_y_round c_n_sets c_n_coming c_n_origins c_n_round c_rounds ++ wX0 ck b1 b1_kinds b1_owners b1_cards p1_players p1_told p1_kinds p1_owners p1_cards) (wX2 ck a0 a0_y a0_y_sets a0_y_coming a0_y_origins a0_n a0_n_sets a0_n_coming a0_n_origins c_y_sets o0 o1 c_y_round c_n_sets o2 o3 c_n_round c_rounds ++ wX0 ck b1 b1_kinds b1_owners b1_cards p1_players p1_told p1_kinds p1_owners p1_cards) := by
  refine MV.ofW (cc := cX2_followThrees) (maxL := 4) (ret := none) (by decide +kernel) rfl (Nat.le_of_ble_eq_true rfl) ?_
  intro p e s m below meth c hx hb hr hml hts hown hlk hK hP A hA hD ls hl
  have hS : va_S A s.heap s.heap [] := va_S.rf
  have hown : s.vm.findClass RX2 = some m.cls := hown
  have hl : lv_has ls 4 [(0, .ref a0), (1, .ref b1)] := hl
  have iu_X0 : ∀ w ∈ u_ws RX0 TX0 5, w ∈ wsX2_followThrees := fun w h => List.mem_cons_of_mem _ (List.mem_append_left _ (List.mem_append_left _ (List.mem_append_right _ h)))
  have iu_X2 : ∀ w ∈ u_ws RX2 TX2 3, w ∈ wsX2_followThrees := fun w h => List.mem_cons_of_mem _ (List.mem_append_left _ (List.mem_append_right _ h))
  unfold f_X2_followThrees at h
  refine lv_iconst (v := (0 : Int32)) hx hb dX2_followThrees_0 rfl ?_
  refine lv_istore_n (lv' := [(2, .int (0 : Int32)), (0, .ref a0), (1, .ref b1)]) hx hb dX2_followThrees_1 rfl hl (by decide) rfl (fun ls hl => ?_)
  have hL2 : ∀ (n2 : Nat) (v2_L2 : Int32) (c_y_coming_L2 : Nat → Int32) (c_y_origins_L2 : Nat → Int32) (c_n_coming_L2 : Nat → Int32) (c_n_origins_L2 : Nat → Int32), lo5 (f_X2_followThrees_L2 c_y_sets c_y_round c_n_sets c_n_round p1_told p1_kinds p1_owners p1_cards) n2 v2_L2 c_y_coming_L2 c_y_origins_L2 c_n_coming_L2 c_n_origins_L2 = some (o0, o1, o2, o3) → ∀ (H : Heap) (locs : List Loc), va_P (dC, dI) vwCl (wX2 ck a0 a0_y a0_y_sets a0_y_coming a0_y_origins a0_n a0_n_sets a0_n_coming a0_n_origins c_y_sets c_y_coming_L2 c_y_origins_L2 c_y_round c_n_sets c_n_coming_L2 c_n_origins_L2 c_n_round c_rounds ++ wX0 ck b1 b1_kinds b1_owners b1_cards p1_players p1_told p1_kinds p1_owners p1_cards) H → va_D A (wX2 ck a0 a0_y a0_y_sets a0_y_coming a0_y_origins a0_n a0_n_sets a0_n_coming a0_n_origins c_y_sets c_y_coming_L2 c_y_origins_L2 c_y_round c_n_sets c_n_coming_L2 c_n_origins_L2 c_n_round c_rounds ++ wX0 ck b1 b1_kinds b1_owners b1_cards p1_players p1_told p1_kinds p1_owners p1_cards) → va_S A s.heap H locs → ∀ ls : Array Slot, lv_has ls 4 [(2, .int v2_L2), (0, .ref a0), (1, .ref b1)] → W p l e (headSpec wsX2_followThrees ({ frames := 2, cells := 0, slots := 0, locals := 46 })).room s m [.ref a0, .ref b1].toArray below meth c H locs 0 0 (MQ below (QV (dC, dI) (wX2 ck a0 a0_y a0_y_sets a0_y_coming a0_y_origins a0_n a0_n_sets a0_n_coming a0_n_origins c_y_sets o0 o1 c_y_round c_n_sets o2 o3 c_n_round c_rounds ++ wX0 ck b1 b1_kinds b1_owners b1_cards p1_players p1_told p1_kinds p1_owners p1_cards) A) [.ref a0, .ref b1].toArray s 0 0 A) (F0 m 2 ls []) := by
    intro n2
    induction n2 with
    | zero => intro v2_L2 c_y_coming_L2 c_y_origins_L2 c_n_coming_L2 c_n_origins_L2 h; exact lo5_z h
    | succ n2 ih2 =>
      intro v2_L2 c_y_coming_L2 c_y_origins_L2 c_n_coming_L2 c_n_origins_L2 h H locs hP hD hS ls hl
      have h := lo5_s h
      unfold f_X2_followThrees_L2 at h
      refine lv_iload_n hx hb dX2_followThrees_2 rfl (lv_at hl 0 rfl) ?_
      refine lv_aload_n hx hb dX2_followThrees_3 rfl (lv_at hl 2 rfl) ?_
      refine va_getN (ci := 0) (v := .int p1_told) (C := RX0) (T := TX0) (N := 5) hx hb hts iu_X0 hown hK.1 hP 9 rfl rfl 1 (by decide) (va_Nw.use rfl (hK.2.f 2 rfl)) (fun _ h9 => h9) rfl dX2_followThrees_4 ?_
      refine lv_icmp_ge (tgt := 86) hx hb dX2_followThrees_7 (by decide) (fun c_7 => ?_) (fun c_7 => ?_)
      · have h := if_t h c_7
        cases h
        exact eMv hx hb hr hlk hP hD hS dX2_followThrees_86
      · have h := if_f h c_7
        refine lv_aload_n hx hb dX2_followThrees_10 rfl (lv_at hl 1 rfl) ?_
        refine lv_aload_n hx hb dX2_followThrees_11 rfl (lv_at hl 2 rfl) ?_
        refine lv_iload_n hx hb dX2_followThrees_12 rfl (lv_at hl 0 rfl) ?_
        obtain ⟨r_13, q_13, h⟩ := ob1_e h
        refine cRV (wc := wX2 ck a0 a0_y a0_y_sets a0_y_coming a0_y_origins a0_n a0_n_sets a0_n_coming a0_n_origins c_y_sets c_y_coming_L2 c_y_origins_L2 c_y_round c_n_sets c_n_coming_L2 c_n_origins_L2 c_n_round c_rounds ++ wX0 ck b1 b1_kinds b1_owners b1_cards p1_players p1_told p1_kinds p1_owners p1_cards) ⟨hx, hb, hml, hown, hts⟩ hK hP [0, 1, 2, 3, 4, 5, 6, 7, 8, 9, 10, 11, 12] rfl (c_X2_leftOfThree l dC dI ck a0 a0_y a0_y_sets a0_y_coming a0_y_origins a0_n a0_n_sets a0_n_coming a0_n_origins b1 b1_kinds b1_owners b1_cards c_y_sets c_y_coming_L2 c_y_origins_L2 c_y_round c_n_sets c_n_coming_L2 c_n_origins_L2 c_n_round c_rounds p1_players p1_told p1_kinds p1_owners p1_cards v2_L2 r_13 q_13) (cwV 2 hts gX2_followThrees_X2_leftOfThree rfl rfl rfl (by decide +kernel) ⟨Nat.le_of_ble_eq_true rfl, Nat.le_of_ble_eq_true rfl⟩) 0 rfl rfl rfl hl.1 rfl (Nat.le_of_ble_eq_true rfl) dX2_followThrees_13 ⟨Nat.zero_le _, Nat.zero_le _⟩ ?_
        refine lv_istore_n (lv' := [(3, .int r_13), (2, .int v2_L2), (0, .ref a0), (1, .ref b1)]) hx hb dX2_followThrees_16 rfl hl (by decide) rfl (fun ls hl => ?_)
        refine lv_iload_n hx hb dX2_followThrees_17 rfl (lv_at hl 0 rfl) ?_
        obtain ⟨r_18, q_18, h⟩ := ob1_e h
        refine cRS (wc := []) ⟨hx, hb, hml, hown, hts⟩ hK hP [] rfl (c_J6_bitCount_0f7a4 l dC dI ck r_13 r_18 q_18) (va_cwS 1 hts gX2_followThrees_J6_bitCount_0f7a4 rfl rfl rfl (by decide +kernel) ⟨Nat.le_of_ble_eq_true rfl, Nat.le_of_ble_eq_true rfl⟩) rfl hl.1 rfl (Nat.le_of_ble_eq_true rfl) dX2_followThrees_18 ⟨Nat.zero_le _, Nat.zero_le _⟩ ?_
        refine lv_iconst (v := (1 : Int32)) hx hb dX2_followThrees_21 rfl ?_
        refine lv_icmp_ne (tgt := 80) hx hb dX2_followThrees_22 (by decide) (fun c_22 => ?_) (fun c_22 => ?_)
        · have h := if_f h c_22
          refine lv_iinc (v := (v2_L2 + (1 : Int32))) (lv' := [(2, .int (v2_L2 + (1 : Int32))), (3, .int r_13), (0, .ref a0), (1, .ref b1)]) hx hb dX2_followThrees_80 hl (k := 1) rfl rfl (by decide) rfl (fun ls hl => ?_)
          refine lv_goto (tgt := 2) hx hb dX2_followThrees_83 (by decide) ?_
          exact ih2 _ _ _ _ _ h _ _ hP hD hS _ (lv_sub hl [0, 2, 3] rfl)
        · have h := if_t h c_22
          refine lv_aload_n hx hb dX2_followThrees_25 rfl (lv_at hl 3 rfl) ?_
          refine va_getN (ci := 0) (v := .ref b1_kinds) (C := RX0) (T := TX0) (N := 5) hx hb hts iu_X0 hown hK.1 hP 9 rfl rfl 2 (by decide) (va_Nw.use rfl (hK.2.f 3 rfl)) (fun _ h9 => h9) rfl dX2_followThrees_26 ?_
          refine lv_iload_n hx hb dX2_followThrees_29 rfl (lv_at hl 1 rfl) ?_
          obtain ⟨g_30, h⟩ := gd_e h
          refine va_iald hx hb hK.1 hP 10 0 rfl rfl g_30 dX2_followThrees_30 ?_
          refine lv_iconst (v := (2 : Int32)) hx hb dX2_followThrees_31 rfl ?_
          refine lv_icmp_ne (tgt := 54) hx hb dX2_followThrees_32 (by decide) (fun c_32 => ?_) (fun c_32 => ?_)
          · have h := if_f h c_32
            refine lv_aload_n hx hb dX2_followThrees_54 rfl (lv_at hl 3 rfl) ?_
            refine va_getN (ci := 0) (v := .ref b1_kinds) (C := RX0) (T := TX0) (N := 5) hx hb hts iu_X0 hown hK.1 hP 9 rfl rfl 2 (by decide) (va_Nw.use rfl (hK.2.f 3 rfl)) (fun _ h9 => h9) rfl dX2_followThrees_55 ?_
            refine lv_iload_n hx hb dX2_followThrees_58 rfl (lv_at hl 1 rfl) ?_
            obtain ⟨g_59, h⟩ := gd_e h
            refine va_iald hx hb hK.1 hP 10 0 rfl rfl g_59 dX2_followThrees_59 ?_
            refine lv_iconst (v := (3 : Int32)) hx hb dX2_followThrees_60 rfl ?_
            refine lv_icmp_ne (tgt := 80) hx hb dX2_followThrees_61 (by decide) (fun c_61 => ?_) (fun c_61 => ?_)
            · have h := if_f h c_61
              refine lv_iinc (v := (v2_L2 + (1 : Int32))) (lv' := [(2, .int (v2_L2 + (1 : Int32))), (3, .int r_13), (0, .ref a0), (1, .ref b1)]) hx hb dX2_followThrees_80 hl (k := 1) rfl rfl (by decide) rfl (fun ls hl => ?_)
              refine lv_goto (tgt := 2) hx hb dX2_followThrees_83 (by decide) ?_
              exact ih2 _ _ _ _ _ h _ _ hP hD hS _ (lv_sub hl [0, 2, 3] rfl)
            · have h := if_t h c_61
              refine lv_aload_n hx hb dX2_followThrees_64 rfl (lv_at hl 2 rfl) ?_
              refine va_get (ci := 2) (v := .ref a0_n) (C := RX2) (T := TX2) (N := 3) hx hb hts iu_X2 hown hK.1 hP 0 rfl rfl 1 (by decide) (hts (.fieldLink RX2 18 "SheetMarks$Marks" "no" "LSheetMarks$Ticks;") (List.mem_of_getElem? (i := 2) rfl)) (fun _ h9 => h9) rfl dX2_followThrees_65 ?_
              refine lv_aload_n hx hb dX2_followThrees_68 rfl (lv_at hl 3 rfl) ?_
              refine va_getN (ci := 0) (v := .ref b1_owners) (C := RX0) (T := TX0) (N := 5) hx hb hts iu_X0 hown hK.1 hP 9 rfl rfl 3 (by decide) (va_Nw.use rfl (hK.2.f 5 rfl)) (fun _ h9 => h9) rfl dX2_followThrees_69 ?_
              refine lv_iload_n hx hb dX2_followThrees_72 rfl (lv_at hl 1 rfl) ?_
              obtain ⟨g_73, h⟩ := gd_e h
              refine va_iald hx hb hK.1 hP 11 0 rfl rfl g_73 dX2_followThrees_73 ?_
              refine lv_iload_n hx hb dX2_followThrees_74 rfl (lv_at hl 0 rfl) ?_
              refine lv_bipush (v := (7 : Int32)) hx hb dX2_followThrees_75 rfl ?_
              obtain ⟨c_n_coming_77, c_n_origins_77, q_77, h⟩ := ob2_e h
              refine cMV (wc := wX4 ck a0_n a0_n_sets a0_n_coming a0_n_origins c_n_sets c_n_coming_L2 c_n_origins_L2 c_n_round) (wr := [(a0, .inr (2, [.ref a0_y, .ref a0_n, .int c_rounds]))] ++ wX4 ck a0_y a0_y_sets a0_y_coming a0_y_origins c_y_sets c_y_coming_L2 c_y_origins_L2 c_y_round ++ wX0 ck b1 b1_kinds b1_owners b1_cards p1_players p1_told p1_kinds p1_owners p1_cards) (w1 := wX4 ck a0_n a0_n_sets a0_n_coming a0_n_origins c_n_sets c_n_coming_77 c_n_origins_77 c_n_round) (wn := wX2 ck a0 a0_y a0_y_sets a0_y_coming a0_y_origins a0_n a0_n_sets a0_n_coming a0_n_origins c_y_sets c_y_coming_L2 c_y_origins_L2 c_y_round c_n_sets c_n_coming_77 c_n_origins_77 c_n_round c_rounds ++ wX0 ck b1 b1_kinds b1_owners b1_cards p1_players p1_told p1_kinds p1_owners p1_cards) ⟨hx, hb, hml, hown, hts⟩ hK hP hD hS hA [5, 6, 7, 8] [0, 1, 2, 3, 4, 9, 10, 11, 12] [0, 1, 2, 3, 4, 9, 10, 11, 12, 5, 6, 7, 8] rfl (by decide) rfl (by decide) (by decide) rfl (by decide) (c_X4_add l dC dI ck a0_n a0_n_sets a0_n_coming a0_n_origins c_n_sets c_n_coming_L2 c_n_origins_L2 c_n_round (p1_owners v2_L2.toNatClampNeg) r_13 (7 : Int32) c_n_coming_77 c_n_origins_77 q_77) (cwV 3 hts gX2_followThrees_X4_add rfl rfl rfl (by decide +kernel) ⟨Nat.le_of_ble_eq_true rfl, Nat.le_of_ble_eq_true rfl⟩) 5 rfl rfl rfl hl.1 rfl (Nat.le_of_ble_eq_true rfl) dX2_followThrees_77 ⟨Nat.zero_le _, Nat.zero_le _⟩ (fun H locs hP hD hS => ?_)
              refine lv_iinc (v := (v2_L2 + (1 : Int32))) (lv' := [(2, .int (v2_L2 + (1 : Int32))), (3, .int r_13), (0, .ref a0), (1, .ref b1)]) hx hb dX2_followThrees_80 hl (k := 1) rfl rfl (by decide) rfl (fun ls hl => ?_)
              refine lv_goto (tgt := 2) hx hb dX2_followThrees_83 (by decide) ?_
              exact ih2 _ _ _ _ _ h _ _ hP hD hS _ (lv_sub hl [0, 2, 3] rfl)
          · have h := if_t h c_32
            refine lv_aload_n hx hb dX2_followThrees_35 rfl (lv_at hl 2 rfl) ?_
            refine va_get (ci := 2) (v := .ref a0_y) (C := RX2) (T := TX2) (N := 3) hx hb hts iu_X2 hown hK.1 hP 0 rfl rfl 0 (by decide) (hts (.fieldLink RX2 12 "SheetMarks$Marks" "yes" "LSheetMarks$Ticks;") (List.mem_of_getElem? (i := 1) rfl)) (fun _ h9 => h9) rfl dX2_followThrees_36 ?_
            refine lv_aload_n hx hb dX2_followThrees_39 rfl (lv_at hl 3 rfl) ?_
            refine va_getN (ci := 0) (v := .ref b1_owners) (C := RX0) (T := TX0) (N := 5) hx hb hts iu_X0 hown hK.1 hP 9 rfl rfl 3 (by decide) (va_Nw.use rfl (hK.2.f 5 rfl)) (fun _ h9 => h9) rfl dX2_followThrees_40 ?_
            refine lv_iload_n hx hb dX2_followThrees_43 rfl (lv_at hl 1 rfl) ?_
            obtain ⟨g_44, h⟩ := gd_e h
            refine va_iald hx hb hK.1 hP 11 0 rfl rfl g_44 dX2_followThrees_44 ?_
            refine lv_iload_n hx hb dX2_followThrees_45 rfl (lv_at hl 0 rfl) ?_
            refine lv_bipush (v := (6 : Int32)) hx hb dX2_followThrees_46 rfl ?_
            obtain ⟨c_y_coming_48, c_y_origins_48, q_48, h⟩ := ob2_e h
            refine cMV (wc := wX4 ck a0_y a0_y_sets a0_y_coming a0_y_origins c_y_sets c_y_coming_L2 c_y_origins_L2 c_y_round) (wr := [(a0, .inr (2, [.ref a0_y, .ref a0_n, .int c_rounds]))] ++ wX4 ck a0_n a0_n_sets a0_n_coming a0_n_origins c_n_sets c_n_coming_L2 c_n_origins_L2 c_n_round ++ wX0 ck b1 b1_kinds b1_owners b1_cards p1_players p1_told p1_kinds p1_owners p1_cards) (w1 := wX4 ck a0_y a0_y_sets a0_y_coming a0_y_origins c_y_sets c_y_coming_48 c_y_origins_48 c_y_round) (wn := wX2 ck a0 a0_y a0_y_sets a0_y_coming a0_y_origins a0_n a0_n_sets a0_n_coming a0_n_origins c_y_sets c_y_coming_48 c_y_origins_48 c_y_round c_n_sets c_n_coming_L2 c_n_origins_L2 c_n_round c_rounds ++ wX0 ck b1 b1_kinds b1_owners b1_cards p1_players p1_told p1_kinds p1_owners p1_cards) ⟨hx, hb, hml, hown, hts⟩ hK hP hD hS hA [1, 2, 3, 4] [0, 5, 6, 7, 8, 9, 10, 11, 12] [0, 9, 10, 11, 12, 1, 2, 3, 4, 5, 6, 7, 8] rfl (by decide) rfl (by decide) (by decide) rfl (by decide) (c_X4_add l dC dI ck a0_y a0_y_sets a0_y_coming a0_y_origins c_y_sets c_y_coming_L2 c_y_origins_L2 c_y_round (p1_owners v2_L2.toNatClampNeg) r_13 (6 : Int32) c_y_coming_48 c_y_origins_48 q_48) (cwV 3 hts gX2_followThrees_X4_add rfl rfl rfl (by decide +kernel) ⟨Nat.le_of_ble_eq_true rfl, Nat.le_of_ble_eq_true rfl⟩) 1 rfl rfl rfl hl.1 rfl (Nat.le_of_ble_eq_true rfl) dX2_followThrees_48 ⟨Nat.zero_le _, Nat.zero_le _⟩ (fun H locs hP hD hS => ?_)
            refine lv_goto (tgt := 80) hx hb dX2_followThrees_51 (by decide) ?_
            refine lv_iinc (v := (v2_L2 + (1 : Int32))) (lv' := [(2, .int (v2_L2 + (1 : Int32))), (3, .int r_13), (0, .ref a0), (1, .ref b1)]) hx hb dX2_followThrees_80 hl (k := 1) rfl rfl (by decide) rfl (fun ls hl => ?_)
            refine lv_goto (tgt := 2) hx hb dX2_followThrees_83 (by decide) ?_
            exact ih2 _ _ _ _ _ h _ _ hP hD hS _ (lv_sub hl [0, 2, 3] rfl)
  exact hL2 _ _ _ _ _ _ h _ _ hP hD hS _ (lv_sub hl [0, 1, 2] rfl)
noncomputable def f_X2_makeRound_J12 (c_y_sets : Nat → Int32) (c_y_round : Int32) (c_n_sets : Nat → Int32) (c_n_round : Int32) (p1_players : Int32) (p1_told : Int32) (p1_kinds : Nat → Int32) (p1_owners : Nat → Int32) (p1_cards : Nat → Int32) (c_y_coming_J12 : Nat → Int32) (c_y_origins_J12 : Nat → Int32) (c_n_coming_J12 : Nat → Int32) (c_n_origins_J12 : Nat → Int32) : Option (Int32 × (Nat → Int32) × (Nat → Int32) × (Nat → Int32) × Int32 × (Nat → Int32) × (Nat → Int32) × (Nat → Int32) × Int32) :=
  ob2 (f_X2_followOtherOwners c_y_sets c_n_sets c_n_coming_J12 c_n_origins_J12 c_n_round p1_players) (fun (c_n_coming_14 : Nat → Int32) (c_n_origins_14 : Nat → Int32) => ob2 (f_X2_followLastOwner c_y_sets c_y_coming_J12 c_y_origins_J12 c_y_round c_n_sets p1_players) (fun (c_y_coming_19 : Nat → Int32) (c_y_origins_19 : Nat → Int32) => ob4 (f_X2_followHands c_y_sets c_y_coming_19 c_y_origins_19 c_y_round c_n_sets c_n_coming_14 c_n_origins_14 c_n_round p1_players) (fun (c_y_coming_24 : Nat → Int32) (c_y_origins_24 : Nat → Int32) (c_n_coming_24 : Nat → Int32) (c_n_origins_24 : Nat → Int32) => ob4 (f_X2_followThrees c_y_sets c_y_coming_24 c_y_origins_24 c_y_round c_n_sets c_n_coming_24 c_n_origins_24 c_n_round p1_told p1_kinds p1_owners p1_cards) (fun (c_y_coming_29 : Nat → Int32) (c_y_origins_29 : Nat → Int32) (c_n_coming_29 : Nat → Int32) (c_n_origins_29 : Nat → Int32) => ob4 (f_X4_make c_y_sets c_y_coming_29 c_y_round) (fun (r_36 : Int32) (c_y_sets_36 : Nat → Int32) (c_y_coming_36 : Nat → Int32) (c_y_round_36 : Int32) => ob4 (f_X4_make c_n_sets c_n_coming_29 c_n_round) (fun (r_44 : Int32) (c_n_sets_44 : Nat → Int32) (c_n_coming_44 : Nat → Int32) (c_n_round_44 : Int32) => if r_36 = (0 : Int32) then (if r_44 = (0 : Int32) then (some ((0 : Int32), c_y_sets_36, c_y_coming_36, c_y_origins_29, c_y_round_36, c_n_sets_44, c_n_coming_44, c_n_origins_29, c_n_round_44)) else (some ((1 : Int32), c_y_sets_36, c_y_coming_36, c_y_origins_29, c_y_round_36, c_n_sets_44, c_n_coming_44, c_n_origins_29, c_n_round_44))) else (some ((1 : Int32), c_y_sets_36, c_y_coming_36, c_y_origins_29, c_y_round_36, c_n_sets_44, c_n_coming_44, c_n_origins_29, c_n_round_44))))))))
noncomputable def f_X2_makeRound (c_y_sets : Nat → Int32) (c_y_coming : Nat → Int32) (c_y_origins : Nat → Int32) (c_y_round : Int32) (c_n_sets : Nat → Int32) (c_n_coming : Nat → Int32) (c_n_origins : Nat → Int32) (c_n_round : Int32) (c_rounds : Int32) (p1_players : Int32) (p1_told : Int32) (p1_kinds : Nat → Int32) (p1_owners : Nat → Int32) (p1_cards : Nat → Int32) : Option (Int32 × (Nat → Int32) × (Nat → Int32) × (Nat → Int32) × Int32 × (Nat → Int32) × (Nat → Int32) × (Nat → Int32) × Int32) :=
  if c_rounds = (0 : Int32) then (ob4 (f_X2_followWhatWasSeen c_y_sets c_y_coming c_y_origins c_y_round c_n_sets c_n_coming c_n_origins c_n_round p1_told p1_kinds p1_owners p1_cards) (fun (c_y_coming_9 : Nat → Int32) (c_y_origins_9 : Nat → Int32) (c_n_coming_9 : Nat → Int32) (c_n_origins_9 : Nat → Int32) => f_X2_makeRound_J12 c_y_sets c_y_round c_n_sets c_n_round p1_players p1_told p1_kinds p1_owners p1_cards c_y_coming_9 c_y_origins_9 c_n_coming_9 c_n_origins_9)) else (f_X2_makeRound_J12 c_y_sets c_y_round c_n_sets c_n_round p1_players p1_told p1_kinds p1_owners p1_cards c_y_coming c_y_origins c_n_coming c_n_origins)
set_option maxHeartbeats 4000000 in
set_option maxRecDepth 100000 in
theorem c_X2_makeRound (l : Launch) (dC : Nat → ClassId) (dI : Nat → Nat → Nat) (ck : Nat → ClassId) (a0 a0_y a0_y_sets a0_y_coming a0_y_origins a0_n a0_n_sets a0_n_coming a0_n_origins b1 b1_kinds b1_owners b1_cards : Nat) (c_y_sets : Nat → Int32) (c_y_coming : Nat → Int32) (c_y_origins : Nat → Int32) (c_y_round : Int32) (c_n_sets : Nat → Int32) (c_n_coming : Nat → Int32) (c_n_origins : Nat → Int32) (c_n_round : Int32) (c_rounds : Int32) (p1_players : Int32) (p1_told : Int32) (p1_kinds : Nat → Int32) (p1_owners : Nat → Int32) (p1_cards : Nat → Int32) (o0 : Int32) (o1 : Nat → Int32) (o2 : Nat → Int32) (o3 : Nat → Int32) (o4 : Int32) (o5 : Nat → Int32) (o6 : Nat → Int32) (o7 : Nat → Int32) (o8 : Int32) (h : f_X2_makeRound c_y_sets c_y_coming c_y_origins c_y_round c_n_sets c_n_coming c_n_origins c_n_round c_rounds p1_players p1_told p1_kinds p1_owners p1_cards = some (o0, o1, o2, o3, o4, o5, o6, o7, o8)) : MI l yX2_makeRound wsX2_makeRound ({ frames := 3, cells := 0, slots := 0, locals := 73 }) [.ref a0, .ref b1] (dC, dI) ck (wX2 ck a0 a0_y a0_y_sets a0_y_coming a0_y_origins a0_n a0_n_sets a0_n_coming a0_n_origins c_y_sets c_y_coming c_y_origins c_y_round c_n_sets c_n_coming c_n_origins c_n_round c_rounds ++ wX0 ck b1 b1_kinds b1_owners b1_cards p1_players p1_told p1_kinds p1_owners p1_cards) (wX2 ck a0 a0_y a0_y_sets a0_y_coming a0_y_origins a0_n a0_n_sets a0_n_coming a0_n_origins o1 o2 o3 o4 o5 o6 o7 o8 c_rounds ++ wX0 ck b1 b1_kinds b1_owners b1_cards p1_players p1_told p1_kinds p1_owners p1_cards) o0 := by
  refine MI.ofW (cc := cX2_makeRound) (maxL := 4) (ret := (some .boolean)) (by decide +kernel) rfl (Nat.le_of_ble_eq_true rfl) ?_
  intro p e s m below meth c hx hb hr hml hts hown hlk hK hP A hA hD ls hl
  have hS : va_S A s.heap s.heap [] := va_S.rf
  have hown : s.vm.findClass RX2 = some m.cls := hown
  have hl : lv_has ls 4 [(0, .ref a0), (1, .ref b1)] := hl
  have iu_X2 : ∀ w ∈ u_ws RX2 TX2 3, w ∈ wsX2_makeRound := fun w h => List.mem_cons_of_mem _ (List.mem_append_left _ (List.mem_append_left _ (List.mem_append_right _ h)))
  unfold f_X2_makeRound at h
  refine lv_aload_n hx hb dX2_makeRound_0 rfl (lv_at hl 0 rfl) ?_
  refine va_get (ci := 2) (v := .int c_rounds) (C := RX2) (T := TX2) (N := 3) hx hb hts iu_X2 hown hK.1 hP 0 rfl rfl 2 (by decide) (hts (.fieldLink RX2 32 "SheetMarks$Marks" "rounds" "I") (List.mem_of_getElem? (i := 1) rfl)) (fun _ h9 => h9) rfl dX2_makeRound_1 ?_
  have hJ12 : ∀ (c_y_coming_J12 : Nat → Int32) (c_y_origins_J12 : Nat → Int32) (c_n_coming_J12 : Nat → Int32) (c_n_origins_J12 : Nat → Int32), f_X2_makeRound_J12 c_y_sets c_y_round c_n_sets c_n_round p1_players p1_told p1_kinds p1_owners p1_cards c_y_coming_J12 c_y_origins_J12 c_n_coming_J12 c_n_origins_J12 = some (o0, o1, o2, o3, o4, o5, o6, o7, o8) → ∀ (H : Heap) (locs : List Loc), va_P (dC, dI) vwCl (wX2 ck a0 a0_y a0_y_sets a0_y_coming a0_y_origins a0_n a0_n_sets a0_n_coming a0_n_origins c_y_sets c_y_coming_J12 c_y_origins_J12 c_y_round c_n_sets c_n_coming_J12 c_n_origins_J12 c_n_round c_rounds ++ wX0 ck b1 b1_kinds b1_owners b1_cards p1_players p1_told p1_kinds p1_owners p1_cards) H → va_D A (wX2 ck a0 a0_y a0_y_sets a0_y_coming a0_y_origins a0_n a0_n_sets a0_n_coming a0_n_origins c_y_sets c_y_coming_J12 c_y_origins_J12 c_y_round c_n_sets c_n_coming_J12 c_n_origins_J12 c_n_round c_rounds ++ wX0 ck b1 b1_kinds b1_owners b1_cards p1_players p1_told p1_kinds p1_owners p1_cards) → va_S A s.heap H locs → ∀ ls : Array Slot, lv_has ls 4 [(0, .ref a0), (1, .ref b1)] → W p l e (headSpec wsX2_makeRound ({ frames := 3, cells := 0, slots := 0, locals := 73 })).room s m [.ref a0, .ref b1].toArray below meth c H locs 0 0 (MQ below (QI (dC, dI) (wX2 ck a0 a0_y a0_y_sets a0_y_coming a0_y_origins a0_n a0_n_sets a0_n_coming a0_n_origins o1 o2 o3 o4 o5 o6 o7 o8 c_rounds ++ wX0 ck b1 b1_kinds b1_owners b1_cards p1_players p1_told p1_kinds p1_owners p1_cards) o0 A) [.ref a0, .ref b1].toArray s 0 0 A) (F0 m 12 ls []) := by
    intro c_y_coming_J12 c_y_origins_J12 c_n_coming_J12 c_n_origins_J12 h H locs hP hD hS ls hl
    unfold f_X2_makeRound_J12 at h
    refine lv_aload_n hx hb dX2_makeRound_12 rfl (lv_at hl 0 rfl) ?_
    refine lv_aload_n hx hb dX2_makeRound_13 rfl (lv_at hl 1 rfl) ?_
    obtain ⟨c_n_coming_14, c_n_origins_14, q_14, h⟩ := ob2_e h
    refine cMV (wc := wX2 ck a0 a0_y a0_y_sets a0_y_coming a0_y_origins a0_n a0_n_sets a0_n_coming a0_n_origins c_y_sets c_y_coming_J12 c_y_origins_J12 c_y_round c_n_sets c_n_coming_J12 c_n_origins_J12 c_n_round c_rounds ++ wX0 ck b1 b1_kinds b1_owners b1_cards p1_players p1_told p1_kinds p1_owners p1_cards) (wr := []) (w1 := wX2 ck a0 a0_y a0_y_sets a0_y_coming a0_y_origins a0_n a0_n_sets a0_n_coming a0_n_origins c_y_sets c_y_coming_J12 c_y_origins_J12 c_y_round c_n_sets c_n_coming_14 c_n_origins_14 c_n_round c_rounds ++ wX0 ck b1 b1_kinds b1_owners b1_cards p1_players p1_told p1_kinds p1_owners p1_cards) (wn := wX2 ck a0 a0_y a0_y_sets a0_y_coming a0_y_origins a0_n a0_n_sets a0_n_coming a0_n_origins c_y_sets c_y_coming_J12 c_y_origins_J12 c_y_round c_n_sets c_n_coming_14 c_n_origins_14 c_n_round c_rounds ++ wX0 ck b1 b1_kinds b1_owners b1_cards p1_players p1_told p1_kinds p1_owners p1_cards) ⟨hx, hb, hml, hown, hts⟩ hK hP hD hS hA [0, 1, 2, 3, 4, 5, 6, 7, 8, 9, 10, 11, 12] [] [0, 1, 2, 3, 4, 5, 6, 7, 8, 9, 10, 11, 12] rfl (by decide) rfl (by decide) (by decide) rfl (by decide) (c_X2_followOtherOwners l dC dI ck a0 a0_y a0_y_sets a0_y_coming a0_y_origins a0_n a0_n_sets a0_n_coming a0_n_origins b1 b1_kinds b1_owners b1_cards c_y_sets c_y_coming_J12 c_y_origins_J12 c_y_round c_n_sets c_n_coming_J12 c_n_origins_J12 c_n_round c_rounds p1_players p1_told p1_kinds p1_owners p1_cards c_n_coming_14 c_n_origins_14 q_14) (cwV 1 hts gX2_makeRound_X2_followOtherOwners rfl rfl rfl (by decide +kernel) ⟨Nat.le_of_ble_eq_true rfl, Nat.le_of_ble_eq_true rfl⟩) 0 rfl rfl rfl hl.1 rfl (Nat.le_of_ble_eq_true rfl) dX2_makeRound_14 ⟨Nat.zero_le _, Nat.zero_le _⟩ (fun H locs hP hD hS => ?_)
    refine lv_aload_n hx hb dX2_makeRound_17 rfl (lv_at hl 0 rfl) ?_
    refine lv_aload_n hx hb dX2_makeRound_18 rfl (lv_at hl 1 rfl) ?_
    obtain ⟨c_y_coming_19, c_y_origins_19, q_19, h⟩ := ob2_e h
    refine cMV (wc := wX2 ck a0 a0_y a0_y_sets a0_y_coming a0_y_origins a0_n a0_n_sets a0_n_coming a0_n_origins c_y_sets c_y_coming_J12 c_y_origins_J12 c_y_round c_n_sets c_n_coming_14 c_n_origins_14 c_n_round c_rounds ++ wX0 ck b1 b1_kinds b1_owners b1_cards p1_players p1_told p1_kinds p1_owners p1_cards) (wr := []) (w1 := wX2 ck a0 a0_y a0_y_sets a0_y_coming a0_y_origins a0_n a0_n_sets a0_n_coming a0_n_origins c_y_sets c_y_coming_19 c_y_origins_19 c_y_round c_n_sets c_n_coming_14 c_n_origins_14 c_n_round c_rounds ++ wX0 ck b1 b1_kinds b1_owners b1_cards p1_players p1_told p1_kinds p1_owners p1_cards) (wn := wX2 ck a0 a0_y a0_y_sets a0_y_coming a0_y_origins a0_n a0_n_sets a0_n_coming a0_n_origins c_y_sets c_y_coming_19 c_y_origins_19 c_y_round c_n_sets c_n_coming_14 c_n_origins_14 c_n_round c_rounds ++ wX0 ck b1 b1_kinds b1_owners b1_cards p1_players p1_told p1_kinds p1_owners p1_cards) ⟨hx, hb, hml, hown, hts⟩ hK hP hD hS hA [0, 1, 2, 3, 4, 5, 6, 7, 8, 9, 10, 11, 12] [] [0, 1, 2, 3, 4, 5, 6, 7, 8, 9, 10, 11, 12] rfl (by decide) rfl (by decide) (by decide) rfl (by decide) (c_X2_followLastOwner l dC dI ck a0 a0_y a0_y_sets a0_y_coming a0_y_origins a0_n a0_n_sets a0_n_coming a0_n_origins b1 b1_kinds b1_owners b1_cards c_y_sets c_y_coming_J12 c_y_origins_J12 c_y_round c_n_sets c_n_coming_14 c_n_origins_14 c_n_round c_rounds p1_players p1_told p1_kinds p1_owners p1_cards c_y_coming_19 c_y_origins_19 q_19) (cwV 1 hts gX2_makeRound_X2_followLastOwner rfl rfl rfl (by decide +kernel) ⟨Nat.le_of_ble_eq_true rfl, Nat.le_of_ble_eq_true rfl⟩) 0 rfl rfl rfl hl.1 rfl (Nat.le_of_ble_eq_true rfl) dX2_makeRound_19 ⟨Nat.zero_le _, Nat.zero_le _⟩ (fun H locs hP hD hS => ?_)
    refine lv_aload_n hx hb dX2_makeRound_22 rfl (lv_at hl 0 rfl) ?_
    refine lv_aload_n hx hb dX2_makeRound_23 rfl (lv_at hl 1 rfl) ?_
    obtain ⟨c_y_coming_24, c_y_origins_24, c_n_coming_24, c_n_origins_24, q_24, h⟩ := ob4_e h
    refine cMV (wc := wX2 ck a0 a0_y a0_y_sets a0_y_coming a0_y_origins a0_n a0_n_sets a0_n_coming a0_n_origins c_y_sets c_y_coming_19 c_y_origins_19 c_y_round c_n_sets c_n_coming_14 c_n_origins_14 c_n_round c_rounds ++ wX0 ck b1 b1_kinds b1_owners b1_cards p1_players p1_told p1_kinds p1_owners p1_cards) (wr := []) (w1 := wX2 ck a0 a0_y a0_y_sets a0_y_coming a0_y_origins a0_n a0_n_sets a0_n_coming a0_n_origins c_y_sets c_y_coming_24 c_y_origins_24 c_y_round c_n_sets c_n_coming_24 c_n_origins_24 c_n_round c_rounds ++ wX0 ck b1 b1_kinds b1_owners b1_cards p1_players p1_told p1_kinds p1_owners p1_cards) (wn := wX2 ck a0 a0_y a0_y_sets a0_y_coming a0_y_origins a0_n a0_n_sets a0_n_coming a0_n_origins c_y_sets c_y_coming_24 c_y_origins_24 c_y_round c_n_sets c_n_coming_24 c_n_origins_24 c_n_round c_rounds ++ wX0 ck b1 b1_kinds b1_owners b1_cards p1_players p1_told p1_kinds p1_owners p1_cards) ⟨hx, hb, hml, hown, hts⟩ hK hP hD hS hA [0, 1, 2, 3, 4, 5, 6, 7, 8, 9, 10, 11, 12] [] [0, 1, 2, 3, 4, 5, 6, 7, 8, 9, 10, 11, 12] rfl (by decide) rfl (by decide) (by decide) rfl (by decide) (c_X2_followHands l dC dI ck a0 a0_y a0_y_sets a0_y_coming a0_y_origins a0_n a0_n_sets a0_n_coming a0_n_origins b1 b1_kinds b1_owners b1_cards c_y_sets c_y_coming_19 c_y_origins_19 c_y_round c_n_sets c_n_coming_14 c_n_origins_14 c_n_round c_rounds p1_players p1_told p1_kinds p1_owners p1_cards c_y_coming_24 c_y_origins_24 c_n_coming_24 c_n_origins_24 q_24) (cwV 1 hts gX2_makeRound_X2_followHands rfl rfl rfl (by decide +kernel) ⟨Nat.le_of_ble_eq_true rfl, Nat.le_of_ble_eq_true rfl⟩) 0 rfl rfl rfl hl.1 rfl (Nat.le_of_ble_eq_true rfl) dX2_makeRound_24 ⟨Nat.zero_le _, Nat.zero_le _⟩ (fun H locs hP hD hS => ?_)
    refine lv_aload_n hx hb dX2_makeRound_27 rfl (lv_at hl 0 rfl) ?_
    refine lv_aload_n hx hb dX2_makeRound_28 rfl (lv_at hl 1 rfl) ?_
    obtain ⟨c_y_coming_29, c_y_origins_29, c_n_coming_29, c_n_origins_29, q_29, h⟩ := ob4_e h
    refine cMV (wc := wX2 ck a0 a0_y a0_y_sets a0_y_coming a0_y_origins a0_n a0_n_sets a0_n_coming a0_n_origins c_y_sets c_y_coming_24 c_y_origins_24 c_y_round c_n_sets c_n_coming_24 c_n_origins_24 c_n_round c_rounds ++ wX0 ck b1 b1_kinds b1_owners b1_cards p1_players p1_told p1_kinds p1_owners p1_cards) (wr := []) (w1 := wX2 ck a0 a0_y a0_y_sets a0_y_coming a0_y_origins a0_n a0_n_sets a0_n_coming a0_n_origins c_y_sets c_y_coming_29 c_y_origins_29 c_y_round c_n_sets c_n_coming_29 c_n_origins_29 c_n_round c_rounds ++ wX0 ck b1 b1_kinds b1_owners b1_cards p1_players p1_told p1_kinds p1_owners p1_cards) (wn := wX2 ck a0 a0_y a0_y_sets a0_y_coming a0_y_origins a0_n a0_n_sets a0_n_coming a0_n_origins c_y_sets c_y_coming_29 c_y_origins_29 c_y_round c_n_sets c_n_coming_29 c_n_origins_29 c_n_round c_rounds ++ wX0 ck b1 b1_kinds b1_owners b1_cards p1_players p1_told p1_kinds p1_owners p1_cards) ⟨hx, hb, hml, hown, hts⟩ hK hP hD hS hA [0, 1, 2, 3, 4, 5, 6, 7, 8, 9, 10, 11, 12] [] [0, 1, 2, 3, 4, 5, 6, 7, 8, 9, 10, 11, 12] rfl (by decide) rfl (by decide) (by decide) rfl (by decide) (c_X2_followThrees l dC dI ck a0 a0_y a0_y_sets a0_y_coming a0_y_origins a0_n a0_n_sets a0_n_coming a0_n_origins b1 b1_kinds b1_owners b1_cards c_y_sets c_y_coming_24 c_y_origins_24 c_y_round c_n_sets c_n_coming_24 c_n_origins_24 c_n_round c_rounds p1_players p1_told p1_kinds p1_owners p1_cards c_y_coming_29 c_y_origins_29 c_n_coming_29 c_n_origins_29 q_29) (cwV 1 hts gX2_makeRound_X2_followThrees rfl rfl rfl (by decide +kernel) ⟨Nat.le_of_ble_eq_true rfl, Nat.le_of_ble_eq_true rfl⟩) 0 rfl rfl rfl hl.1 rfl (Nat.le_of_ble_eq_true rfl) dX2_makeRound_29 ⟨Nat.zero_le _, Nat.zero_le _⟩ (fun H locs hP hD hS => ?_)
    refine lv_aload_n hx hb dX2_makeRound_32 rfl (lv_at hl 0 rfl) ?_
    refine va_get (ci := 2) (v := .ref a0_y) (C := RX2) (T := TX2) (N := 3) hx hb hts iu_X2 hown hK.1 hP 0 rfl rfl 0 (by decide) (hts (.fieldLink RX2 12 "SheetMarks$Marks" "yes" "LSheetMarks$Ticks;") (List.mem_of_getElem? (i := 2) rfl)) (fun _ h9 => h9) rfl dX2_makeRound_33 ?_
    obtain ⟨r_36, c_y_sets_36, c_y_coming_36, c_y_round_36, q_36, h⟩ := ob4_e h
    refine cMI (wc := wX4 ck a0_y a0_y_sets a0_y_coming a0_y_origins c_y_sets c_y_coming_29 c_y_origins_29 c_y_round) (wr := [(a0, .inr (2, [.ref a0_y, .ref a0_n, .int c_rounds]))] ++ wX4 ck a0_n a0_n_sets a0_n_coming a0_n_origins c_n_sets c_n_coming_29 c_n_origins_29 c_n_round ++ wX0 ck b1 b1_kinds b1_owners b1_cards p1_players p1_told p1_kinds p1_owners p1_cards) (w1 := wX4 ck a0_y a0_y_sets a0_y_coming a0_y_origins c_y_sets_36 c_y_coming_36 c_y_origins_29 c_y_round_36) (wn := wX2 ck a0 a0_y a0_y_sets a0_y_coming a0_y_origins a0_n a0_n_sets a0_n_coming a0_n_origins c_y_sets_36 c_y_coming_36 c_y_origins_29 c_y_round_36 c_n_sets c_n_coming_29 c_n_origins_29 c_n_round c_rounds ++ wX0 ck b1 b1_kinds b1_owners b1_cards p1_players p1_told p1_kinds p1_owners p1_cards) ⟨hx, hb, hml, hown, hts⟩ hK hP hD hS hA [1, 2, 3, 4] [0, 5, 6, 7, 8, 9, 10, 11, 12] [0, 9, 10, 11, 12, 1, 2, 3, 4, 5, 6, 7, 8] rfl (by decide) rfl (by decide) (by decide) rfl (by decide) (c_X4_make l dC dI ck a0_y a0_y_sets a0_y_coming a0_y_origins c_y_sets c_y_coming_29 c_y_origins_29 c_y_round r_36 c_y_sets_36 c_y_coming_36 c_y_round_36 q_36) (cwV 0 hts gX2_makeRound_X4_make rfl rfl rfl (by decide +kernel) ⟨Nat.le_of_ble_eq_true rfl, Nat.le_of_ble_eq_true rfl⟩) 1 rfl rfl rfl hl.1 rfl (Nat.le_of_ble_eq_true rfl) dX2_makeRound_36 ⟨Nat.zero_le _, Nat.zero_le _⟩ (fun H locs hP hD hS => ?_)
    refine lv_istore_n (lv' := [(2, .int r_36), (0, .ref a0), (1, .ref b1)]) hx hb dX2_makeRound_39 rfl hl (by decide) rfl (fun ls hl => ?_)
    refine lv_aload_n hx hb dX2_makeRound_40 rfl (lv_at hl 1 rfl) ?_
    refine va_get (ci := 2) (v := .ref a0_n) (C := RX2) (T := TX2) (N := 3) hx hb hts iu_X2 hown hK.1 hP 0 rfl rfl 1 (by decide) (hts (.fieldLink RX2 18 "SheetMarks$Marks" "no" "LSheetMarks$Ticks;") (List.mem_of_getElem? (i := 3) rfl)) (fun _ h9 => h9) rfl dX2_makeRound_41 ?_
    obtain ⟨r_44, c_n_sets_44, c_n_coming_44, c_n_round_44, q_44, h⟩ := ob4_e h
    refine cMI (wc := wX4 ck a0_n a0_n_sets a0_n_coming a0_n_origins c_n_sets c_n_coming_29 c_n_origins_29 c_n_round) (wr := [(a0, .inr (2, [.ref a0_y, .ref a0_n, .int c_rounds]))] ++ wX4 ck a0_y a0_y_sets a0_y_coming a0_y_origins c_y_sets_36 c_y_coming_36 c_y_origins_29 c_y_round_36 ++ wX0 ck b1 b1_kinds b1_owners b1_cards p1_players p1_told p1_kinds p1_owners p1_cards) (w1 := wX4 ck a0_n a0_n_sets a0_n_coming a0_n_origins c_n_sets_44 c_n_coming_44 c_n_origins_29 c_n_round_44) (wn := wX2 ck a0 a0_y a0_y_sets a0_y_coming a0_y_origins a0_n a0_n_sets a0_n_coming a0_n_origins c_y_sets_36 c_y_coming_36 c_y_origins_29 c_y_round_36 c_n_sets_44 c_n_coming_44 c_n_origins_29 c_n_round_44 c_rounds ++ wX0 ck b1 b1_kinds b1_owners b1_cards p1_players p1_told p1_kinds p1_owners p1_cards) ⟨hx, hb, hml, hown, hts⟩ hK hP hD hS hA [5, 6, 7, 8] [0, 1, 2, 3, 4, 9, 10, 11, 12] [0, 1, 2, 3, 4, 9, 10, 11, 12, 5, 6, 7, 8] rfl (by decide) rfl (by decide) (by decide) rfl (by decide) (c_X4_make l dC dI ck a0_n a0_n_sets a0_n_coming a0_n_origins c_n_sets c_n_coming_29 c_n_origins_29 c_n_round r_44 c_n_sets_44 c_n_coming_44 c_n_round_44 q_44) (cwV 0 hts gX2_makeRound_X4_make rfl rfl rfl (by decide +kernel) ⟨Nat.le_of_ble_eq_true rfl, Nat.le_of_ble_eq_true rfl⟩) 5 rfl rfl rfl hl.1 rfl (Nat.le_of_ble_eq_true rfl) dX2_makeRound_44 ⟨Nat.zero_le _, Nat.zero_le _⟩ (fun H locs hP hD hS => ?_)
    refine lv_istore_n (lv' := [(3, .int r_44), (2, .int r_36), (0, .ref a0), (1, .ref b1)]) hx hb dX2_makeRound_47 rfl hl (by decide) rfl (fun ls hl => ?_)
    refine lv_iload_n hx hb dX2_makeRound_48 rfl (lv_at hl 1 rfl) ?_
    refine lv_if_ne (tgt := 56) hx hb dX2_makeRound_49 (by decide) (fun c_49 => ?_) (fun c_49 => ?_)
    · have h := if_f h c_49
      refine lv_iconst (v := (1 : Int32)) hx hb dX2_makeRound_56 rfl ?_
      refine lv_goto (tgt := 61) hx hb dX2_makeRound_57 (by decide) ?_
      cases h
      exact eMz hx hb hr hlk hP hD hS rfl rfl dX2_makeRound_61
    · have h := if_t h c_49
      refine lv_iload_n hx hb dX2_makeRound_52 rfl (lv_at hl 0 rfl) ?_
      refine lv_if_eq (tgt := 60) hx hb dX2_makeRound_53 (by decide) (fun c_53 => ?_) (fun c_53 => ?_)
      · have h := if_t h c_53
        refine lv_iconst (v := (0 : Int32)) hx hb dX2_makeRound_60 rfl ?_
        cases h
        exact eMz hx hb hr hlk hP hD hS rfl rfl dX2_makeRound_61
      · have h := if_f h c_53
        refine lv_iconst (v := (1 : Int32)) hx hb dX2_makeRound_56 rfl ?_
        refine lv_goto (tgt := 61) hx hb dX2_makeRound_57 (by decide) ?_
        cases h
        exact eMz hx hb hr hlk hP hD hS rfl rfl dX2_makeRound_61
  refine lv_if_ne (tgt := 12) hx hb dX2_makeRound_4 (by decide) (fun c_4 => ?_) (fun c_4 => ?_)
  · have h := if_f h c_4
    exact hJ12 _ _ _ _ h _ _ hP hD hS _ (lv_sub hl [0, 1] rfl)
  · have h := if_t h c_4
    refine lv_aload_n hx hb dX2_makeRound_7 rfl (lv_at hl 0 rfl) ?_
    refine lv_aload_n hx hb dX2_makeRound_8 rfl (lv_at hl 1 rfl) ?_
    obtain ⟨c_y_coming_9, c_y_origins_9, c_n_coming_9, c_n_origins_9, q_9, h⟩ := ob4_e h
    refine cMV (wc := wX2 ck a0 a0_y a0_y_sets a0_y_coming a0_y_origins a0_n a0_n_sets a0_n_coming a0_n_origins c_y_sets c_y_coming c_y_origins c_y_round c_n_sets c_n_coming c_n_origins c_n_round c_rounds ++ wX0 ck b1 b1_kinds b1_owners b1_cards p1_players p1_told p1_kinds p1_owners p1_cards) (wr := []) (w1 := wX2 ck a0 a0_y a0_y_sets a0_y_coming a0_y_origins a0_n a0_n_sets a0_n_coming a0_n_origins c_y_sets c_y_coming_9 c_y_origins_9 c_y_round c_n_sets c_n_coming_9 c_n_origins_9 c_n_round c_rounds ++ wX0 ck b1 b1_kinds b1_owners b1_cards p1_players p1_told p1_kinds p1_owners p1_cards) (wn := wX2 ck a0 a0_y a0_y_sets a0_y_coming a0_y_origins a0_n a0_n_sets a0_n_coming a0_n_origins c_y_sets c_y_coming_9 c_y_origins_9 c_y_round c_n_sets c_n_coming_9 c_n_origins_9 c_n_round c_rounds ++ wX0 ck b1 b1_kinds b1_owners b1_cards p1_players p1_told p1_kinds p1_owners p1_cards) ⟨hx, hb, hml, hown, hts⟩ hK hP hD hS hA [0, 1, 2, 3, 4, 5, 6, 7, 8, 9, 10, 11, 12] [] [0, 1, 2, 3, 4, 5, 6, 7, 8, 9, 10, 11, 12] rfl (by decide) rfl (by decide) (by decide) rfl (by decide) (c_X2_followWhatWasSeen l dC dI ck a0 a0_y a0_y_sets a0_y_coming a0_y_origins a0_n a0_n_sets a0_n_coming a0_n_origins b1 b1_kinds b1_owners b1_cards c_y_sets c_y_coming c_y_origins c_y_round c_n_sets c_n_coming c_n_origins c_n_round c_rounds p1_players p1_told p1_kinds p1_owners p1_cards c_y_coming_9 c_y_origins_9 c_n_coming_9 c_n_origins_9 q_9) (cwV 1 hts gX2_makeRound_X2_followWhatWasSeen rfl rfl rfl (by decide +kernel) ⟨Nat.le_of_ble_eq_true rfl, Nat.le_of_ble_eq_true rfl⟩) 0 rfl rfl rfl hl.1 rfl (Nat.le_of_ble_eq_true rfl) dX2_makeRound_9 ⟨Nat.zero_le _, Nat.zero_le _⟩ (fun H locs hP hD hS => ?_)
    exact hJ12 _ _ _ _ h _ _ hP hD hS _ (lv_sub hl [0, 1] rfl)
noncomputable def f_X2_follow_L5 (p1_players : Int32) (p1_told : Int32) (p1_kinds : Nat → Int32) (p1_owners : Nat → Int32) (p1_cards : Nat → Int32) (rec5 : (Nat → Int32) → (Nat → Int32) → (Nat → Int32) → Int32 → (Nat → Int32) → (Nat → Int32) → (Nat → Int32) → Int32 → Int32 → Option ((Nat → Int32) × (Nat → Int32) × (Nat → Int32) × Int32 × (Nat → Int32) × (Nat → Int32) × (Nat → Int32) × Int32 × Int32)) (c_y_sets_L5 : Nat → Int32) (c_y_coming_L5 : Nat → Int32) (c_y_origins_L5 : Nat → Int32) (c_y_round_L5 : Int32) (c_n_sets_L5 : Nat → Int32) (c_n_coming_L5 : Nat → Int32) (c_n_origins_L5 : Nat → Int32) (c_n_round_L5 : Int32) (c_rounds_L5 : Int32) : Option ((Nat → Int32) × (Nat → Int32) × (Nat → Int32) × Int32 × (Nat → Int32) × (Nat → Int32) × (Nat → Int32) × Int32 × Int32) :=
  if (216 : Int32) ≤ c_rounds_L5 then (some (c_y_sets_L5, c_y_coming_L5, c_y_origins_L5, c_y_round_L5, c_n_sets_L5, c_n_coming_L5, c_n_origins_L5, c_n_round_L5, c_rounds_L5)) else (ob9 (f_X2_makeRound c_y_sets_L5 c_y_coming_L5 c_y_origins_L5 c_y_round_L5 c_n_sets_L5 c_n_coming_L5 c_n_origins_L5 c_n_round_L5 c_rounds_L5 p1_players p1_told p1_kinds p1_owners p1_cards) (fun (r_17 : Int32) (c_y_sets_17 : Nat → Int32) (c_y_coming_17 : Nat → Int32) (c_y_origins_17 : Nat → Int32) (c_y_round_17 : Int32) (c_n_sets_17 : Nat → Int32) (c_n_coming_17 : Nat → Int32) (c_n_origins_17 : Nat → Int32) (c_n_round_17 : Int32) => if r_17 = (0 : Int32) then (some (c_y_sets_17, c_y_coming_17, c_y_origins_17, c_y_round_17, c_n_sets_17, c_n_coming_17, c_n_origins_17, c_n_round_17, c_rounds_L5)) else (lt' (c_rounds_L5 + (1 : Int32)) (fun c_rounds_30 : Int32 => rec5 c_y_sets_17 c_y_coming_17 c_y_origins_17 c_y_round_17 c_n_sets_17 c_n_coming_17 c_n_origins_17 c_n_round_17 c_rounds_30))))
noncomputable def f_X2_follow (c_y_sets : Nat → Int32) (c_y_coming : Nat → Int32) (c_y_origins : Nat → Int32) (c_y_round : Int32) (c_n_sets : Nat → Int32) (c_n_coming : Nat → Int32) (c_n_origins : Nat → Int32) (c_n_round : Int32) (c_rounds : Int32) (p1_players : Int32) (p1_told : Int32) (p1_kinds : Nat → Int32) (p1_owners : Nat → Int32) (p1_cards : Nat → Int32) : Option ((Nat → Int32) × (Nat → Int32) × (Nat → Int32) × Int32 × (Nat → Int32) × (Nat → Int32) × (Nat → Int32) × Int32 × Int32) :=
  lo9 (f_X2_follow_L5 p1_players p1_told p1_kinds p1_owners p1_cards) FU c_y_sets c_y_coming c_y_origins c_y_round c_n_sets c_n_coming c_n_origins c_n_round (0 : Int32)
set_option maxHeartbeats 4000000 in
set_option maxRecDepth 100000 in
theorem c_X2_follow (l : Launch) (dC : Nat → ClassId) (dI : Nat → Nat → Nat) (ck : Nat → ClassId) (a0 a0_y a0_y_sets a0_y_coming a0_y_origins a0_n a0_n_sets a0_n_coming a0_n_origins b1 b1_kinds b1_owners b1_cards : Nat) (c_y_sets : Nat → Int32) (c_y_coming : Nat → Int32) (c_y_origins : Nat → Int32) (c_y_round : Int32) (c_n_sets : Nat → Int32) (c_n_coming : Nat → Int32) (c_n_origins : Nat → Int32) (c_n_round : Int32) (c_rounds : Int32) (p1_players : Int32) (p1_told : Int32) (p1_kinds : Nat → Int32) (p1_owners : Nat → Int32) (p1_cards : Nat → Int32) (o0 : Nat → Int32) (o1 : Nat → Int32) (o2 : Nat → Int32) (o3 : Int32) (o4 : Nat → Int32) (o5 : Nat → Int32) (o6 : Nat → Int32) (o7 : Int32) (o8 : Int32) (h : f_X2_follow c_y_sets c_y_coming c_y_origins c_y_round c_n_sets c_n_coming c_n_origins c_n_round c_rounds p1_players p1_told p1_kinds p1_owners p1_cards = some (o0, o1, o2, o3, o4, o5, o6, o7, o8)) : MV l yX2_follow wsX2_follow ({ frames := 4, cells := 0, slots := 0, locals := 96 }) [.ref a0, .ref b1] (dC, dI) ck (wX2 ck a0 a0_y a0_y_sets a0_y_coming a0_y_origins a0_n a0_n_sets a0_n_coming a0_n_origins c_y_sets c_y_coming c_y_origins c_y_round c_n_sets c_n_coming c_n_origins c_n_round c_rounds ++ wX0 ck b1 b1_kinds b1_owners b1_cards p1_players p1_told p1_kinds p1_owners p1_cards) (wX2 ck a0 a0_y a0_y_sets a0_y_coming a0_y_origins a0_n a0_n_sets a0_n_coming a0_n_origins o0 o1 o2 o3 o4 o5 o6 o7 o8 ++ wX0 ck b1 b1_kinds b1_owners b1_cards p1_players p1_told p1_kinds p1_owners p1_cards) := by
  refine MV.ofW (cc := cX2_follow) (maxL := 2) (ret := none) (by decide +kernel) rfl (Nat.le_of_ble_eq_true rfl) ?_
  intro p e s m below meth c hx hb hr hml hts hown hlk hK hP A hA hD ls hl
  have hS : va_S A s.heap s.heap [] := va_S.rf
  have hown : s.vm.findClass RX2 = some m.cls := hown
  have hl : lv_has ls 2 [(0, .ref a0), (1, .ref b1)] := hl
  have iu_X2 : ∀ w ∈ u_ws RX2 TX2 3, w ∈ wsX2_follow := fun w h => List.mem_cons_of_mem _ (List.mem_append_left _ (List.mem_append_left _ (List.mem_append_right _ h)))
  unfold f_X2_follow at h
  refine lv_aload_n hx hb dX2_follow_0 rfl (lv_at hl 0 rfl) ?_
  refine lv_iconst (v := (0 : Int32)) hx hb dX2_follow_1 rfl ?_
  refine va_put (ci := 2) (v := .int (0 : Int32)) (ty := .int) (C := RX2) (T := TX2) (N := 3) hx hb hts iu_X2 tyX2 tyX2_ok nmX2 hown hK.1 hP hD hS 0 rfl rfl 2 (by decide) (hts (.fieldLink RX2 32 "SheetMarks$Marks" "rounds" "I") (List.mem_of_getElem? (i := 1) rfl)) (fun _ h9 => h9) rfl (by decide +kernel) rfl rfl (Nat.le_of_ble_eq_true rfl) dX2_follow_2 (fun H locs hP hD hS => ?_)
  have hP : va_P (dC, dI) vwCl (wX2 ck a0 a0_y a0_y_sets a0_y_coming a0_y_origins a0_n a0_n_sets a0_n_coming a0_n_origins c_y_sets c_y_coming c_y_origins c_y_round c_n_sets c_n_coming c_n_origins c_n_round (0 : Int32) ++ wX0 ck b1 b1_kinds b1_owners b1_cards p1_players p1_told p1_kinds p1_owners p1_cards) H := hP
  have hD : va_D A (wX2 ck a0 a0_y a0_y_sets a0_y_coming a0_y_origins a0_n a0_n_sets a0_n_coming a0_n_origins c_y_sets c_y_coming c_y_origins c_y_round c_n_sets c_n_coming c_n_origins c_n_round (0 : Int32) ++ wX0 ck b1 b1_kinds b1_owners b1_cards p1_players p1_told p1_kinds p1_owners p1_cards) := hD
  have hL5 : ∀ (n5 : Nat) (c_y_sets_L5 : Nat → Int32) (c_y_coming_L5 : Nat → Int32) (c_y_origins_L5 : Nat → Int32) (c_y_round_L5 : Int32) (c_n_sets_L5 : Nat → Int32) (c_n_coming_L5 : Nat → Int32) (c_n_origins_L5 : Nat → Int32) (c_n_round_L5 : Int32) (c_rounds_L5 : Int32), lo9 (f_X2_follow_L5 p1_players p1_told p1_kinds p1_owners p1_cards) n5 c_y_sets_L5 c_y_coming_L5 c_y_origins_L5 c_y_round_L5 c_n_sets_L5 c_n_coming_L5 c_n_origins_L5 c_n_round_L5 c_rounds_L5 = some (o0, o1, o2, o3, o4, o5, o6, o7, o8) → ∀ (H : Heap) (locs : List Loc), va_P (dC, dI) vwCl (wX2 ck a0 a0_y a0_y_sets a0_y_coming a0_y_origins a0_n a0_n_sets a0_n_coming a0_n_origins c_y_sets_L5 c_y_coming_L5 c_y_origins_L5 c_y_round_L5 c_n_sets_L5 c_n_coming_L5 c_n_origins_L5 c_n_round_L5 c_rounds_L5 ++ wX0 ck b1 b1_kinds b1_owners b1_cards p1_players p1_told p1_kinds p1_owners p1_cards) H → va_D A (wX2 ck a0 a0_y a0_y_sets a0_y_coming a0_y_origins a0_n a0_n_sets a0_n_coming a0_n_origins c_y_sets_L5 c_y_coming_L5 c_y_origins_L5 c_y_round_L5 c_n_sets_L5 c_n_coming_L5 c_n_origins_L5 c_n_round_L5 c_rounds_L5 ++ wX0 ck b1 b1_kinds b1_owners b1_cards p1_players p1_told p1_kinds p1_owners p1_cards) → va_S A s.heap H locs → ∀ ls : Array Slot, lv_has ls 2 [(0, .ref a0), (1, .ref b1)] → W p l e (headSpec wsX2_follow ({ frames := 4, cells := 0, slots := 0, locals := 96 })).room s m [.ref a0, .ref b1].toArray below meth c H locs 0 0 (MQ below (QV (dC, dI) (wX2 ck a0 a0_y a0_y_sets a0_y_coming a0_y_origins a0_n a0_n_sets a0_n_coming a0_n_origins o0 o1 o2 o3 o4 o5 o6 o7 o8 ++ wX0 ck b1 b1_kinds b1_owners b1_cards p1_players p1_told p1_kinds p1_owners p1_cards) A) [.ref a0, .ref b1].toArray s 0 0 A) (F0 m 5 ls []) := by
    intro n5
    induction n5 with
    | zero => intro c_y_sets_L5 c_y_coming_L5 c_y_origins_L5 c_y_round_L5 c_n_sets_L5 c_n_coming_L5 c_n_origins_L5 c_n_round_L5 c_rounds_L5 h; exact lo9_z h
    | succ n5 ih5 =>
      intro c_y_sets_L5 c_y_coming_L5 c_y_origins_L5 c_y_round_L5 c_n_sets_L5 c_n_coming_L5 c_n_origins_L5 c_n_round_L5 c_rounds_L5 h H locs hP hD hS ls hl
      have h := lo9_s h
      unfold f_X2_follow_L5 at h
      refine lv_aload_n hx hb dX2_follow_5 rfl (lv_at hl 0 rfl) ?_
      refine va_get (ci := 2) (v := .int c_rounds_L5) (C := RX2) (T := TX2) (N := 3) hx hb hts iu_X2 hown hK.1 hP 0 rfl rfl 2 (by decide) (hts (.fieldLink RX2 32 "SheetMarks$Marks" "rounds" "I") (List.mem_of_getElem? (i := 1) rfl)) (fun _ h9 => h9) rfl dX2_follow_6 ?_
      refine lv_sipush (v := (216 : Int32)) hx hb dX2_follow_9 rfl ?_
      refine lv_icmp_ge (tgt := 36) hx hb dX2_follow_12 (by decide) (fun c_12 => ?_) (fun c_12 => ?_)
      · have h := if_t h c_12
        cases h
        exact eMv hx hb hr hlk hP hD hS dX2_follow_36
      · have h := if_f h c_12
        refine lv_aload_n hx hb dX2_follow_15 rfl (lv_at hl 0 rfl) ?_
        refine lv_aload_n hx hb dX2_follow_16 rfl (lv_at hl 1 rfl) ?_
        obtain ⟨r_17, c_y_sets_17, c_y_coming_17, c_y_origins_17, c_y_round_17, c_n_sets_17, c_n_coming_17, c_n_origins_17, c_n_round_17, q_17, h⟩ := ob9_e h
        refine cMI (wc := wX2 ck a0 a0_y a0_y_sets a0_y_coming a0_y_origins a0_n a0_n_sets a0_n_coming a0_n_origins c_y_sets_L5 c_y_coming_L5 c_y_origins_L5 c_y_round_L5 c_n_sets_L5 c_n_coming_L5 c_n_origins_L5 c_n_round_L5 c_rounds_L5 ++ wX0 ck b1 b1_kinds b1_owners b1_cards p1_players p1_told p1_kinds p1_owners p1_cards) (wr := []) (w1 := wX2 ck a0 a0_y a0_y_sets a0_y_coming a0_y_origins a0_n a0_n_sets a0_n_coming a0_n_origins c_y_sets_17 c_y_coming_17 c_y_origins_17 c_y_round_17 c_n_sets_17 c_n_coming_17 c_n_origins_17 c_n_round_17 c_rounds_L5 ++ wX0 ck b1 b1_kinds b1_owners b1_cards p1_players p1_told p1_kinds p1_owners p1_cards) (wn := wX2 ck a0 a0_y a0_y_sets a0_y_coming a0_y_origins a0_n a0_n_sets a0_n_coming a0_n_origins c_y_sets_17 c_y_coming_17 c_y_origins_17 c_y_round_17 c_n_sets_17 c_n_coming_17 c_n_origins_17 c_n_round_17 c_rounds_L5 ++ wX0 ck b1 b1_kinds b1_owners b1_cards p1_players p1_told p1_kinds p1_owners p1_cards) ⟨hx, hb, hml, hown, hts⟩ hK hP hD hS hA [0, 1, 2, 3, 4, 5, 6, 7, 8, 9, 10, 11, 12] [] [0, 1, 2, 3, 4, 5, 6, 7, 8, 9, 10, 11, 12] rfl (by decide) rfl (by decide) (by decide) rfl (by decide) (c_X2_makeRound l dC dI ck a0 a0_y a0_y_sets a0_y_coming a0_y_origins a0_n a0_n_sets a0_n_coming a0_n_origins b1 b1_kinds b1_owners b1_cards c_y_sets_L5 c_y_coming_L5 c_y_origins_L5 c_y_round_L5 c_n_sets_L5 c_n_coming_L5 c_n_origins_L5 c_n_round_L5 c_rounds_L5 p1_players p1_told p1_kinds p1_owners p1_cards r_17 c_y_sets_17 c_y_coming_17 c_y_origins_17 c_y_round_17 c_n_sets_17 c_n_coming_17 c_n_origins_17 c_n_round_17 q_17) (cwV 1 hts gX2_follow_X2_makeRound rfl rfl rfl (by decide +kernel) ⟨Nat.le_of_ble_eq_true rfl, Nat.le_of_ble_eq_true rfl⟩) 0 rfl rfl rfl hl.1 rfl (Nat.le_of_ble_eq_true rfl) dX2_follow_17 ⟨Nat.zero_le _, Nat.zero_le _⟩ (fun H locs hP hD hS => ?_)
        refine lv_if_eq (tgt := 36) hx hb dX2_follow_20 (by decide) (fun c_20 => ?_) (fun c_20 => ?_)
        · have h := if_t h c_20
          cases h
          exact eMv hx hb hr hlk hP hD hS dX2_follow_36
        · have h := if_f h c_20
          refine lv_aload_n hx hb dX2_follow_23 rfl (lv_at hl 0 rfl) ?_
          refine lv_dup hx hb dX2_follow_24 rfl ?_
          refine va_get (ci := 2) (v := .int c_rounds_L5) (C := RX2) (T := TX2) (N := 3) hx hb hts iu_X2 hown hK.1 hP 0 rfl rfl 2 (by decide) (hts (.fieldLink RX2 32 "SheetMarks$Marks" "rounds" "I") (List.mem_of_getElem? (i := 1) rfl)) (fun _ h9 => h9) rfl dX2_follow_25 ?_
          refine lv_iconst (v := (1 : Int32)) hx hb dX2_follow_28 rfl ?_
          refine lv_iadd hx hb dX2_follow_29 ?_
          refine lv_topi (fun c_rounds_30 e_30 => ?_)
          have h := lt'_e e_30 h
          refine va_put (ci := 2) (v := .int c_rounds_30) (ty := .int) (C := RX2) (T := TX2) (N := 3) hx hb hts iu_X2 tyX2 tyX2_ok nmX2 hown hK.1 hP hD hS 0 rfl rfl 2 (by decide) (hts (.fieldLink RX2 32 "SheetMarks$Marks" "rounds" "I") (List.mem_of_getElem? (i := 1) rfl)) (fun _ h9 => h9) rfl (by decide +kernel) rfl rfl (Nat.le_of_ble_eq_true rfl) dX2_follow_30 (fun H locs hP hD hS => ?_)
          have hP : va_P (dC, dI) vwCl (wX2 ck a0 a0_y a0_y_sets a0_y_coming a0_y_origins a0_n a0_n_sets a0_n_coming a0_n_origins c_y_sets_17 c_y_coming_17 c_y_origins_17 c_y_round_17 c_n_sets_17 c_n_coming_17 c_n_origins_17 c_n_round_17 c_rounds_30 ++ wX0 ck b1 b1_kinds b1_owners b1_cards p1_players p1_told p1_kinds p1_owners p1_cards) H := hP
          have hD : va_D A (wX2 ck a0 a0_y a0_y_sets a0_y_coming a0_y_origins a0_n a0_n_sets a0_n_coming a0_n_origins c_y_sets_17 c_y_coming_17 c_y_origins_17 c_y_round_17 c_n_sets_17 c_n_coming_17 c_n_origins_17 c_n_round_17 c_rounds_30 ++ wX0 ck b1 b1_kinds b1_owners b1_cards p1_players p1_told p1_kinds p1_owners p1_cards) := hD
          refine lv_goto (tgt := 5) hx hb dX2_follow_33 (by decide) ?_
          exact ih5 _ _ _ _ _ _ _ _ _ h _ _ hP hD hS _ (lv_sub hl [0, 1] rfl)
  exact hL5 _ _ _ _ _ _ _ _ _ _ h _ _ hP hD hS _ (lv_sub hl [0, 1] rfl)
noncomputable def f_X2_makeFrom (c_y_sets : Nat → Int32) (c_y_coming : Nat → Int32) (c_y_origins : Nat → Int32) (c_y_round : Int32) (c_n_sets : Nat → Int32) (c_n_coming : Nat → Int32) (c_n_origins : Nat → Int32) (c_n_round : Int32) (c_rounds : Int32) (p1_players : Int32) (p1_told : Int32) (p1_kinds : Nat → Int32) (p1_owners : Nat → Int32) (p1_cards : Nat → Int32) : Option ((Nat → Int32) × (Nat → Int32) × (Nat → Int32) × Int32 × (Nat → Int32) × (Nat → Int32) × (Nat → Int32) × Int32 × Int32) :=
  ob2 (f_X4_clear c_y_sets c_y_round) (fun (c_y_sets_4 : Nat → Int32) (c_y_round_4 : Int32) => ob2 (f_X4_clear c_n_sets c_n_round) (fun (c_n_sets_11 : Nat → Int32) (c_n_round_11 : Int32) => ob9 (f_X2_follow c_y_sets_4 c_y_coming c_y_origins c_y_round_4 c_n_sets_11 c_n_coming c_n_origins c_n_round_11 c_rounds p1_players p1_told p1_kinds p1_owners p1_cards) (fun (c_y_sets_16 : Nat → Int32) (c_y_coming_16 : Nat → Int32) (c_y_origins_16 : Nat → Int32) (c_y_round_16 : Int32) (c_n_sets_16 : Nat → Int32) (c_n_coming_16 : Nat → Int32) (c_n_origins_16 : Nat → Int32) (c_n_round_16 : Int32) (c_rounds_16 : Int32) => some (c_y_sets_16, c_y_coming_16, c_y_origins_16, c_y_round_16, c_n_sets_16, c_n_coming_16, c_n_origins_16, c_n_round_16, c_rounds_16))))
set_option maxHeartbeats 4000000 in
set_option maxRecDepth 100000 in
theorem c_X2_makeFrom (l : Launch) (dC : Nat → ClassId) (dI : Nat → Nat → Nat) (ck : Nat → ClassId) (a0 a0_y a0_y_sets a0_y_coming a0_y_origins a0_n a0_n_sets a0_n_coming a0_n_origins b1 b1_kinds b1_owners b1_cards : Nat) (c_y_sets : Nat → Int32) (c_y_coming : Nat → Int32) (c_y_origins : Nat → Int32) (c_y_round : Int32) (c_n_sets : Nat → Int32) (c_n_coming : Nat → Int32) (c_n_origins : Nat → Int32) (c_n_round : Int32) (c_rounds : Int32) (p1_players : Int32) (p1_told : Int32) (p1_kinds : Nat → Int32) (p1_owners : Nat → Int32) (p1_cards : Nat → Int32) (o0 : Nat → Int32) (o1 : Nat → Int32) (o2 : Nat → Int32) (o3 : Int32) (o4 : Nat → Int32) (o5 : Nat → Int32) (o6 : Nat → Int32) (o7 : Int32) (o8 : Int32) (h : f_X2_makeFrom c_y_sets c_y_coming c_y_origins c_y_round c_n_sets c_n_coming c_n_origins c_n_round c_rounds p1_players p1_told p1_kinds p1_owners p1_cards = some (o0, o1, o2, o3, o4, o5, o6, o7, o8)) : MV l yX2_makeFrom wsX2_makeFrom ({ frames := 5, cells := 0, slots := 0, locals := 117 }) [.ref a0, .ref b1] (dC, dI) ck (wX2 ck a0 a0_y a0_y_sets a0_y_coming a0_y_origins a0_n a0_n_sets a0_n_coming a0_n_origins c_y_sets c_y_coming c_y_origins c_y_round c_n_sets c_n_coming c_n_origins c_n_round c_rounds ++ wX0 ck b1 b1_kinds b1_owners b1_cards p1_players p1_told p1_kinds p1_owners p1_cards) (wX2 ck a0 a0_y a0_y_sets a0_y_coming a0_y_origins a0_n a0_n_sets a0_n_coming a0_n_origins o0 o1 o2 o3 o4 o5 o6 o7 o8 ++ wX0 ck b1 b1_kinds b1_owners b1_cards p1_players p1_told p1_kinds p1_owners p1_cards) := by
  refine MV.ofW (cc := cX2_makeFrom) (maxL := 2) (ret := none) (by decide +kernel) rfl (Nat.le_of_ble_eq_true rfl) ?_
  intro p e s m below meth c hx hb hr hml hts hown hlk hK hP A hA hD ls hl
  have hS : va_S A s.heap s.heap [] := va_S.rf
  have hown : s.vm.findClass RX2 = some m.cls := hown
  have hl : lv_has ls 2 [(0, .ref a0), (1, .ref b1)] := hl
  have iu_X2 : ∀ w ∈ u_ws RX2 TX2 3, w ∈ wsX2_makeFrom := fun w h => List.mem_cons_of_mem _ (List.mem_append_left _ (List.mem_append_left _ (List.mem_append_right _ h)))
  unfold f_X2_makeFrom at h
  refine lv_aload_n hx hb dX2_makeFrom_0 rfl (lv_at hl 0 rfl) ?_
  refine va_get (ci := 2) (v := .ref a0_y) (C := RX2) (T := TX2) (N := 3) hx hb hts iu_X2 hown hK.1 hP 0 rfl rfl 0 (by decide) (hts (.fieldLink RX2 12 "SheetMarks$Marks" "yes" "LSheetMarks$Ticks;") (List.mem_of_getElem? (i := 1) rfl)) (fun _ h9 => h9) rfl dX2_makeFrom_1 ?_
  obtain ⟨c_y_sets_4, c_y_round_4, q_4, h⟩ := ob2_e h
  refine cMV (wc := wX4 ck a0_y a0_y_sets a0_y_coming a0_y_origins c_y_sets c_y_coming c_y_origins c_y_round) (wr := [(a0, .inr (2, [.ref a0_y, .ref a0_n, .int c_rounds]))] ++ wX4 ck a0_n a0_n_sets a0_n_coming a0_n_origins c_n_sets c_n_coming c_n_origins c_n_round ++ wX0 ck b1 b1_kinds b1_owners b1_cards p1_players p1_told p1_kinds p1_owners p1_cards) (w1 := wX4 ck a0_y a0_y_sets a0_y_coming a0_y_origins c_y_sets_4 c_y_coming c_y_origins c_y_round_4) (wn := wX2 ck a0 a0_y a0_y_sets a0_y_coming a0_y_origins a0_n a0_n_sets a0_n_coming a0_n_origins c_y_sets_4 c_y_coming c_y_origins c_y_round_4 c_n_sets c_n_coming c_n_origins c_n_round c_rounds ++ wX0 ck b1 b1_kinds b1_owners b1_cards p1_players p1_told p1_kinds p1_owners p1_cards) ⟨hx, hb, hml, hown, hts⟩ hK hP hD hS hA [1, 2, 3, 4] [0, 5, 6, 7, 8, 9, 10, 11, 12] [0, 9, 10, 11, 12, 1, 2, 3, 4, 5, 6, 7, 8] rfl (by decide) rfl (by decide) (by decide) rfl (by decide) (c_X4_clear l dC dI ck a0_y a0_y_sets a0_y_coming a0_y_origins c_y_sets c_y_coming c_y_origins c_y_round c_y_sets_4 c_y_round_4 q_4) (cwV 0 hts gX2_makeFrom_X4_clear rfl rfl rfl (by decide +kernel) ⟨Nat.le_of_ble_eq_true rfl, Nat.le_of_ble_eq_true rfl⟩) 1 rfl rfl rfl hl.1 rfl (Nat.le_of_ble_eq_true rfl) dX2_makeFrom_4 ⟨Nat.zero_le _, Nat.zero_le _⟩ (fun H locs hP hD hS => ?_)
  refine lv_aload_n hx hb dX2_makeFrom_7 rfl (lv_at hl 0 rfl) ?_
  refine va_get (ci := 2) (v := .ref a0_n) (C := RX2) (T := TX2) (N := 3) hx hb hts iu_X2 hown hK.1 hP 0 rfl rfl 1 (by decide) (hts (.fieldLink RX2 18 "SheetMarks$Marks" "no" "LSheetMarks$Ticks;") (List.mem_of_getElem? (i := 2) rfl)) (fun _ h9 => h9) rfl dX2_makeFrom_8 ?_
  obtain ⟨c_n_sets_11, c_n_round_11, q_11, h⟩ := ob2_e h
  refine cMV (wc := wX4 ck a0_n a0_n_sets a0_n_coming a0_n_origins c_n_sets c_n_coming c_n_origins c_n_round) (wr := [(a0, .inr (2, [.ref a0_y, .ref a0_n, .int c_rounds]))] ++ wX4 ck a0_y a0_y_sets a0_y_coming a0_y_origins c_y_sets_4 c_y_coming c_y_origins c_y_round_4 ++ wX0 ck b1 b1_kinds b1_owners b1_cards p1_players p1_told p1_kinds p1_owners p1_cards) (w1 := wX4 ck a0_n a0_n_sets a0_n_coming a0_n_origins c_n_sets_11 c_n_coming c_n_origins c_n_round_11) (wn := wX2 ck a0 a0_y a0_y_sets a0_y_coming a0_y_origins a0_n a0_n_sets a0_n_coming a0_n_origins c_y_sets_4 c_y_coming c_y_origins c_y_round_4 c_n_sets_11 c_n_coming c_n_origins c_n_round_11 c_rounds ++ wX0 ck b1 b1_kinds b1_owners b1_cards p1_players p1_told p1_kinds p1_owners p1_cards) ⟨hx, hb, hml, hown, hts⟩ hK hP hD hS hA [5, 6, 7, 8] [0, 1, 2, 3, 4, 9, 10, 11, 12] [0, 1, 2, 3, 4, 9, 10, 11, 12, 5, 6, 7, 8] rfl (by decide) rfl (by decide) (by decide) rfl (by decide) (c_X4_clear l dC dI ck a0_n a0_n_sets a0_n_coming a0_n_origins c_n_sets c_n_coming c_n_origins c_n_round c_n_sets_11 c_n_round_11 q_11) (cwV 0 hts gX2_makeFrom_X4_clear rfl rfl rfl (by decide +kernel) ⟨Nat.le_of_ble_eq_true rfl, Nat.le_of_ble_eq_true rfl⟩) 5 rfl rfl rfl hl.1 rfl (Nat.le_of_ble_eq_true rfl) dX2_makeFrom_11 ⟨Nat.zero_le _, Nat.zero_le _⟩ (fun H locs hP hD hS => ?_)
  refine lv_aload_n hx hb dX2_makeFrom_14 rfl (lv_at hl 0 rfl) ?_
  refine lv_aload_n hx hb dX2_makeFrom_15 rfl (lv_at hl 1 rfl) ?_
  obtain ⟨c_y_sets_16, c_y_coming_16, c_y_origins_16, c_y_round_16, c_n_sets_16, c_n_coming_16, c_n_origins_16, c_n_round_16, c_rounds_16, q_16, h⟩ := ob9_e h
  refine cMV (wc := wX2 ck a0 a0_y a0_y_sets a0_y_coming a0_y_origins a0_n a0_n_sets a0_n_coming a0_n_origins c_y_sets_4 c_y_coming c_y_origins c_y_round_4 c_n_sets_11 c_n_coming c_n_origins c_n_round_11 c_rounds ++ wX0 ck b1 b1_kinds b1_owners b1_cards p1_players p1_told p1_kinds p1_owners p1_cards) (wr := []) (w1 := wX2 ck a0 a0_y a0_y_sets a0_y_coming a0_y_origins a0_n a0_n_sets a0_n_coming a0_n_origins c_y_sets_16 c_y_coming_16 c_y_origins_16 c_y_round_16 c_n_sets_16 c_n_coming_16 c_n_origins_16 c_n_round_16 c_rounds_16 ++ wX0 ck b1 b1_kinds b1_owners b1_cards p1_players p1_told p1_kinds p1_owners p1_cards) (wn := wX2 ck a0 a0_y a0_y_sets a0_y_coming a0_y_origins a0_n a0_n_sets a0_n_coming a0_n_origins c_y_sets_16 c_y_coming_16 c_y_origins_16 c_y_round_16 c_n_sets_16 c_n_coming_16 c_n_origins_16 c_n_round_16 c_rounds_16 ++ wX0 ck b1 b1_kinds b1_owners b1_cards p1_players p1_told p1_kinds p1_owners p1_cards) ⟨hx, hb, hml, hown, hts⟩ hK hP hD hS hA [0, 1, 2, 3, 4, 5, 6, 7, 8, 9, 10, 11, 12] [] [0, 1, 2, 3, 4, 5, 6, 7, 8, 9, 10, 11, 12] rfl (by decide) rfl (by decide) (by decide) rfl (by decide) (c_X2_follow l dC dI ck a0 a0_y a0_y_sets a0_y_coming a0_y_origins a0_n a0_n_sets a0_n_coming a0_n_origins b1 b1_kinds b1_owners b1_cards c_y_sets_4 c_y_coming c_y_origins c_y_round_4 c_n_sets_11 c_n_coming c_n_origins c_n_round_11 c_rounds p1_players p1_told p1_kinds p1_owners p1_cards c_y_sets_16 c_y_coming_16 c_y_origins_16 c_y_round_16 c_n_sets_16 c_n_coming_16 c_n_origins_16 c_n_round_16 c_rounds_16 q_16) (cwV 1 hts gX2_makeFrom_X2_follow rfl rfl rfl (by decide +kernel) ⟨Nat.le_of_ble_eq_true rfl, Nat.le_of_ble_eq_true rfl⟩) 0 rfl rfl rfl hl.1 rfl (Nat.le_of_ble_eq_true rfl) dX2_makeFrom_16 ⟨Nat.zero_le _, Nat.zero_le _⟩ (fun H locs hP hD hS => ?_)
  cases h
  exact eMv hx hb hr hlk hP hD hS dX2_makeFrom_19
noncomputable def f_X2_copy (c_y_sets : Nat → Int32) (c_y_round : Int32) (c_n_sets : Nat → Int32) (c_n_round : Int32) (p1_y_sets : Nat → Int32) (p1_n_sets : Nat → Int32) : Option ((Nat → Int32) × Int32 × (Nat → Int32) × Int32) :=
  ob2 (f_X4_copy c_y_sets c_y_round p1_y_sets) (fun (c_y_sets_8 : Nat → Int32) (c_y_round_8 : Int32) => ob2 (f_X4_copy c_n_sets c_n_round p1_n_sets) (fun (c_n_sets_19 : Nat → Int32) (c_n_round_19 : Int32) => some (c_y_sets_8, c_y_round_8, c_n_sets_19, c_n_round_19)))
set_option maxHeartbeats 4000000 in
set_option maxRecDepth 100000 in
theorem c_X2_copy (l : Launch) (dC : Nat → ClassId) (dI : Nat → Nat → Nat) (ck : Nat → ClassId) (a0 a0_y a0_y_sets a0_y_coming a0_y_origins a0_n a0_n_sets a0_n_coming a0_n_origins b1 b1_y b1_y_sets b1_y_coming b1_y_origins b1_n b1_n_sets b1_n_coming b1_n_origins : Nat) (c_y_sets : Nat → Int32) (c_y_coming : Nat → Int32) (c_y_origins : Nat → Int32) (c_y_round : Int32) (c_n_sets : Nat → Int32) (c_n_coming : Nat → Int32) (c_n_origins : Nat → Int32) (c_n_round : Int32) (c_rounds : Int32) (p1_y_sets : Nat → Int32) (p1_y_coming : Nat → Int32) (p1_y_origins : Nat → Int32) (p1_y_round : Int32) (p1_n_sets : Nat → Int32) (p1_n_coming : Nat → Int32) (p1_n_origins : Nat → Int32) (p1_n_round : Int32) (p1_rounds : Int32) (o0 : Nat → Int32) (o1 : Int32) (o2 : Nat → Int32) (o3 : Int32) (h : f_X2_copy c_y_sets c_y_round c_n_sets c_n_round p1_y_sets p1_n_sets = some (o0, o1, o2, o3)) : MV l yX2_copy wsX2_copy ({ frames := 2, cells := 0, slots := 0, locals := 47 }) [.ref a0, .ref b1] (dC, dI) ck (wX2 ck a0 a0_y a0_y_sets a0_y_coming a0_y_origins a0_n a0_n_sets a0_n_coming a0_n_origins c_y_sets c_y_coming c_y_origins c_y_round c_n_sets c_n_coming c_n_origins c_n_round c_rounds ++ wX2 ck b1 b1_y b1_y_sets b1_y_coming b1_y_origins b1_n b1_n_sets b1_n_coming b1_n_origins p1_y_sets p1_y_coming p1_y_origins p1_y_round p1_n_sets p1_n_coming p1_n_origins p1_n_round p1_rounds) (wX2 ck a0 a0_y a0_y_sets a0_y_coming a0_y_origins a0_n a0_n_sets a0_n_coming a0_n_origins o0 c_y_coming c_y_origins o1 o2 c_n_coming c_n_origins o3 c_rounds ++ wX2 ck b1 b1_y b1_y_sets b1_y_coming b1_y_origins b1_n b1_n_sets b1_n_coming b1_n_origins p1_y_sets p1_y_coming p1_y_origins p1_y_round p1_n_sets p1_n_coming p1_n_origins p1_n_round p1_rounds) := by
  refine MV.ofW (cc := cX2_copy) (maxL := 2) (ret := none) (by decide +kernel) rfl (Nat.le_of_ble_eq_true rfl) ?_
  intro p e s m below meth c hx hb hr hml hts hown hlk hK hP A hA hD ls hl
  have hS : va_S A s.heap s.heap [] := va_S.rf
  have hown : s.vm.findClass RX2 = some m.cls := hown
  have hl : lv_has ls 2 [(0, .ref a0), (1, .ref b1)] := hl
  have iu_X2 : ∀ w ∈ u_ws RX2 TX2 3, w ∈ wsX2_copy := fun w h => List.mem_cons_of_mem _ (List.mem_append_left _ (List.mem_append_right _ h))
  unfold f_X2_copy at h
  refine lv_aload_n hx hb dX2_copy_0 rfl (lv_at hl 0 rfl) ?_
  refine va_get (ci := 2) (v := .ref a0_y) (C := RX2) (T := TX2) (N := 3) hx hb hts iu_X2 hown hK.1 hP 0 rfl rfl 0 (by decide) (hts (.fieldLink RX2 12 "SheetMarks$Marks" "yes" "LSheetMarks$Ticks;") (List.mem_of_getElem? (i := 1) rfl)) (fun _ h9 => h9) rfl dX2_copy_1 ?_
  refine lv_aload_n hx hb dX2_copy_4 rfl (lv_at hl 1 rfl) ?_
  refine va_get (ci := 2) (v := .ref b1_y) (C := RX2) (T := TX2) (N := 3) hx hb hts iu_X2 hown hK.1 hP 9 rfl rfl 0 (by decide) (hts (.fieldLink RX2 12 "SheetMarks$Marks" "yes" "LSheetMarks$Ticks;") (List.mem_of_getElem? (i := 1) rfl)) (fun _ h9 => h9) rfl dX2_copy_5 ?_
  obtain ⟨c_y_sets_8, c_y_round_8, q_8, h⟩ := ob2_e h
  refine cMV (wc := wX4 ck a0_y a0_y_sets a0_y_coming a0_y_origins c_y_sets c_y_coming c_y_origins c_y_round ++ wX4 ck b1_y b1_y_sets b1_y_coming b1_y_origins p1_y_sets p1_y_coming p1_y_origins p1_y_round) (wr := [(a0, .inr (2, [.ref a0_y, .ref a0_n, .int c_rounds]))] ++ wX4 ck a0_n a0_n_sets a0_n_coming a0_n_origins c_n_sets c_n_coming c_n_origins c_n_round ++ [(b1, .inr (2, [.ref b1_y, .ref b1_n, .int p1_rounds]))] ++ wX4 ck b1_n b1_n_sets b1_n_coming b1_n_origins p1_n_sets p1_n_coming p1_n_origins p1_n_round) (w1 := wX4 ck a0_y a0_y_sets a0_y_coming a0_y_origins c_y_sets_8 c_y_coming c_y_origins c_y_round_8 ++ wX4 ck b1_y b1_y_sets b1_y_coming b1_y_origins p1_y_sets p1_y_coming p1_y_origins p1_y_round) (wn := wX2 ck a0 a0_y a0_y_sets a0_y_coming a0_y_origins a0_n a0_n_sets a0_n_coming a0_n_origins c_y_sets_8 c_y_coming c_y_origins c_y_round_8 c_n_sets c_n_coming c_n_origins c_n_round c_rounds ++ wX2 ck b1 b1_y b1_y_sets b1_y_coming b1_y_origins b1_n b1_n_sets b1_n_coming b1_n_origins p1_y_sets p1_y_coming p1_y_origins p1_y_round p1_n_sets p1_n_coming p1_n_origins p1_n_round p1_rounds) ⟨hx, hb, hml, hown, hts⟩ hK hP hD hS hA [1, 2, 3, 4, 10, 11, 12, 13] [0, 5, 6, 7, 8, 9, 14, 15, 16, 17] [0, 10, 11, 12, 13, 1, 2, 3, 4, 5, 14, 15, 16, 17, 6, 7, 8, 9] rfl (by decide) rfl (by decide) (by decide) rfl (by decide) (c_X4_copy l dC dI ck a0_y a0_y_sets a0_y_coming a0_y_origins b1_y b1_y_sets b1_y_coming b1_y_origins c_y_sets c_y_coming c_y_origins c_y_round p1_y_sets p1_y_coming p1_y_origins p1_y_round c_y_sets_8 c_y_round_8 q_8) (cwV 1 hts gX2_copy_X4_copy rfl rfl rfl (by decide +kernel) ⟨Nat.le_of_ble_eq_true rfl, Nat.le_of_ble_eq_true rfl⟩) 1 rfl rfl rfl hl.1 rfl (Nat.le_of_ble_eq_true rfl) dX2_copy_8 ⟨Nat.zero_le _, Nat.zero_le _⟩ (fun H locs hP hD hS => ?_)
  refine lv_aload_n hx hb dX2_copy_11 rfl (lv_at hl 0 rfl) ?_
  refine va_get (ci := 2) (v := .ref a0_n) (C := RX2) (T := TX2) (N := 3) hx hb hts iu_X2 hown hK.1 hP 0 rfl rfl 1 (by decide) (hts (.fieldLink RX2 18 "SheetMarks$Marks" "no" "LSheetMarks$Ticks;") (List.mem_of_getElem? (i := 2) rfl)) (fun _ h9 => h9) rfl dX2_copy_12 ?_
  refine lv_aload_n hx hb dX2_copy_15 rfl (lv_at hl 1 rfl) ?_
  refine va_get (ci := 2) (v := .ref b1_n) (C := RX2) (T := TX2) (N := 3) hx hb hts iu_X2 hown hK.1 hP 9 rfl rfl 1 (by decide) (hts (.fieldLink RX2 18 "SheetMarks$Marks" "no" "LSheetMarks$Ticks;") (List.mem_of_getElem? (i := 2) rfl)) (fun _ h9 => h9) rfl dX2_copy_16 ?_
  obtain ⟨c_n_sets_19, c_n_round_19, q_19, h⟩ := ob2_e h
  refine cMV (wc := wX4 ck a0_n a0_n_sets a0_n_coming a0_n_origins c_n_sets c_n_coming c_n_origins c_n_round ++ wX4 ck b1_n b1_n_sets b1_n_coming b1_n_origins p1_n_sets p1_n_coming p1_n_origins p1_n_round) (wr := [(a0, .inr (2, [.ref a0_y, .ref a0_n, .int c_rounds]))] ++ wX4 ck a0_y a0_y_sets a0_y_coming a0_y_origins c_y_sets_8 c_y_coming c_y_origins c_y_round_8 ++ [(b1, .inr (2, [.ref b1_y, .ref b1_n, .int p1_rounds]))] ++ wX4 ck b1_y b1_y_sets b1_y_coming b1_y_origins p1_y_sets p1_y_coming p1_y_origins p1_y_round) (w1 := wX4 ck a0_n a0_n_sets a0_n_coming a0_n_origins c_n_sets_19 c_n_coming c_n_origins c_n_round_19 ++ wX4 ck b1_n b1_n_sets b1_n_coming b1_n_origins p1_n_sets p1_n_coming p1_n_origins p1_n_round) (wn := wX2 ck a0 a0_y a0_y_sets a0_y_coming a0_y_origins a0_n a0_n_sets a0_n_coming a0_n_origins c_y_sets_8 c_y_coming c_y_origins c_y_round_8 c_n_sets_19 c_n_coming c_n_origins c_n_round_19 c_rounds ++ wX2 ck b1 b1_y b1_y_sets b1_y_coming b1_y_origins b1_n b1_n_sets b1_n_coming b1_n_origins p1_y_sets p1_y_coming p1_y_origins p1_y_round p1_n_sets p1_n_coming p1_n_origins p1_n_round p1_rounds) ⟨hx, hb, hml, hown, hts⟩ hK hP hD hS hA [5, 6, 7, 8, 14, 15, 16, 17] [0, 1, 2, 3, 4, 9, 10, 11, 12, 13] [0, 1, 2, 3, 4, 10, 11, 12, 13, 5, 6, 7, 8, 9, 14, 15, 16, 17] rfl (by decide) rfl (by decide) (by decide) rfl (by decide) (c_X4_copy l dC dI ck a0_n a0_n_sets a0_n_coming a0_n_origins b1_n b1_n_sets b1_n_coming b1_n_origins c_n_sets c_n_coming c_n_origins c_n_round p1_n_sets p1_n_coming p1_n_origins p1_n_round c_n_sets_19 c_n_round_19 q_19) (cwV 1 hts gX2_copy_X4_copy rfl rfl rfl (by decide +kernel) ⟨Nat.le_of_ble_eq_true rfl, Nat.le_of_ble_eq_true rfl⟩) 5 rfl rfl rfl hl.1 rfl (Nat.le_of_ble_eq_true rfl) dX2_copy_19 ⟨Nat.zero_le _, Nat.zero_le _⟩ (fun H locs hP hD hS => ?_)
  cases h
  exact eMv hx hb hr hlk hP hD hS dX2_copy_22
noncomputable def f_X2_total (c_y_sets : Nat → Int32) (c_n_sets : Nat → Int32) : Option (Int32) :=
  ob1 (f_X4_total c_y_sets) (fun (r_4 : Int32) => ob1 (f_X4_total c_n_sets) (fun (r_11 : Int32) => some (r_4 + r_11)))
set_option maxHeartbeats 4000000 in
set_option maxRecDepth 100000 in
theorem c_X2_total (l : Launch) (dC : Nat → ClassId) (dI : Nat → Nat → Nat) (ck : Nat → ClassId) (a0 a0_y a0_y_sets a0_y_coming a0_y_origins a0_n a0_n_sets a0_n_coming a0_n_origins : Nat) (c_y_sets : Nat → Int32) (c_y_coming : Nat → Int32) (c_y_origins : Nat → Int32) (c_y_round : Int32) (c_n_sets : Nat → Int32) (c_n_coming : Nat → Int32) (c_n_origins : Nat → Int32) (c_n_round : Int32) (c_rounds : Int32) (o0 : Int32) (h : f_X2_total c_y_sets c_n_sets = some o0) : RD l yX2_total wsX2_total ({ frames := 2, cells := 0, slots := 0, locals := 42 }) [.ref a0] (dC, dI) ck (wX2 ck a0 a0_y a0_y_sets a0_y_coming a0_y_origins a0_n a0_n_sets a0_n_coming a0_n_origins c_y_sets c_y_coming c_y_origins c_y_round c_n_sets c_n_coming c_n_origins c_n_round c_rounds) o0 := by
  refine RD.ofW (cc := cX2_total) (maxL := 1) (ret := (some .int)) (by decide +kernel) rfl (Nat.le_of_ble_eq_true rfl) ?_
  intro p e s m below meth c hx hb hr hml hts hown hlk hK hP ls hl
  have hown : s.vm.findClass RX2 = some m.cls := hown
  have hl : lv_has ls 1 [(0, .ref a0)] := hl
  have iu_X2 : ∀ w ∈ u_ws RX2 TX2 3, w ∈ wsX2_total := fun w h => List.mem_cons_of_mem _ (List.mem_append_left _ (List.mem_append_right _ h))
  unfold f_X2_total at h
  refine lv_aload_n hx hb dX2_total_0 rfl (lv_at hl 0 rfl) ?_
  refine va_get (ci := 2) (v := .ref a0_y) (C := RX2) (T := TX2) (N := 3) hx hb hts iu_X2 hown hK.1 hP 0 rfl rfl 0 (by decide) (hts (.fieldLink RX2 12 "SheetMarks$Marks" "yes" "LSheetMarks$Ticks;") (List.mem_of_getElem? (i := 1) rfl)) (fun _ h9 => h9) rfl dX2_total_1 ?_
  obtain ⟨r_4, q_4, h⟩ := ob1_e h
  refine cRV (wc := wX4 ck a0_y a0_y_sets a0_y_coming a0_y_origins c_y_sets c_y_coming c_y_origins c_y_round) ⟨hx, hb, hml, hown, hts⟩ hK hP [1, 2, 3, 4] rfl (c_X4_total l dC dI ck a0_y a0_y_sets a0_y_coming a0_y_origins c_y_sets c_y_coming c_y_origins c_y_round r_4 q_4) (cwV 0 hts gX2_total_X4_total rfl rfl rfl (by decide +kernel) ⟨Nat.le_of_ble_eq_true rfl, Nat.le_of_ble_eq_true rfl⟩) 1 rfl rfl rfl hl.1 rfl (Nat.le_of_ble_eq_true rfl) dX2_total_4 ⟨Nat.zero_le _, Nat.zero_le _⟩ ?_
  refine lv_aload_n hx hb dX2_total_7 rfl (lv_at hl 0 rfl) ?_
  refine va_get (ci := 2) (v := .ref a0_n) (C := RX2) (T := TX2) (N := 3) hx hb hts iu_X2 hown hK.1 hP 0 rfl rfl 1 (by decide) (hts (.fieldLink RX2 18 "SheetMarks$Marks" "no" "LSheetMarks$Ticks;") (List.mem_of_getElem? (i := 2) rfl)) (fun _ h9 => h9) rfl dX2_total_8 ?_
  obtain ⟨r_11, q_11, h⟩ := ob1_e h
  refine cRV (wc := wX4 ck a0_n a0_n_sets a0_n_coming a0_n_origins c_n_sets c_n_coming c_n_origins c_n_round) ⟨hx, hb, hml, hown, hts⟩ hK hP [5, 6, 7, 8] rfl (c_X4_total l dC dI ck a0_n a0_n_sets a0_n_coming a0_n_origins c_n_sets c_n_coming c_n_origins c_n_round r_11 q_11) (cwV 0 hts gX2_total_X4_total rfl rfl rfl (by decide +kernel) ⟨Nat.le_of_ble_eq_true rfl, Nat.le_of_ble_eq_true rfl⟩) 5 rfl rfl rfl hl.1 rfl (Nat.le_of_ble_eq_true rfl) dX2_total_11 ⟨Nat.zero_le _, Nat.zero_le _⟩ ?_
  refine lv_iadd hx hb dX2_total_14 ?_
  cases h
  exact eRi hx hb hr hlk rfl dX2_total_15
noncomputable def f_X2_without (c_y_sets : Nat → Int32) (c_n_sets : Nat → Int32) (v1 : Int32) : Option (Int32) :=
  ob1 (f_X4_of c_y_sets v1) (fun (r_7 : Int32) => ob1 (f_X4_of c_n_sets v1) (fun (r_18 : Int32) => some (((262143 : Int32) &&& (r_7 ^^^ (-1 : Int32))) &&& (r_18 ^^^ (-1 : Int32)))))
set_option maxHeartbeats 4000000 in
set_option maxRecDepth 100000 in
theorem c_X2_without (l : Launch) (dC : Nat → ClassId) (dI : Nat → Nat → Nat) (ck : Nat → ClassId) (a0 a0_y a0_y_sets a0_y_coming a0_y_origins a0_n a0_n_sets a0_n_coming a0_n_origins : Nat) (c_y_sets : Nat → Int32) (c_y_coming : Nat → Int32) (c_y_origins : Nat → Int32) (c_y_round : Int32) (c_n_sets : Nat → Int32) (c_n_coming : Nat → Int32) (c_n_origins : Nat → Int32) (c_n_round : Int32) (c_rounds : Int32) (v1 : Int32) (o0 : Int32) (h : f_X2_without c_y_sets c_n_sets v1 = some o0) : RD l yX2_without wsX2_without ({ frames := 1, cells := 0, slots := 0, locals := 21 }) [.ref a0, .int v1] (dC, dI) ck (wX2 ck a0 a0_y a0_y_sets a0_y_coming a0_y_origins a0_n a0_n_sets a0_n_coming a0_n_origins c_y_sets c_y_coming c_y_origins c_y_round c_n_sets c_n_coming c_n_origins c_n_round c_rounds) o0 := by
  refine RD.ofW (cc := cX2_without) (maxL := 2) (ret := (some .int)) (by decide +kernel) rfl (Nat.le_of_ble_eq_true rfl) ?_
  intro p e s m below meth c hx hb hr hml hts hown hlk hK hP ls hl
  have hown : s.vm.findClass RX2 = some m.cls := hown
  have hl : lv_has ls 2 [(0, .ref a0), (1, .int v1)] := hl
  have iu_X2 : ∀ w ∈ u_ws RX2 TX2 3, w ∈ wsX2_without := fun w h => List.mem_cons_of_mem _ (List.mem_append_left _ (List.mem_append_right _ h))
  unfold f_X2_without at h
  refine lv_ldc hx hb hown (hts (.constant RX2 44 (262143)) (List.mem_of_getElem? (i := 1) rfl)) dX2_without_0 ?_
  refine lv_aload_n hx hb dX2_without_2 rfl (lv_at hl 0 rfl) ?_
  refine va_get (ci := 2) (v := .ref a0_y) (C := RX2) (T := TX2) (N := 3) hx hb hts iu_X2 hown hK.1 hP 0 rfl rfl 0 (by decide) (hts (.fieldLink RX2 12 "SheetMarks$Marks" "yes" "LSheetMarks$Ticks;") (List.mem_of_getElem? (i := 2) rfl)) (fun _ h9 => h9) rfl dX2_without_3 ?_
  refine lv_iload_n hx hb dX2_without_6 rfl (lv_at hl 1 rfl) ?_
  obtain ⟨r_7, q_7, h⟩ := ob1_e h
  refine cRV (wc := wX4 ck a0_y a0_y_sets a0_y_coming a0_y_origins c_y_sets c_y_coming c_y_origins c_y_round) ⟨hx, hb, hml, hown, hts⟩ hK hP [1, 2, 3, 4] rfl (c_X4_of l dC dI ck a0_y a0_y_sets a0_y_coming a0_y_origins c_y_sets c_y_coming c_y_origins c_y_round v1 r_7 q_7) (cwV 1 hts gX2_without_X4_of rfl rfl rfl (by decide +kernel) ⟨Nat.le_of_ble_eq_true rfl, Nat.le_of_ble_eq_true rfl⟩) 1 rfl rfl rfl hl.1 rfl (Nat.le_of_ble_eq_true rfl) dX2_without_7 ⟨Nat.zero_le _, Nat.zero_le _⟩ ?_
  refine lv_iconst (v := (-1 : Int32)) hx hb dX2_without_10 rfl ?_
  refine lv_ixor hx hb dX2_without_11 ?_
  refine lv_iand hx hb dX2_without_12 ?_
  refine lv_aload_n hx hb dX2_without_13 rfl (lv_at hl 0 rfl) ?_
  refine va_get (ci := 2) (v := .ref a0_n) (C := RX2) (T := TX2) (N := 3) hx hb hts iu_X2 hown hK.1 hP 0 rfl rfl 1 (by decide) (hts (.fieldLink RX2 18 "SheetMarks$Marks" "no" "LSheetMarks$Ticks;") (List.mem_of_getElem? (i := 3) rfl)) (fun _ h9 => h9) rfl dX2_without_14 ?_
  refine lv_iload_n hx hb dX2_without_17 rfl (lv_at hl 1 rfl) ?_
  obtain ⟨r_18, q_18, h⟩ := ob1_e h
  refine cRV (wc := wX4 ck a0_n a0_n_sets a0_n_coming a0_n_origins c_n_sets c_n_coming c_n_origins c_n_round) ⟨hx, hb, hml, hown, hts⟩ hK hP [5, 6, 7, 8] rfl (c_X4_of l dC dI ck a0_n a0_n_sets a0_n_coming a0_n_origins c_n_sets c_n_coming c_n_origins c_n_round v1 r_18 q_18) (cwV 1 hts gX2_without_X4_of rfl rfl rfl (by decide +kernel) ⟨Nat.le_of_ble_eq_true rfl, Nat.le_of_ble_eq_true rfl⟩) 5 rfl rfl rfl hl.1 rfl (Nat.le_of_ble_eq_true rfl) dX2_without_18 ⟨Nat.zero_le _, Nat.zero_le _⟩ ?_
  refine lv_iconst (v := (-1 : Int32)) hx hb dX2_without_21 rfl ?_
  refine lv_ixor hx hb dX2_without_22 ?_
  refine lv_iand hx hb dX2_without_23 ?_
  cases h
  exact eRi hx hb hr hlk rfl dX2_without_24
noncomputable def f_X2_aCardIsBroken_L5 (c_y_sets : Nat → Int32) (c_n_sets : Nat → Int32) (p1_players : Int32) (rec5 : Int32 → Int32 → Option (Int32)) (v2_L5 : Int32) (v3_L5 : Int32) : Option (Int32) :=
  if (6 : Int32) ≤ v3_L5 then (if v2_L5 = (0 : Int32) then (some (0 : Int32)) else (some (1 : Int32))) else (ob1 (f_X0_hasOwner p1_players v3_L5) (fun (r_13 : Int32) => if r_13 = (0 : Int32) then (rec5 v2_L5 (v3_L5 + (1 : Int32))) else (ob1 (f_X4_of c_n_sets v3_L5) (fun (r_25 : Int32) => lt' (v2_L5 &&& r_25) (fun v2_29 : Int32 => ob1 (f_X4_of c_y_sets v3_L5) (fun (r_35 : Int32) => ob1 (f_X4_of c_n_sets v3_L5) (fun (r_43 : Int32) => if (r_35 &&& r_43) = (0 : Int32) then (rec5 v2_29 (v3_L5 + (1 : Int32))) else (some (1 : Int32)))))))))
noncomputable def f_X2_aCardIsBroken (c_y_sets : Nat → Int32) (c_n_sets : Nat → Int32) (p1_players : Int32) : Option (Int32) :=
  lo2 (f_X2_aCardIsBroken_L5 c_y_sets c_n_sets p1_players) FU (262143 : Int32) (0 : Int32)
set_option maxHeartbeats 4000000 in
set_option maxRecDepth 100000 in
theorem c_X2_aCardIsBroken (l : Launch) (dC : Nat → ClassId) (dI : Nat → Nat → Nat) (ck : Nat → ClassId) (a0 a0_y a0_y_sets a0_y_coming a0_y_origins a0_n a0_n_sets a0_n_coming a0_n_origins b1 b1_kinds b1_owners b1_cards : Nat) (c_y_sets : Nat → Int32) (c_y_coming : Nat → Int32) (c_y_origins : Nat → Int32) (c_y_round : Int32) (c_n_sets : Nat → Int32) (c_n_coming : Nat → Int32) (c_n_origins : Nat → Int32) (c_n_round : Int32) (c_rounds : Int32) (p1_players : Int32) (p1_told : Int32) (p1_kinds : Nat → Int32) (p1_owners : Nat → Int32) (p1_cards : Nat → Int32) (o0 : Int32) (h : f_X2_aCardIsBroken c_y_sets c_n_sets p1_players = some o0) : RD l yX2_aCardIsBroken wsX2_aCardIsBroken ({ frames := 1, cells := 0, slots := 0, locals := 21 }) [.ref a0, .ref b1] (dC, dI) ck (wX2 ck a0 a0_y a0_y_sets a0_y_coming a0_y_origins a0_n a0_n_sets a0_n_coming a0_n_origins c_y_sets c_y_coming c_y_origins c_y_round c_n_sets c_n_coming c_n_origins c_n_round c_rounds ++ wX0 ck b1 b1_kinds b1_owners b1_cards p1_players p1_told p1_kinds p1_owners p1_cards) o0 := by
  refine RD.ofW (cc := cX2_aCardIsBroken) (maxL := 4) (ret := (some .boolean)) (by decide +kernel) rfl (Nat.le_of_ble_eq_true rfl) ?_
  intro p e s m below meth c hx hb hr hml hts hown hlk hK hP ls hl
  have hown : s.vm.findClass RX2 = some m.cls := hown
  have hl : lv_has ls 4 [(0, .ref a0), (1, .ref b1)] := hl
  have iu_X2 : ∀ w ∈ u_ws RX2 TX2 3, w ∈ wsX2_aCardIsBroken := fun w h => List.mem_cons_of_mem _ (List.mem_append_left _ (List.mem_append_left _ (List.mem_append_right _ h)))
  unfold f_X2_aCardIsBroken at h
  refine lv_ldc hx hb hown (hts (.constant RX2 44 (262143)) (List.mem_of_getElem? (i := 1) rfl)) dX2_aCardIsBroken_0 ?_
  refine lv_istore_n (lv' := [(2, .int (262143 : Int32)), (0, .ref a0), (1, .ref b1)]) hx hb dX2_aCardIsBroken_2 rfl hl (by decide) rfl (fun ls hl => ?_)
  refine lv_iconst (v := (0 : Int32)) hx hb dX2_aCardIsBroken_3 rfl ?_
  refine lv_istore_n (lv' := [(3, .int (0 : Int32)), (2, .int (262143 : Int32)), (0, .ref a0), (1, .ref b1)]) hx hb dX2_aCardIsBroken_4 rfl hl (by decide) rfl (fun ls hl => ?_)
  have hL5 : ∀ (n5 : Nat) (v2_L5 : Int32) (v3_L5 : Int32), lo2 (f_X2_aCardIsBroken_L5 c_y_sets c_n_sets p1_players) n5 v2_L5 v3_L5 = some o0 → ∀ ls : Array Slot, lv_has ls 4 [(3, .int v3_L5), (2, .int v2_L5), (0, .ref a0), (1, .ref b1)] → W p l e (headSpec wsX2_aCardIsBroken ({ frames := 1, cells := 0, slots := 0, locals := 21 })).room s m [.ref a0, .ref b1].toArray below meth c s.heap [] 0 0 (MQ below (QcRead o0) [.ref a0, .ref b1].toArray s 0 0 (fun _ => False)) (F0 m 5 ls []) := by
    intro n5
    induction n5 with
    | zero => intro v2_L5 v3_L5 h; exact lo2_z h
    | succ n5 ih5 =>
      intro v2_L5 v3_L5 h ls hl
      have h := lo2_s h
      unfold f_X2_aCardIsBroken_L5 at h
      refine lv_iload_n hx hb dX2_aCardIsBroken_5 rfl (lv_at hl 0 rfl) ?_
      refine lv_bipush (v := (6 : Int32)) hx hb dX2_aCardIsBroken_6 rfl ?_
      refine lv_icmp_ge (tgt := 58) hx hb dX2_aCardIsBroken_8 (by decide) (fun c_8 => ?_) (fun c_8 => ?_)
      · have h := if_t h c_8
        refine lv_iload_n hx hb dX2_aCardIsBroken_58 rfl (lv_at hl 1 rfl) ?_
        refine lv_if_eq (tgt := 66) hx hb dX2_aCardIsBroken_59 (by decide) (fun c_59 => ?_) (fun c_59 => ?_)
        · have h := if_t h c_59
          refine lv_iconst (v := (0 : Int32)) hx hb dX2_aCardIsBroken_66 rfl ?_
          cases h
          exact eRz hx hb hr hlk rfl rfl dX2_aCardIsBroken_67
        · have h := if_f h c_59
          refine lv_iconst (v := (1 : Int32)) hx hb dX2_aCardIsBroken_62 rfl ?_
          refine lv_goto (tgt := 67) hx hb dX2_aCardIsBroken_63 (by decide) ?_
          cases h
          exact eRz hx hb hr hlk rfl rfl dX2_aCardIsBroken_67
      · have h := if_f h c_8
        refine lv_aload_n hx hb dX2_aCardIsBroken_11 rfl (lv_at hl 3 rfl) ?_
        refine lv_iload_n hx hb dX2_aCardIsBroken_12 rfl (lv_at hl 0 rfl) ?_
        obtain ⟨r_13, q_13, h⟩ := ob1_e h
        refine cRV (wc := wX0 ck b1 b1_kinds b1_owners b1_cards p1_players p1_told p1_kinds p1_owners p1_cards) ⟨hx, hb, hml, hown, hts⟩ hK hP [9, 10, 11, 12] rfl (c_X0_hasOwner l dC dI ck b1 b1_kinds b1_owners b1_cards p1_players p1_told p1_kinds p1_owners p1_cards v3_L5 r_13 q_13) (cwV 1 hts gX2_aCardIsBroken_X0_hasOwner rfl rfl rfl (by decide +kernel) ⟨Nat.le_of_ble_eq_true rfl, Nat.le_of_ble_eq_true rfl⟩) 9 rfl rfl rfl hl.1 rfl (Nat.le_of_ble_eq_true rfl) dX2_aCardIsBroken_13 ⟨Nat.zero_le _, Nat.zero_le _⟩ ?_
        refine lv_if_eq (tgt := 52) hx hb dX2_aCardIsBroken_16 (by decide) (fun c_16 => ?_) (fun c_16 => ?_)
        · have h := if_t h c_16
          refine lv_iinc (v := (v3_L5 + (1 : Int32))) (lv' := [(3, .int (v3_L5 + (1 : Int32))), (2, .int v2_L5), (0, .ref a0), (1, .ref b1)]) hx hb dX2_aCardIsBroken_52 hl (k := 0) rfl rfl (by decide) rfl (fun ls hl => ?_)
          refine lv_goto (tgt := 5) hx hb dX2_aCardIsBroken_55 (by decide) ?_
          exact ih5 _ _ h _ (lv_sub hl [0, 1, 2, 3] rfl)
        · have h := if_f h c_16
          refine lv_iload_n hx hb dX2_aCardIsBroken_19 rfl (lv_at hl 1 rfl) ?_
          refine lv_aload_n hx hb dX2_aCardIsBroken_20 rfl (lv_at hl 2 rfl) ?_
          refine va_get (ci := 2) (v := .ref a0_n) (C := RX2) (T := TX2) (N := 3) hx hb hts iu_X2 hown hK.1 hP 0 rfl rfl 1 (by decide) (hts (.fieldLink RX2 18 "SheetMarks$Marks" "no" "LSheetMarks$Ticks;") (List.mem_of_getElem? (i := 2) rfl)) (fun _ h9 => h9) rfl dX2_aCardIsBroken_21 ?_
          refine lv_iload_n hx hb dX2_aCardIsBroken_24 rfl (lv_at hl 0 rfl) ?_
          obtain ⟨r_25, q_25, h⟩ := ob1_e h
          refine cRV (wc := wX4 ck a0_n a0_n_sets a0_n_coming a0_n_origins c_n_sets c_n_coming c_n_origins c_n_round) ⟨hx, hb, hml, hown, hts⟩ hK hP [5, 6, 7, 8] rfl (c_X4_of l dC dI ck a0_n a0_n_sets a0_n_coming a0_n_origins c_n_sets c_n_coming c_n_origins c_n_round v3_L5 r_25 q_25) (cwV 1 hts gX2_aCardIsBroken_X4_of rfl rfl rfl (by decide +kernel) ⟨Nat.le_of_ble_eq_true rfl, Nat.le_of_ble_eq_true rfl⟩) 5 rfl rfl rfl hl.1 rfl (Nat.le_of_ble_eq_true rfl) dX2_aCardIsBroken_25 ⟨Nat.zero_le _, Nat.zero_le _⟩ ?_
          refine lv_iand hx hb dX2_aCardIsBroken_28 ?_
          refine lv_topi (fun v2_29 e_29 => ?_)
          have h := lt'_e e_29 h
          refine lv_istore_n (lv' := [(2, .int v2_29), (3, .int v3_L5), (0, .ref a0), (1, .ref b1)]) hx hb dX2_aCardIsBroken_29 rfl hl (by decide) rfl (fun ls hl => ?_)
          refine lv_aload_n hx hb dX2_aCardIsBroken_30 rfl (lv_at hl 2 rfl) ?_
          refine va_get (ci := 2) (v := .ref a0_y) (C := RX2) (T := TX2) (N := 3) hx hb hts iu_X2 hown hK.1 hP 0 rfl rfl 0 (by decide) (hts (.fieldLink RX2 12 "SheetMarks$Marks" "yes" "LSheetMarks$Ticks;") (List.mem_of_getElem? (i := 3) rfl)) (fun _ h9 => h9) rfl dX2_aCardIsBroken_31 ?_
          refine lv_iload_n hx hb dX2_aCardIsBroken_34 rfl (lv_at hl 1 rfl) ?_
          obtain ⟨r_35, q_35, h⟩ := ob1_e h
          refine cRV (wc := wX4 ck a0_y a0_y_sets a0_y_coming a0_y_origins c_y_sets c_y_coming c_y_origins c_y_round) ⟨hx, hb, hml, hown, hts⟩ hK hP [1, 2, 3, 4] rfl (c_X4_of l dC dI ck a0_y a0_y_sets a0_y_coming a0_y_origins c_y_sets c_y_coming c_y_origins c_y_round v3_L5 r_35 q_35) (cwV 1 hts gX2_aCardIsBroken_X4_of rfl rfl rfl (by decide +kernel) ⟨Nat.le_of_ble_eq_true rfl, Nat.le_of_ble_eq_true rfl⟩) 1 rfl rfl rfl hl.1 rfl (Nat.le_of_ble_eq_true rfl) dX2_aCardIsBroken_35 ⟨Nat.zero_le _, Nat.zero_le _⟩ ?_
          refine lv_aload_n hx hb dX2_aCardIsBroken_38 rfl (lv_at hl 2 rfl) ?_
          refine va_get (ci := 2) (v := .ref a0_n) (C := RX2) (T := TX2) (N := 3) hx hb hts iu_X2 hown hK.1 hP 0 rfl rfl 1 (by decide) (hts (.fieldLink RX2 18 "SheetMarks$Marks" "no" "LSheetMarks$Ticks;") (List.mem_of_getElem? (i := 2) rfl)) (fun _ h9 => h9) rfl dX2_aCardIsBroken_39 ?_
          refine lv_iload_n hx hb dX2_aCardIsBroken_42 rfl (lv_at hl 1 rfl) ?_
          obtain ⟨r_43, q_43, h⟩ := ob1_e h
          refine cRV (wc := wX4 ck a0_n a0_n_sets a0_n_coming a0_n_origins c_n_sets c_n_coming c_n_origins c_n_round) ⟨hx, hb, hml, hown, hts⟩ hK hP [5, 6, 7, 8] rfl (c_X4_of l dC dI ck a0_n a0_n_sets a0_n_coming a0_n_origins c_n_sets c_n_coming c_n_origins c_n_round v3_L5 r_43 q_43) (cwV 1 hts gX2_aCardIsBroken_X4_of rfl rfl rfl (by decide +kernel) ⟨Nat.le_of_ble_eq_true rfl, Nat.le_of_ble_eq_true rfl⟩) 5 rfl rfl rfl hl.1 rfl (Nat.le_of_ble_eq_true rfl) dX2_aCardIsBroken_43 ⟨Nat.zero_le _, Nat.zero_le _⟩ ?_
          refine lv_iand hx hb dX2_aCardIsBroken_46 ?_
          refine lv_if_eq (tgt := 52) hx hb dX2_aCardIsBroken_47 (by decide) (fun c_47 => ?_) (fun c_47 => ?_)
          · have h := if_t h c_47
            refine lv_iinc (v := (v3_L5 + (1 : Int32))) (lv' := [(3, .int (v3_L5 + (1 : Int32))), (2, .int v2_29), (0, .ref a0), (1, .ref b1)]) hx hb dX2_aCardIsBroken_52 hl (k := 1) rfl rfl (by decide) rfl (fun ls hl => ?_)
            refine lv_goto (tgt := 5) hx hb dX2_aCardIsBroken_55 (by decide) ?_
            exact ih5 _ _ h _ (lv_sub hl [0, 1, 2, 3] rfl)
          · have h := if_f h c_47
            refine lv_iconst (v := (1 : Int32)) hx hb dX2_aCardIsBroken_50 rfl ?_
            cases h
            exact eRz hx hb hr hlk rfl rfl dX2_aCardIsBroken_51
  exact hL5 _ _ _ h _ (lv_sub hl [0, 1, 2, 3] rfl)
noncomputable def f_X2_aHandIsBroken_L2 (c_y_sets : Nat → Int32) (c_n_sets : Nat → Int32) (p1_players : Int32) (rec2 : Int32 → Option (Int32)) (v2_L2 : Int32) : Option (Int32) :=
  if (8 : Int32) ≤ v2_L2 then (some (0 : Int32)) else (ob1 (f_X0_hasHand p1_players v2_L2) (fun (r_10 : Int32) => if r_10 = (0 : Int32) then (rec2 (v2_L2 + (1 : Int32))) else (ob1 (f_X0_ownerOfHand v2_L2) (fun (r_17 : Int32) => ob1 (f_X0_cardsForHand v2_L2) (fun (r_22 : Int32) => ob1 (f_X0_sizeOfHand p1_players v2_L2) (fun (r_29 : Int32) => ob1 (f_X4_of c_y_sets r_17) (fun (r_41 : Int32) => ob1 (f_J6_bitCount_0f7a4 (r_22 &&& r_41)) (fun (r_45 : Int32) => if r_29 < r_45 then (some (1 : Int32)) else (ob1 (f_X4_of c_n_sets r_17) (fun (r_60 : Int32) => ob1 (f_J6_bitCount_0f7a4 (r_22 &&& (r_60 ^^^ (-1 : Int32)))) (fun (r_66 : Int32) => if r_29 ≤ r_66 then (rec2 (v2_L2 + (1 : Int32))) else (some (1 : Int32)))))))))))))
noncomputable def f_X2_aHandIsBroken (c_y_sets : Nat → Int32) (c_n_sets : Nat → Int32) (p1_players : Int32) : Option (Int32) :=
  lo1 (f_X2_aHandIsBroken_L2 c_y_sets c_n_sets p1_players) FU (0 : Int32)
set_option maxHeartbeats 4000000 in
set_option maxRecDepth 100000 in
theorem c_X2_aHandIsBroken (l : Launch) (dC : Nat → ClassId) (dI : Nat → Nat → Nat) (ck : Nat → ClassId) (a0 a0_y a0_y_sets a0_y_coming a0_y_origins a0_n a0_n_sets a0_n_coming a0_n_origins b1 b1_kinds b1_owners b1_cards : Nat) (c_y_sets : Nat → Int32) (c_y_coming : Nat → Int32) (c_y_origins : Nat → Int32) (c_y_round : Int32) (c_n_sets : Nat → Int32) (c_n_coming : Nat → Int32) (c_n_origins : Nat → Int32) (c_n_round : Int32) (c_rounds : Int32) (p1_players : Int32) (p1_told : Int32) (p1_kinds : Nat → Int32) (p1_owners : Nat → Int32) (p1_cards : Nat → Int32) (o0 : Int32) (h : f_X2_aHandIsBroken c_y_sets c_n_sets p1_players = some o0) : RD l yX2_aHandIsBroken wsX2_aHandIsBroken ({ frames := 2, cells := 0, slots := 0, locals := 42 }) [.ref a0, .ref b1] (dC, dI) ck (wX2 ck a0 a0_y a0_y_sets a0_y_coming a0_y_origins a0_n a0_n_sets a0_n_coming a0_n_origins c_y_sets c_y_coming c_y_origins c_y_round c_n_sets c_n_coming c_n_origins c_n_round c_rounds ++ wX0 ck b1 b1_kinds b1_owners b1_cards p1_players p1_told p1_kinds p1_owners p1_cards) o0 := by
  refine RD.ofW (cc := cX2_aHandIsBroken) (maxL := 6) (ret := (some .boolean)) (by decide +kernel) rfl (Nat.le_of_ble_eq_true rfl) ?_
  intro p e s m below meth c hx hb hr hml hts hown hlk hK hP ls hl
  have hown : s.vm.findClass RX2 = some m.cls := hown
  have hl : lv_has ls 6 [(0, .ref a0), (1, .ref b1)] := hl
  have iu_X2 : ∀ w ∈ u_ws RX2 TX2 3, w ∈ wsX2_aHandIsBroken := fun w h => List.mem_cons_of_mem _ (List.mem_append_left _ (List.mem_append_left _ (List.mem_append_right _ h)))
  unfold f_X2_aHandIsBroken at h
  refine lv_iconst (v := (0 : Int32)) hx hb dX2_aHandIsBroken_0 rfl ?_
  refine lv_istore_n (lv' := [(2, .int (0 : Int32)), (0, .ref a0), (1, .ref b1)]) hx hb dX2_aHandIsBroken_1 rfl hl (by decide) rfl (fun ls hl => ?_)
  have hL2 : ∀ (n2 : Nat) (v2_L2 : Int32), lo1 (f_X2_aHandIsBroken_L2 c_y_sets c_n_sets p1_players) n2 v2_L2 = some o0 → ∀ ls : Array Slot, lv_has ls 6 [(2, .int v2_L2), (0, .ref a0), (1, .ref b1)] → W p l e (headSpec wsX2_aHandIsBroken ({ frames := 2, cells := 0, slots := 0, locals := 42 })).room s m [.ref a0, .ref b1].toArray below meth c s.heap [] 0 0 (MQ below (QcRead o0) [.ref a0, .ref b1].toArray s 0 0 (fun _ => False)) (F0 m 2 ls []) := by
    intro n2
    induction n2 with
    | zero => intro v2_L2 h; exact lo1_z h
    | succ n2 ih2 =>
      intro v2_L2 h ls hl
      have h := lo1_s h
      unfold f_X2_aHandIsBroken_L2 at h
      refine lv_iload_n hx hb dX2_aHandIsBroken_2 rfl (lv_at hl 0 rfl) ?_
      refine lv_bipush (v := (8 : Int32)) hx hb dX2_aHandIsBroken_3 rfl ?_
      refine lv_icmp_ge (tgt := 82) hx hb dX2_aHandIsBroken_5 (by decide) (fun c_5 => ?_) (fun c_5 => ?_)
      · have h := if_t h c_5
        refine lv_iconst (v := (0 : Int32)) hx hb dX2_aHandIsBroken_82 rfl ?_
        cases h
        exact eRz hx hb hr hlk rfl rfl dX2_aHandIsBroken_83
      · have h := if_f h c_5
        refine lv_aload_n hx hb dX2_aHandIsBroken_8 rfl (lv_at hl 2 rfl) ?_
        refine lv_iload_n hx hb dX2_aHandIsBroken_9 rfl (lv_at hl 0 rfl) ?_
        obtain ⟨r_10, q_10, h⟩ := ob1_e h
        refine cRV (wc := wX0 ck b1 b1_kinds b1_owners b1_cards p1_players p1_told p1_kinds p1_owners p1_cards) ⟨hx, hb, hml, hown, hts⟩ hK hP [9, 10, 11, 12] rfl (c_X0_hasHand l dC dI ck b1 b1_kinds b1_owners b1_cards p1_players p1_told p1_kinds p1_owners p1_cards v2_L2 r_10 q_10) (cwV 1 hts gX2_aHandIsBroken_X0_hasHand rfl rfl rfl (by decide +kernel) ⟨Nat.le_of_ble_eq_true rfl, Nat.le_of_ble_eq_true rfl⟩) 9 rfl rfl rfl hl.1 rfl (Nat.le_of_ble_eq_true rfl) dX2_aHandIsBroken_10 ⟨Nat.zero_le _, Nat.zero_le _⟩ ?_
        refine lv_if_eq (tgt := 76) hx hb dX2_aHandIsBroken_13 (by decide) (fun c_13 => ?_) (fun c_13 => ?_)
        · have h := if_t h c_13
          refine lv_iinc (v := (v2_L2 + (1 : Int32))) (lv' := [(2, .int (v2_L2 + (1 : Int32))), (0, .ref a0), (1, .ref b1)]) hx hb dX2_aHandIsBroken_76 hl (k := 0) rfl rfl (by decide) rfl (fun ls hl => ?_)
          refine lv_goto (tgt := 2) hx hb dX2_aHandIsBroken_79 (by decide) ?_
          exact ih2 _ h _ (lv_sub hl [0, 1, 2] rfl)
        · have h := if_f h c_13
          refine lv_iload_n hx hb dX2_aHandIsBroken_16 rfl (lv_at hl 0 rfl) ?_
          obtain ⟨r_17, q_17, h⟩ := ob1_e h
          refine cRS (wc := []) ⟨hx, hb, hml, hown, hts⟩ hK hP [] rfl (c_X0_ownerOfHand l dC dI ck v2_L2 r_17 q_17) (va_cwS 1 hts gX2_aHandIsBroken_X0_ownerOfHand rfl rfl rfl (by decide +kernel) ⟨Nat.le_of_ble_eq_true rfl, Nat.le_of_ble_eq_true rfl⟩) rfl hl.1 rfl (Nat.le_of_ble_eq_true rfl) dX2_aHandIsBroken_17 ⟨Nat.zero_le _, Nat.zero_le _⟩ ?_
          refine lv_istore_n (lv' := [(3, .int r_17), (2, .int v2_L2), (0, .ref a0), (1, .ref b1)]) hx hb dX2_aHandIsBroken_20 rfl hl (by decide) rfl (fun ls hl => ?_)
          refine lv_iload_n hx hb dX2_aHandIsBroken_21 rfl (lv_at hl 1 rfl) ?_
          obtain ⟨r_22, q_22, h⟩ := ob1_e h
          refine cRS (wc := []) ⟨hx, hb, hml, hown, hts⟩ hK hP [] rfl (c_X0_cardsForHand l dC dI ck v2_L2 r_22 q_22) (va_cwS 1 hts gX2_aHandIsBroken_X0_cardsForHand rfl rfl rfl (by decide +kernel) ⟨Nat.le_of_ble_eq_true rfl, Nat.le_of_ble_eq_true rfl⟩) rfl hl.1 rfl (Nat.le_of_ble_eq_true rfl) dX2_aHandIsBroken_22 ⟨Nat.zero_le _, Nat.zero_le _⟩ ?_
          refine lv_istore (lv' := [(4, .int r_22), (3, .int r_17), (2, .int v2_L2), (0, .ref a0), (1, .ref b1)]) hx hb dX2_aHandIsBroken_25 hl (by decide) rfl (fun ls hl => ?_)
          refine lv_aload_n hx hb dX2_aHandIsBroken_27 rfl (lv_at hl 4 rfl) ?_
          refine lv_iload_n hx hb dX2_aHandIsBroken_28 rfl (lv_at hl 2 rfl) ?_
          obtain ⟨r_29, q_29, h⟩ := ob1_e h
          refine cRV (wc := wX0 ck b1 b1_kinds b1_owners b1_cards p1_players p1_told p1_kinds p1_owners p1_cards) ⟨hx, hb, hml, hown, hts⟩ hK hP [9, 10, 11, 12] rfl (c_X0_sizeOfHand l dC dI ck b1 b1_kinds b1_owners b1_cards p1_players p1_told p1_kinds p1_owners p1_cards v2_L2 r_29 q_29) (cwV 1 hts gX2_aHandIsBroken_X0_sizeOfHand rfl rfl rfl (by decide +kernel) ⟨Nat.le_of_ble_eq_true rfl, Nat.le_of_ble_eq_true rfl⟩) 9 rfl rfl rfl hl.1 rfl (Nat.le_of_ble_eq_true rfl) dX2_aHandIsBroken_29 ⟨Nat.zero_le _, Nat.zero_le _⟩ ?_
          refine lv_istore (lv' := [(5, .int r_29), (4, .int r_22), (3, .int r_17), (2, .int v2_L2), (0, .ref a0), (1, .ref b1)]) hx hb dX2_aHandIsBroken_32 hl (by decide) rfl (fun ls hl => ?_)
          refine lv_iload hx hb dX2_aHandIsBroken_34 (lv_at hl 1 rfl) ?_
          refine lv_aload_n hx hb dX2_aHandIsBroken_36 rfl (lv_at hl 4 rfl) ?_
          refine va_get (ci := 2) (v := .ref a0_y) (C := RX2) (T := TX2) (N := 3) hx hb hts iu_X2 hown hK.1 hP 0 rfl rfl 0 (by decide) (hts (.fieldLink RX2 12 "SheetMarks$Marks" "yes" "LSheetMarks$Ticks;") (List.mem_of_getElem? (i := 1) rfl)) (fun _ h9 => h9) rfl dX2_aHandIsBroken_37 ?_
          refine lv_iload_n hx hb dX2_aHandIsBroken_40 rfl (lv_at hl 2 rfl) ?_
          obtain ⟨r_41, q_41, h⟩ := ob1_e h
          refine cRV (wc := wX4 ck a0_y a0_y_sets a0_y_coming a0_y_origins c_y_sets c_y_coming c_y_origins c_y_round) ⟨hx, hb, hml, hown, hts⟩ hK hP [1, 2, 3, 4] rfl (c_X4_of l dC dI ck a0_y a0_y_sets a0_y_coming a0_y_origins c_y_sets c_y_coming c_y_origins c_y_round r_17 r_41 q_41) (cwV 1 hts gX2_aHandIsBroken_X4_of rfl rfl rfl (by decide +kernel) ⟨Nat.le_of_ble_eq_true rfl, Nat.le_of_ble_eq_true rfl⟩) 1 rfl rfl rfl hl.1 rfl (Nat.le_of_ble_eq_true rfl) dX2_aHandIsBroken_41 ⟨Nat.zero_le _, Nat.zero_le _⟩ ?_
          refine lv_iand hx hb dX2_aHandIsBroken_44 ?_
          obtain ⟨r_45, q_45, h⟩ := ob1_e h
          refine cRS (wc := []) ⟨hx, hb, hml, hown, hts⟩ hK hP [] rfl (c_J6_bitCount_0f7a4 l dC dI ck (r_22 &&& r_41) r_45 q_45) (va_cwS 1 hts gX2_aHandIsBroken_J6_bitCount_0f7a4 rfl rfl rfl (by decide +kernel) ⟨Nat.le_of_ble_eq_true rfl, Nat.le_of_ble_eq_true rfl⟩) rfl hl.1 rfl (Nat.le_of_ble_eq_true rfl) dX2_aHandIsBroken_45 ⟨Nat.zero_le _, Nat.zero_le _⟩ ?_
          refine lv_iload hx hb dX2_aHandIsBroken_48 (lv_at hl 0 rfl) ?_
          refine lv_icmp_gt (tgt := 74) hx hb dX2_aHandIsBroken_50 (by decide) (fun c_50 => ?_) (fun c_50 => ?_)
          · have h := if_t h c_50
            refine lv_iconst (v := (1 : Int32)) hx hb dX2_aHandIsBroken_74 rfl ?_
            cases h
            exact eRz hx hb hr hlk rfl rfl dX2_aHandIsBroken_75
          · have h := if_f h c_50
            refine lv_iload hx hb dX2_aHandIsBroken_53 (lv_at hl 1 rfl) ?_
            refine lv_aload_n hx hb dX2_aHandIsBroken_55 rfl (lv_at hl 4 rfl) ?_
            refine va_get (ci := 2) (v := .ref a0_n) (C := RX2) (T := TX2) (N := 3) hx hb hts iu_X2 hown hK.1 hP 0 rfl rfl 1 (by decide) (hts (.fieldLink RX2 18 "SheetMarks$Marks" "no" "LSheetMarks$Ticks;") (List.mem_of_getElem? (i := 2) rfl)) (fun _ h9 => h9) rfl dX2_aHandIsBroken_56 ?_
            refine lv_iload_n hx hb dX2_aHandIsBroken_59 rfl (lv_at hl 2 rfl) ?_
            obtain ⟨r_60, q_60, h⟩ := ob1_e h
            refine cRV (wc := wX4 ck a0_n a0_n_sets a0_n_coming a0_n_origins c_n_sets c_n_coming c_n_origins c_n_round) ⟨hx, hb, hml, hown, hts⟩ hK hP [5, 6, 7, 8] rfl (c_X4_of l dC dI ck a0_n a0_n_sets a0_n_coming a0_n_origins c_n_sets c_n_coming c_n_origins c_n_round r_17 r_60 q_60) (cwV 1 hts gX2_aHandIsBroken_X4_of rfl rfl rfl (by decide +kernel) ⟨Nat.le_of_ble_eq_true rfl, Nat.le_of_ble_eq_true rfl⟩) 5 rfl rfl rfl hl.1 rfl (Nat.le_of_ble_eq_true rfl) dX2_aHandIsBroken_60 ⟨Nat.zero_le _, Nat.zero_le _⟩ ?_
            refine lv_iconst (v := (-1 : Int32)) hx hb dX2_aHandIsBroken_63 rfl ?_
            refine lv_ixor hx hb dX2_aHandIsBroken_64 ?_
            refine lv_iand hx hb dX2_aHandIsBroken_65 ?_
            obtain ⟨r_66, q_66, h⟩ := ob1_e h
            refine cRS (wc := []) ⟨hx, hb, hml, hown, hts⟩ hK hP [] rfl (c_J6_bitCount_0f7a4 l dC dI ck (r_22 &&& (r_60 ^^^ (-1 : Int32))) r_66 q_66) (va_cwS 1 hts gX2_aHandIsBroken_J6_bitCount_0f7a4 rfl rfl rfl (by decide +kernel) ⟨Nat.le_of_ble_eq_true rfl, Nat.le_of_ble_eq_true rfl⟩) rfl hl.1 rfl (Nat.le_of_ble_eq_true rfl) dX2_aHandIsBroken_66 ⟨Nat.zero_le _, Nat.zero_le _⟩ ?_
            refine lv_iload hx hb dX2_aHandIsBroken_69 (lv_at hl 0 rfl) ?_
            refine lv_icmp_ge (tgt := 76) hx hb dX2_aHandIsBroken_71 (by decide) (fun c_71 => ?_) (fun c_71 => ?_)
            · have h := if_t h c_71
              refine lv_iinc (v := (v2_L2 + (1 : Int32))) (lv' := [(2, .int (v2_L2 + (1 : Int32))), (5, .int r_29), (4, .int r_22), (3, .int r_17), (0, .ref a0), (1, .ref b1)]) hx hb dX2_aHandIsBroken_76 hl (k := 3) rfl rfl (by decide) rfl (fun ls hl => ?_)
              refine lv_goto (tgt := 2) hx hb dX2_aHandIsBroken_79 (by decide) ?_
              exact ih2 _ h _ (lv_sub hl [0, 4, 5] rfl)
            · have h := if_f h c_71
              refine lv_iconst (v := (1 : Int32)) hx hb dX2_aHandIsBroken_74 rfl ?_
              cases h
              exact eRz hx hb hr hlk rfl rfl dX2_aHandIsBroken_75
  exact hL2 _ _ h _ (lv_sub hl [0, 1, 2] rfl)
noncomputable def f_X2_aThreeIsBroken_L2 (c_y_sets : Nat → Int32) (c_n_sets : Nat → Int32) (p1_told : Int32) (p1_kinds : Nat → Int32) (p1_owners : Nat → Int32) (p1_cards : Nat → Int32) (rec2 : Int32 → Option (Int32)) (v2_L2 : Int32) : Option (Int32) :=
  if p1_told ≤ v2_L2 then (some (0 : Int32)) else (gd v2_L2 41 (if (p1_kinds v2_L2.toNatClampNeg) = (2 : Int32) then (if (1 : Int32) = (0 : Int32) then (rec2 (v2_L2 + (1 : Int32))) else (ob1 (f_X2_leftOfThree c_y_sets c_n_sets p1_kinds p1_owners p1_cards v2_L2) (fun (r_43 : Int32) => if r_43 = (0 : Int32) then (some (1 : Int32)) else (rec2 (v2_L2 + (1 : Int32)))))) else (gd v2_L2 41 (if (p1_kinds v2_L2.toNatClampNeg) = (3 : Int32) then (if (1 : Int32) = (0 : Int32) then (rec2 (v2_L2 + (1 : Int32))) else (ob1 (f_X2_leftOfThree c_y_sets c_n_sets p1_kinds p1_owners p1_cards v2_L2) (fun (r_43 : Int32) => if r_43 = (0 : Int32) then (some (1 : Int32)) else (rec2 (v2_L2 + (1 : Int32)))))) else (if (0 : Int32) = (0 : Int32) then (rec2 (v2_L2 + (1 : Int32))) else (ob1 (f_X2_leftOfThree c_y_sets c_n_sets p1_kinds p1_owners p1_cards v2_L2) (fun (r_43 : Int32) => if r_43 = (0 : Int32) then (some (1 : Int32)) else (rec2 (v2_L2 + (1 : Int32))))))))))
noncomputable def f_X2_aThreeIsBroken (c_y_sets : Nat → Int32) (c_n_sets : Nat → Int32) (p1_told : Int32) (p1_kinds : Nat → Int32) (p1_owners : Nat → Int32) (p1_cards : Nat → Int32) : Option (Int32) :=
  lo1 (f_X2_aThreeIsBroken_L2 c_y_sets c_n_sets p1_told p1_kinds p1_owners p1_cards) FU (0 : Int32)
set_option maxHeartbeats 4000000 in
set_option maxRecDepth 100000 in
theorem c_X2_aThreeIsBroken (l : Launch) (dC : Nat → ClassId) (dI : Nat → Nat → Nat) (ck : Nat → ClassId) (a0 a0_y a0_y_sets a0_y_coming a0_y_origins a0_n a0_n_sets a0_n_coming a0_n_origins b1 b1_kinds b1_owners b1_cards : Nat) (c_y_sets : Nat → Int32) (c_y_coming : Nat → Int32) (c_y_origins : Nat → Int32) (c_y_round : Int32) (c_n_sets : Nat → Int32) (c_n_coming : Nat → Int32) (c_n_origins : Nat → Int32) (c_n_round : Int32) (c_rounds : Int32) (p1_players : Int32) (p1_told : Int32) (p1_kinds : Nat → Int32) (p1_owners : Nat → Int32) (p1_cards : Nat → Int32) (o0 : Int32) (h : f_X2_aThreeIsBroken c_y_sets c_n_sets p1_told p1_kinds p1_owners p1_cards = some o0) : RD l yX2_aThreeIsBroken wsX2_aThreeIsBroken ({ frames := 2, cells := 0, slots := 0, locals := 44 }) [.ref a0, .ref b1] (dC, dI) ck (wX2 ck a0 a0_y a0_y_sets a0_y_coming a0_y_origins a0_n a0_n_sets a0_n_coming a0_n_origins c_y_sets c_y_coming c_y_origins c_y_round c_n_sets c_n_coming c_n_origins c_n_round c_rounds ++ wX0 ck b1 b1_kinds b1_owners b1_cards p1_players p1_told p1_kinds p1_owners p1_cards) o0 := by
  refine RD.ofW (cc := cX2_aThreeIsBroken) (maxL := 4) (ret := (some .boolean)) (by decide +kernel) rfl (Nat.le_of_ble_eq_true rfl) ?_
  intro p e s m below meth c hx hb hr hml hts hown hlk hK hP ls hl
  have hown : s.vm.findClass RX2 = some m.cls := hown
  have hl : lv_has ls 4 [(0, .ref a0), (1, .ref b1)] := hl
  have iu_X0 : ∀ w ∈ u_ws RX0 TX0 5, w ∈ wsX2_aThreeIsBroken := fun w h => List.mem_cons_of_mem _ (List.mem_append_left _ (List.mem_append_left _ (List.mem_append_right _ h)))
  unfold f_X2_aThreeIsBroken at h
  refine lv_iconst (v := (0 : Int32)) hx hb dX2_aThreeIsBroken_0 rfl ?_
  refine lv_istore_n (lv' := [(2, .int (0 : Int32)), (0, .ref a0), (1, .ref b1)]) hx hb dX2_aThreeIsBroken_1 rfl hl (by decide) rfl (fun ls hl => ?_)
  have hL2 : ∀ (n2 : Nat) (v2_L2 : Int32), lo1 (f_X2_aThreeIsBroken_L2 c_y_sets c_n_sets p1_told p1_kinds p1_owners p1_cards) n2 v2_L2 = some o0 → ∀ ls : Array Slot, lv_has ls 4 [(2, .int v2_L2), (0, .ref a0), (1, .ref b1)] → W p l e (headSpec wsX2_aThreeIsBroken ({ frames := 2, cells := 0, slots := 0, locals := 44 })).room s m [.ref a0, .ref b1].toArray below meth c s.heap [] 0 0 (MQ below (QcRead o0) [.ref a0, .ref b1].toArray s 0 0 (fun _ => False)) (F0 m 2 ls []) := by
    intro n2
    induction n2 with
    | zero => intro v2_L2 h; exact lo1_z h
    | succ n2 ih2 =>
      intro v2_L2 h ls hl
      have h := lo1_s h
      unfold f_X2_aThreeIsBroken_L2 at h
      refine lv_iload_n hx hb dX2_aThreeIsBroken_2 rfl (lv_at hl 0 rfl) ?_
      refine lv_aload_n hx hb dX2_aThreeIsBroken_3 rfl (lv_at hl 2 rfl) ?_
      refine va_getN (ci := 0) (v := .int p1_told) (C := RX0) (T := TX0) (N := 5) hx hb hts iu_X0 hown hK.1 hP 9 rfl rfl 1 (by decide) (va_Nw.use rfl (hK.2.f 2 rfl)) (fun _ h9 => h9) rfl dX2_aThreeIsBroken_4 ?_
      refine lv_icmp_ge (tgt := 57) hx hb dX2_aThreeIsBroken_7 (by decide) (fun c_7 => ?_) (fun c_7 => ?_)
      · have h := if_t h c_7
        refine lv_iconst (v := (0 : Int32)) hx hb dX2_aThreeIsBroken_57 rfl ?_
        cases h
        exact eRz hx hb hr hlk rfl rfl dX2_aThreeIsBroken_58
      · have h := if_f h c_7
        refine lv_aload_n hx hb dX2_aThreeIsBroken_10 rfl (lv_at hl 2 rfl) ?_
        refine va_getN (ci := 0) (v := .ref b1_kinds) (C := RX0) (T := TX0) (N := 5) hx hb hts iu_X0 hown hK.1 hP 9 rfl rfl 2 (by decide) (va_Nw.use rfl (hK.2.f 3 rfl)) (fun _ h9 => h9) rfl dX2_aThreeIsBroken_11 ?_
        refine lv_iload_n hx hb dX2_aThreeIsBroken_14 rfl (lv_at hl 0 rfl) ?_
        obtain ⟨g_15, h⟩ := gd_e h
        refine va_iald hx hb hK.1 hP 10 0 rfl rfl g_15 dX2_aThreeIsBroken_15 ?_
        refine lv_iconst (v := (2 : Int32)) hx hb dX2_aThreeIsBroken_16 rfl ?_
        refine lv_icmp_eq (tgt := 30) hx hb dX2_aThreeIsBroken_17 (by decide) (fun c_17 => ?_) (fun c_17 => ?_)
        · have h := if_t h c_17
          refine lv_iconst (v := (1 : Int32)) hx hb dX2_aThreeIsBroken_30 rfl ?_
          refine lv_goto (tgt := 35) hx hb dX2_aThreeIsBroken_31 (by decide) ?_
          refine lv_istore_n (lv' := [(3, .int (1 : Int32)), (2, .int v2_L2), (0, .ref a0), (1, .ref b1)]) hx hb dX2_aThreeIsBroken_35 rfl hl (by decide) rfl (fun ls hl => ?_)
          refine lv_iload_n hx hb dX2_aThreeIsBroken_36 rfl (lv_at hl 0 rfl) ?_
          refine lv_if_eq (tgt := 51) hx hb dX2_aThreeIsBroken_37 (by decide) (fun c_37 => ?_) (fun c_37 => ?_)
          · have h := if_t h c_37
            refine lv_iinc (v := (v2_L2 + (1 : Int32))) (lv' := [(2, .int (v2_L2 + (1 : Int32))), (3, .int (1 : Int32)), (0, .ref a0), (1, .ref b1)]) hx hb dX2_aThreeIsBroken_51 hl (k := 1) rfl rfl (by decide) rfl (fun ls hl => ?_)
            refine lv_goto (tgt := 2) hx hb dX2_aThreeIsBroken_54 (by decide) ?_
            exact ih2 _ h _ (lv_sub hl [0, 2, 3] rfl)
          · have h := if_f h c_37
            refine lv_aload_n hx hb dX2_aThreeIsBroken_40 rfl (lv_at hl 2 rfl) ?_
            refine lv_aload_n hx hb dX2_aThreeIsBroken_41 rfl (lv_at hl 3 rfl) ?_
            refine lv_iload_n hx hb dX2_aThreeIsBroken_42 rfl (lv_at hl 1 rfl) ?_
            obtain ⟨r_43, q_43, h⟩ := ob1_e h
            refine cRV (wc := wX2 ck a0 a0_y a0_y_sets a0_y_coming a0_y_origins a0_n a0_n_sets a0_n_coming a0_n_origins c_y_sets c_y_coming c_y_origins c_y_round c_n_sets c_n_coming c_n_origins c_n_round c_rounds ++ wX0 ck b1 b1_kinds b1_owners b1_cards p1_players p1_told p1_kinds p1_owners p1_cards) ⟨hx, hb, hml, hown, hts⟩ hK hP [0, 1, 2, 3, 4, 5, 6, 7, 8, 9, 10, 11, 12] rfl (c_X2_leftOfThree l dC dI ck a0 a0_y a0_y_sets a0_y_coming a0_y_origins a0_n a0_n_sets a0_n_coming a0_n_origins b1 b1_kinds b1_owners b1_cards c_y_sets c_y_coming c_y_origins c_y_round c_n_sets c_n_coming c_n_origins c_n_round c_rounds p1_players p1_told p1_kinds p1_owners p1_cards v2_L2 r_43 q_43) (cwV 2 hts gX2_aThreeIsBroken_X2_leftOfThree rfl rfl rfl (by decide +kernel) ⟨Nat.le_of_ble_eq_true rfl, Nat.le_of_ble_eq_true rfl⟩) 0 rfl rfl rfl hl.1 rfl (Nat.le_of_ble_eq_true rfl) dX2_aThreeIsBroken_43 ⟨Nat.zero_le _, Nat.zero_le _⟩ ?_
            refine lv_if_ne (tgt := 51) hx hb dX2_aThreeIsBroken_46 (by decide) (fun c_46 => ?_) (fun c_46 => ?_)
            · have h := if_f h c_46
              refine lv_iinc (v := (v2_L2 + (1 : Int32))) (lv' := [(2, .int (v2_L2 + (1 : Int32))), (3, .int (1 : Int32)), (0, .ref a0), (1, .ref b1)]) hx hb dX2_aThreeIsBroken_51 hl (k := 1) rfl rfl (by decide) rfl (fun ls hl => ?_)
              refine lv_goto (tgt := 2) hx hb dX2_aThreeIsBroken_54 (by decide) ?_
              exact ih2 _ h _ (lv_sub hl [0, 2, 3] rfl)
            · have h := if_t h c_46
              refine lv_iconst (v := (1 : Int32)) hx hb dX2_aThreeIsBroken_49 rfl ?_
              cases h
              exact eRz hx hb hr hlk rfl rfl dX2_aThreeIsBroken_50
        · have h := if_f h c_17
          refine lv_aload_n hx hb dX2_aThreeIsBroken_20 rfl (lv_at hl 2 rfl) ?_
          refine va_getN (ci := 0) (v := .ref b1_kinds) (C := RX0) (T := TX0) (N := 5) hx hb hts iu_X0 hown hK.1 hP 9 rfl rfl 2 (by decide) (va_Nw.use rfl (hK.2.f 3 rfl)) (fun _ h9 => h9) rfl dX2_aThreeIsBroken_21 ?_
          refine lv_iload_n hx hb dX2_aThreeIsBroken_24 rfl (lv_at hl 0 rfl) ?_
          obtain ⟨g_25, h⟩ := gd_e h
          refine va_iald hx hb hK.1 hP 10 0 rfl rfl g_25 dX2_aThreeIsBroken_25 ?_
          refine lv_iconst (v := (3 : Int32)) hx hb dX2_aThreeIsBroken_26 rfl ?_
          refine lv_icmp_ne (tgt := 34) hx hb dX2_aThreeIsBroken_27 (by decide) (fun c_27 => ?_) (fun c_27 => ?_)
          · have h := if_f h c_27
            refine lv_iconst (v := (0 : Int32)) hx hb dX2_aThreeIsBroken_34 rfl ?_
            refine lv_istore_n (lv' := [(3, .int (0 : Int32)), (2, .int v2_L2), (0, .ref a0), (1, .ref b1)]) hx hb dX2_aThreeIsBroken_35 rfl hl (by decide) rfl (fun ls hl => ?_)
            refine lv_iload_n hx hb dX2_aThreeIsBroken_36 rfl (lv_at hl 0 rfl) ?_
            refine lv_if_eq (tgt := 51) hx hb dX2_aThreeIsBroken_37 (by decide) (fun c_37 => ?_) (fun c_37 => ?_)
            · have h := if_t h c_37
              refine lv_iinc (v := (v2_L2 + (1 : Int32))) (lv' := [(2, .int (v2_L2 + (1 : Int32))), (3, .int (0 : Int32)), (0, .ref a0), (1, .ref b1)]) hx hb dX2_aThreeIsBroken_51 hl (k := 1) rfl rfl (by decide) rfl (fun ls hl => ?_)
              refine lv_goto (tgt := 2) hx hb dX2_aThreeIsBroken_54 (by decide) ?_
              exact ih2 _ h _ (lv_sub hl [0, 2, 3] rfl)
            · have h := if_f h c_37
              refine lv_aload_n hx hb dX2_aThreeIsBroken_40 rfl (lv_at hl 2 rfl) ?_
              refine lv_aload_n hx hb dX2_aThreeIsBroken_41 rfl (lv_at hl 3 rfl) ?_
              refine lv_iload_n hx hb dX2_aThreeIsBroken_42 rfl (lv_at hl 1 rfl) ?_
              obtain ⟨r_43, q_43, h⟩ := ob1_e h
              refine cRV (wc := wX2 ck a0 a0_y a0_y_sets a0_y_coming a0_y_origins a0_n a0_n_sets a0_n_coming a0_n_origins c_y_sets c_y_coming c_y_origins c_y_round c_n_sets c_n_coming c_n_origins c_n_round c_rounds ++ wX0 ck b1 b1_kinds b1_owners b1_cards p1_players p1_told p1_kinds p1_owners p1_cards) ⟨hx, hb, hml, hown, hts⟩ hK hP [0, 1, 2, 3, 4, 5, 6, 7, 8, 9, 10, 11, 12] rfl (c_X2_leftOfThree l dC dI ck a0 a0_y a0_y_sets a0_y_coming a0_y_origins a0_n a0_n_sets a0_n_coming a0_n_origins b1 b1_kinds b1_owners b1_cards c_y_sets c_y_coming c_y_origins c_y_round c_n_sets c_n_coming c_n_origins c_n_round c_rounds p1_players p1_told p1_kinds p1_owners p1_cards v2_L2 r_43 q_43) (cwV 2 hts gX2_aThreeIsBroken_X2_leftOfThree rfl rfl rfl (by decide +kernel) ⟨Nat.le_of_ble_eq_true rfl, Nat.le_of_ble_eq_true rfl⟩) 0 rfl rfl rfl hl.1 rfl (Nat.le_of_ble_eq_true rfl) dX2_aThreeIsBroken_43 ⟨Nat.zero_le _, Nat.zero_le _⟩ ?_
              refine lv_if_ne (tgt := 51) hx hb dX2_aThreeIsBroken_46 (by decide) (fun c_46 => ?_) (fun c_46 => ?_)
              · have h := if_f h c_46
                refine lv_iinc (v := (v2_L2 + (1 : Int32))) (lv' := [(2, .int (v2_L2 + (1 : Int32))), (3, .int (0 : Int32)), (0, .ref a0), (1, .ref b1)]) hx hb dX2_aThreeIsBroken_51 hl (k := 1) rfl rfl (by decide) rfl (fun ls hl => ?_)
                refine lv_goto (tgt := 2) hx hb dX2_aThreeIsBroken_54 (by decide) ?_
                exact ih2 _ h _ (lv_sub hl [0, 2, 3] rfl)
              · have h := if_t h c_46
                refine lv_iconst (v := (1 : Int32)) hx hb dX2_aThreeIsBroken_49 rfl ?_
                cases h
                exact eRz hx hb hr hlk rfl rfl dX2_aThreeIsBroken_50
          · have h := if_t h c_27
            refine lv_iconst (v := (1 : Int32)) hx hb dX2_aThreeIsBroken_30 rfl ?_
            refine lv_goto (tgt := 35) hx hb dX2_aThreeIsBroken_31 (by decide) ?_
            refine lv_istore_n (lv' := [(3, .int (1 : Int32)), (2, .int v2_L2), (0, .ref a0), (1, .ref b1)]) hx hb dX2_aThreeIsBroken_35 rfl hl (by decide) rfl (fun ls hl => ?_)
            refine lv_iload_n hx hb dX2_aThreeIsBroken_36 rfl (lv_at hl 0 rfl) ?_
            refine lv_if_eq (tgt := 51) hx hb dX2_aThreeIsBroken_37 (by decide) (fun c_37 => ?_) (fun c_37 => ?_)
            · have h := if_t h c_37
              refine lv_iinc (v := (v2_L2 + (1 : Int32))) (lv' := [(2, .int (v2_L2 + (1 : Int32))), (3, .int (1 : Int32)), (0, .ref a0), (1, .ref b1)]) hx hb dX2_aThreeIsBroken_51 hl (k := 1) rfl rfl (by decide) rfl (fun ls hl => ?_)
              refine lv_goto (tgt := 2) hx hb dX2_aThreeIsBroken_54 (by decide) ?_
              exact ih2 _ h _ (lv_sub hl [0, 2, 3] rfl)
            · have h := if_f h c_37
              refine lv_aload_n hx hb dX2_aThreeIsBroken_40 rfl (lv_at hl 2 rfl) ?_
              refine lv_aload_n hx hb dX2_aThreeIsBroken_41 rfl (lv_at hl 3 rfl) ?_
              refine lv_iload_n hx hb dX2_aThreeIsBroken_42 rfl (lv_at hl 1 rfl) ?_
              obtain ⟨r_43, q_43, h⟩ := ob1_e h
              refine cRV (wc := wX2 ck a0 a0_y a0_y_sets a0_y_coming a0_y_origins a0_n a0_n_sets a0_n_coming a0_n_origins c_y_sets c_y_coming c_y_origins c_y_round c_n_sets c_n_coming c_n_origins c_n_round c_rounds ++ wX0 ck b1 b1_kinds b1_owners b1_cards p1_players p1_told p1_kinds p1_owners p1_cards) ⟨hx, hb, hml, hown, hts⟩ hK hP [0, 1, 2, 3, 4, 5, 6, 7, 8, 9, 10, 11, 12] rfl (c_X2_leftOfThree l dC dI ck a0 a0_y a0_y_sets a0_y_coming a0_y_origins a0_n a0_n_sets a0_n_coming a0_n_origins b1 b1_kinds b1_owners b1_cards c_y_sets c_y_coming c_y_origins c_y_round c_n_sets c_n_coming c_n_origins c_n_round c_rounds p1_players p1_told p1_kinds p1_owners p1_cards v2_L2 r_43 q_43) (cwV 2 hts gX2_aThreeIsBroken_X2_leftOfThree rfl rfl rfl (by decide +kernel) ⟨Nat.le_of_ble_eq_true rfl, Nat.le_of_ble_eq_true rfl⟩) 0 rfl rfl rfl hl.1 rfl (Nat.le_of_ble_eq_true rfl) dX2_aThreeIsBroken_43 ⟨Nat.zero_le _, Nat.zero_le _⟩ ?_
              refine lv_if_ne (tgt := 51) hx hb dX2_aThreeIsBroken_46 (by decide) (fun c_46 => ?_) (fun c_46 => ?_)
              · have h := if_f h c_46
                refine lv_iinc (v := (v2_L2 + (1 : Int32))) (lv' := [(2, .int (v2_L2 + (1 : Int32))), (3, .int (1 : Int32)), (0, .ref a0), (1, .ref b1)]) hx hb dX2_aThreeIsBroken_51 hl (k := 1) rfl rfl (by decide) rfl (fun ls hl => ?_)
                refine lv_goto (tgt := 2) hx hb dX2_aThreeIsBroken_54 (by decide) ?_
                exact ih2 _ h _ (lv_sub hl [0, 2, 3] rfl)
              · have h := if_t h c_46
                refine lv_iconst (v := (1 : Int32)) hx hb dX2_aThreeIsBroken_49 rfl ?_
                cases h
                exact eRz hx hb hr hlk rfl rfl dX2_aThreeIsBroken_50
  exact hL2 _ _ h _ (lv_sub hl [0, 1, 2] rfl)
noncomputable def f_X2_areBroken (c_y_sets : Nat → Int32) (c_n_sets : Nat → Int32) (p1_players : Int32) (p1_told : Int32) (p1_kinds : Nat → Int32) (p1_owners : Nat → Int32) (p1_cards : Nat → Int32) : Option (Int32) :=
  ob1 (f_X2_aCardIsBroken c_y_sets c_n_sets p1_players) (fun (r_2 : Int32) => if r_2 = (0 : Int32) then (ob1 (f_X2_aHandIsBroken c_y_sets c_n_sets p1_players) (fun (r_10 : Int32) => if r_10 = (0 : Int32) then (ob1 (f_X2_aThreeIsBroken c_y_sets c_n_sets p1_told p1_kinds p1_owners p1_cards) (fun (r_18 : Int32) => if r_18 = (0 : Int32) then (some (0 : Int32)) else (some (1 : Int32)))) else (some (1 : Int32)))) else (some (1 : Int32)))
set_option maxHeartbeats 4000000 in
set_option maxRecDepth 100000 in
theorem c_X2_areBroken (l : Launch) (dC : Nat → ClassId) (dI : Nat → Nat → Nat) (ck : Nat → ClassId) (a0 a0_y a0_y_sets a0_y_coming a0_y_origins a0_n a0_n_sets a0_n_coming a0_n_origins b1 b1_kinds b1_owners b1_cards : Nat) (c_y_sets : Nat → Int32) (c_y_coming : Nat → Int32) (c_y_origins : Nat → Int32) (c_y_round : Int32) (c_n_sets : Nat → Int32) (c_n_coming : Nat → Int32) (c_n_origins : Nat → Int32) (c_n_round : Int32) (c_rounds : Int32) (p1_players : Int32) (p1_told : Int32) (p1_kinds : Nat → Int32) (p1_owners : Nat → Int32) (p1_cards : Nat → Int32) (o0 : Int32) (h : f_X2_areBroken c_y_sets c_n_sets p1_players p1_told p1_kinds p1_owners p1_cards = some o0) : RD l yX2_areBroken wsX2_areBroken ({ frames := 3, cells := 0, slots := 0, locals := 67 }) [.ref a0, .ref b1] (dC, dI) ck (wX2 ck a0 a0_y a0_y_sets a0_y_coming a0_y_origins a0_n a0_n_sets a0_n_coming a0_n_origins c_y_sets c_y_coming c_y_origins c_y_round c_n_sets c_n_coming c_n_origins c_n_round c_rounds ++ wX0 ck b1 b1_kinds b1_owners b1_cards p1_players p1_told p1_kinds p1_owners p1_cards) o0 := by
  refine RD.ofW (cc := cX2_areBroken) (maxL := 2) (ret := (some .boolean)) (by decide +kernel) rfl (Nat.le_of_ble_eq_true rfl) ?_
  intro p e s m below meth c hx hb hr hml hts hown hlk hK hP ls hl
  have hown : s.vm.findClass RX2 = some m.cls := hown
  have hl : lv_has ls 2 [(0, .ref a0), (1, .ref b1)] := hl
  unfold f_X2_areBroken at h
  refine lv_aload_n hx hb dX2_areBroken_0 rfl (lv_at hl 0 rfl) ?_
  refine lv_aload_n hx hb dX2_areBroken_1 rfl (lv_at hl 1 rfl) ?_
  obtain ⟨r_2, q_2, h⟩ := ob1_e h
  refine cRV (wc := wX2 ck a0 a0_y a0_y_sets a0_y_coming a0_y_origins a0_n a0_n_sets a0_n_coming a0_n_origins c_y_sets c_y_coming c_y_origins c_y_round c_n_sets c_n_coming c_n_origins c_n_round c_rounds ++ wX0 ck b1 b1_kinds b1_owners b1_cards p1_players p1_told p1_kinds p1_owners p1_cards) ⟨hx, hb, hml, hown, hts⟩ hK hP [0, 1, 2, 3, 4, 5, 6, 7, 8, 9, 10, 11, 12] rfl (c_X2_aCardIsBroken l dC dI ck a0 a0_y a0_y_sets a0_y_coming a0_y_origins a0_n a0_n_sets a0_n_coming a0_n_origins b1 b1_kinds b1_owners b1_cards c_y_sets c_y_coming c_y_origins c_y_round c_n_sets c_n_coming c_n_origins c_n_round c_rounds p1_players p1_told p1_kinds p1_owners p1_cards r_2 q_2) (cwV 1 hts gX2_areBroken_X2_aCardIsBroken rfl rfl rfl (by decide +kernel) ⟨Nat.le_of_ble_eq_true rfl, Nat.le_of_ble_eq_true rfl⟩) 0 rfl rfl rfl hl.1 rfl (Nat.le_of_ble_eq_true rfl) dX2_areBroken_2 ⟨Nat.zero_le _, Nat.zero_le _⟩ ?_
  refine lv_if_ne (tgt := 24) hx hb dX2_areBroken_5 (by decide) (fun c_5 => ?_) (fun c_5 => ?_)
  · have h := if_f h c_5
    refine lv_iconst (v := (1 : Int32)) hx hb dX2_areBroken_24 rfl ?_
    refine lv_goto (tgt := 29) hx hb dX2_areBroken_25 (by decide) ?_
    cases h
    exact eRz hx hb hr hlk rfl rfl dX2_areBroken_29
  · have h := if_t h c_5
    refine lv_aload_n hx hb dX2_areBroken_8 rfl (lv_at hl 0 rfl) ?_
    refine lv_aload_n hx hb dX2_areBroken_9 rfl (lv_at hl 1 rfl) ?_
    obtain ⟨r_10, q_10, h⟩ := ob1_e h
    refine cRV (wc := wX2 ck a0 a0_y a0_y_sets a0_y_coming a0_y_origins a0_n a0_n_sets a0_n_coming a0_n_origins c_y_sets c_y_coming c_y_origins c_y_round c_n_sets c_n_coming c_n_origins c_n_round c_rounds ++ wX0 ck b1 b1_kinds b1_owners b1_cards p1_players p1_told p1_kinds p1_owners p1_cards) ⟨hx, hb, hml, hown, hts⟩ hK hP [0, 1, 2, 3, 4, 5, 6, 7, 8, 9, 10, 11, 12] rfl (c_X2_aHandIsBroken l dC dI ck a0 a0_y a0_y_sets a0_y_coming a0_y_origins a0_n a0_n_sets a0_n_coming a0_n_origins b1 b1_kinds b1_owners b1_cards c_y_sets c_y_coming c_y_origins c_y_round c_n_sets c_n_coming c_n_origins c_n_round c_rounds p1_players p1_told p1_kinds p1_owners p1_cards r_10 q_10) (cwV 1 hts gX2_areBroken_X2_aHandIsBroken rfl rfl rfl (by decide +kernel) ⟨Nat.le_of_ble_eq_true rfl, Nat.le_of_ble_eq_true rfl⟩) 0 rfl rfl rfl hl.1 rfl (Nat.le_of_ble_eq_true rfl) dX2_areBroken_10 ⟨Nat.zero_le _, Nat.zero_le _⟩ ?_
    refine lv_if_ne (tgt := 24) hx hb dX2_areBroken_13 (by decide) (fun c_13 => ?_) (fun c_13 => ?_)
    · have h := if_f h c_13
      refine lv_iconst (v := (1 : Int32)) hx hb dX2_areBroken_24 rfl ?_
      refine lv_goto (tgt := 29) hx hb dX2_areBroken_25 (by decide) ?_
      cases h
      exact eRz hx hb hr hlk rfl rfl dX2_areBroken_29
    · have h := if_t h c_13
      refine lv_aload_n hx hb dX2_areBroken_16 rfl (lv_at hl 0 rfl) ?_
      refine lv_aload_n hx hb dX2_areBroken_17 rfl (lv_at hl 1 rfl) ?_
      obtain ⟨r_18, q_18, h⟩ := ob1_e h
      refine cRV (wc := wX2 ck a0 a0_y a0_y_sets a0_y_coming a0_y_origins a0_n a0_n_sets a0_n_coming a0_n_origins c_y_sets c_y_coming c_y_origins c_y_round c_n_sets c_n_coming c_n_origins c_n_round c_rounds ++ wX0 ck b1 b1_kinds b1_owners b1_cards p1_players p1_told p1_kinds p1_owners p1_cards) ⟨hx, hb, hml, hown, hts⟩ hK hP [0, 1, 2, 3, 4, 5, 6, 7, 8, 9, 10, 11, 12] rfl (c_X2_aThreeIsBroken l dC dI ck a0 a0_y a0_y_sets a0_y_coming a0_y_origins a0_n a0_n_sets a0_n_coming a0_n_origins b1 b1_kinds b1_owners b1_cards c_y_sets c_y_coming c_y_origins c_y_round c_n_sets c_n_coming c_n_origins c_n_round c_rounds p1_players p1_told p1_kinds p1_owners p1_cards r_18 q_18) (cwV 1 hts gX2_areBroken_X2_aThreeIsBroken rfl rfl rfl (by decide +kernel) ⟨Nat.le_of_ble_eq_true rfl, Nat.le_of_ble_eq_true rfl⟩) 0 rfl rfl rfl hl.1 rfl (Nat.le_of_ble_eq_true rfl) dX2_areBroken_18 ⟨Nat.zero_le _, Nat.zero_le _⟩ ?_
      refine lv_if_eq (tgt := 28) hx hb dX2_areBroken_21 (by decide) (fun c_21 => ?_) (fun c_21 => ?_)
      · have h := if_t h c_21
        refine lv_iconst (v := (0 : Int32)) hx hb dX2_areBroken_28 rfl ?_
        cases h
        exact eRz hx hb hr hlk rfl rfl dX2_areBroken_29
      · have h := if_f h c_21
        refine lv_iconst (v := (1 : Int32)) hx hb dX2_areBroken_24 rfl ?_
        refine lv_goto (tgt := 29) hx hb dX2_areBroken_25 (by decide) ?_
        cases h
        exact eRz hx hb hr hlk rfl rfl dX2_areBroken_29
