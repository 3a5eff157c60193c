noncomputable def f_X4_clear (c_sets : Nat → Int32) (c_round : Int32) : Option ((Nat → Int32) × Int32) :=
  ob1 (f_J7_fill_53178 c_sets (0 : Int32)) (fun (c_sets_5 : Nat → Int32) => some (c_sets_5, (1 : Int32)))
set_option maxHeartbeats 4000000 in
set_option maxRecDepth 100000 in
theorem c_X4_clear (l : Launch) (dC : Nat → ClassId) (dI : Nat → Nat → Nat) (ck : Nat → ClassId) (a0 a0_sets a0_coming a0_origins : Nat) (c_sets : Nat → Int32) (c_coming : Nat → Int32) (c_origins : Nat → Int32) (c_round : Int32) (o0 : Nat → Int32) (o1 : Int32) (h : f_X4_clear c_sets c_round = some (o0, o1)) : MV l yX4_clear wsX4_clear ({ frames := 1, cells := 0, slots := 0, locals := 23 }) [.ref a0] (dC, dI) ck (wX4 ck a0 a0_sets a0_coming a0_origins c_sets c_coming c_origins c_round) (wX4 ck a0 a0_sets a0_coming a0_origins o0 c_coming c_origins o1) := by
  refine MV.ofW (cc := cX4_clear) (maxL := 1) (ret := none) (by decide +kernel) rfl (Nat.le_of_ble_eq_true rfl) ?_
  intro p e s m below meth c hx hb hr hml hts hown hlk hK hP A hA hD ls hl
  have hS : va_S A s.heap s.heap [] := va_S.rf
  have hown : s.vm.findClass RX4 = some m.cls := hown
  have hl : lv_has ls 1 [(0, .ref a0)] := hl
  have iu_X4 : ∀ w ∈ u_ws RX4 TX4 4, w ∈ wsX4_clear := fun w h => List.mem_cons_of_mem _ (List.mem_append_right _ h)
  unfold f_X4_clear at h
  refine lv_aload_n hx hb dX4_clear_0 rfl (lv_at hl 0 rfl) ?_
  refine va_get (ci := 4) (v := .ref a0_sets) (C := RX4) (T := TX4) (N := 4) hx hb hts iu_X4 hown hK.1 hP 0 rfl rfl 0 (by decide) (hts (.fieldLink RX4 9 "SheetMarks$Ticks" "sets" "[I") (List.mem_of_getElem? (i := 1) rfl)) (fun _ h9 => h9) rfl dX4_clear_1 ?_
  refine lv_iconst (v := (0 : Int32)) hx hb dX4_clear_4 rfl ?_
  obtain ⟨c_sets_5, q_5, h⟩ := ob1_e h
  refine cSV (wc := [(a0_sets, .inl (ck 0, 6, .inl c_sets))]) (wr := [(a0, .inr (4, [.ref a0_sets, .ref a0_coming, .ref a0_origins, .int c_round]))] ++ [(a0_coming, .inl (ck 0, 6, .inl c_coming))] ++ [(a0_origins, .inl (ck 0, 108, .inl c_origins))]) (w1 := [(a0_sets, .inl (ck 0, 6, .inl c_sets_5))]) (wn := wX4 ck a0 a0_sets a0_coming a0_origins c_sets_5 c_coming c_origins c_round) ⟨hx, hb, hml, hown, hts⟩ hK hP hD hS hA [1] [0, 2, 3] [0, 3, 1, 2] rfl (by decide) rfl (by decide) (by decide) rfl (by decide) (c_J7_fill_53178 l dC dI ck a0_sets c_sets (0 : Int32) c_sets_5 q_5) (va_cwS 2 hts gX4_clear_J7_fill_53178 rfl rfl rfl (by decide +kernel) ⟨Nat.le_of_ble_eq_true rfl, Nat.le_of_ble_eq_true rfl⟩) rfl hl.1 rfl (Nat.le_of_ble_eq_true rfl) dX4_clear_5 ⟨Nat.zero_le _, Nat.zero_le _⟩ (fun H locs hP hD hS => ?_)
  refine lv_aload_n hx hb dX4_clear_8 rfl (lv_at hl 0 rfl) ?_
  refine lv_iconst (v := (1 : Int32)) hx hb dX4_clear_9 rfl ?_
  refine va_put (ci := 4) (v := .int (1 : Int32)) (ty := .int) (C := RX4) (T := TX4) (N := 4) hx hb hts iu_X4 tyX4 tyX4_ok nmX4 hown hK.1 hP hD hS 0 rfl rfl 3 (by decide) (hts (.fieldLink RX4 21 "SheetMarks$Ticks" "round" "I") (List.mem_of_getElem? (i := 2) rfl)) (fun _ h9 => h9) rfl (by decide +kernel) rfl rfl (Nat.le_of_ble_eq_true rfl) dX4_clear_10 (fun H locs hP hD hS => ?_)
  have hP : va_P (dC, dI) vwCl (wX4 ck a0 a0_sets a0_coming a0_origins c_sets_5 c_coming c_origins (1 : Int32)) H := hP
  have hD : va_D A (wX4 ck a0 a0_sets a0_coming a0_origins c_sets_5 c_coming c_origins (1 : Int32)) := hD
  cases h
  exact eMv hx hb hr hlk hP hD hS dX4_clear_13
noncomputable def f_X4_add_L52 (c_round : Int32) (v1 : Int32) (v3 : Int32) (v4_30 : Int32) (c_coming_48 : Nat → Int32) (rec52 : Int32 → (Nat → Int32) → Option ((Nat → Int32) × (Nat → Int32))) (v5_L52 : Int32) (c_origins_L52 : Nat → Int32) : Option ((Nat → Int32) × (Nat → Int32)) :=
  if (18 : Int32) ≤ v5_L52 then (some (c_coming_48, c_origins_L52)) else (ob1 (f_X5_isIn v4_30 v5_L52) (fun (r_63 : Int32) => if r_63 = (0 : Int32) then (rec52 (v5_L52 + (1 : Int32)) c_origins_L52) else (gd ((v1 * (18 : Int32)) + v5_L52) 108 (lt' (upd c_origins_L52 ((v1 * (18 : Int32)) + v5_L52).toNatClampNeg ((c_round <<< ((3 : Int32) &&& 31)) ||| v3)) (fun c_origins_88 : Nat → Int32 => rec52 (v5_L52 + (1 : Int32)) c_origins_88)))))
noncomputable def f_X4_add (c_sets : Nat → Int32) (c_coming : Nat → Int32) (c_origins : Nat → Int32) (c_round : Int32) (v1 : Int32) (v2 : Int32) (v3 : Int32) : Option ((Nat → Int32) × (Nat → Int32)) :=
  if v1 < (0 : Int32) then (some (c_coming, c_origins)) else (if v1 < (6 : Int32) then (gd v1 6 (gd v1 6 (lt' ((v2 &&& ((c_sets v1.toNatClampNeg) ^^^ (-1 : Int32))) &&& ((c_coming v1.toNatClampNeg) ^^^ (-1 : Int32))) (fun v4_30 : Int32 => if v4_30 = (0 : Int32) then (some (c_coming, c_origins)) else (gd v1 6 (gd v1 6 (lt' (upd c_coming v1.toNatClampNeg ((c_coming v1.toNatClampNeg) ||| v4_30)) (fun c_coming_48 : Nat → Int32 => lo2 (f_X4_add_L52 c_round v1 v3 v4_30 c_coming_48) FU (0 : Int32) c_origins)))))))) else (some (c_coming, c_origins)))
set_option maxHeartbeats 4000000 in
set_option maxRecDepth 100000 in
theorem c_X4_add (l : Launch) (dC : Nat → ClassId) (dI : Nat → Nat → Nat) (ck : Nat → ClassId) (a0 a0_sets a0_coming a0_origins : Nat) (c_sets : Nat → Int32) (c_coming : Nat → Int32) (c_origins : Nat → Int32) (c_round : Int32) (v1 : Int32) (v2 : Int32) (v3 : Int32) (o0 : Nat → Int32) (o1 : Nat → Int32) (h : f_X4_add c_sets c_coming c_origins c_round v1 v2 v3 = some (o0, o1)) : MV l yX4_add wsX4_add ({ frames := 1, cells := 0, slots := 0, locals := 21 }) [.ref a0, .int v1, .int v2, .int v3] (dC, dI) ck (wX4 ck a0 a0_sets a0_coming a0_origins c_sets c_coming c_origins c_round) (wX4 ck a0 a0_sets a0_coming a0_origins c_sets o0 o1 c_round) := by
  refine MV.ofW (cc := cX4_add) (maxL := 6) (ret := none) (by decide +kernel) rfl (Nat.le_of_ble_eq_true rfl) ?_
  intro p e s m below meth c hx hb hr hml hts hown hlk hK hP A hA hD ls hl
  have hS : va_S A s.heap s.heap [] := va_S.rf
  have hown : s.vm.findClass RX4 = some m.cls := hown
  have hl : lv_has ls 6 [(0, .ref a0), (1, .int v1), (2, .int v2), (3, .int v3)] := hl
  have iu_X4 : ∀ w ∈ u_ws RX4 TX4 4, w ∈ wsX4_add := fun w h => List.mem_cons_of_mem _ (List.mem_append_right _ h)
  unfold f_X4_add at h
  refine lv_iload_n hx hb dX4_add_0 rfl (lv_at hl 1 rfl) ?_
  refine lv_if_lt (tgt := 10) hx hb dX4_add_1 (by decide) (fun c_1 => ?_) (fun c_1 => ?_)
  · have h := if_t h c_1
    cases h
    exact eMv hx hb hr hlk hP hD hS dX4_add_10
  · have h := if_f h c_1
    refine lv_iload_n hx hb dX4_add_4 rfl (lv_at hl 1 rfl) ?_
    refine lv_bipush (v := (6 : Int32)) hx hb dX4_add_5 rfl ?_
    refine lv_icmp_lt (tgt := 11) hx hb dX4_add_7 (by decide) (fun c_7 => ?_) (fun c_7 => ?_)
    · have h := if_t h c_7
      refine lv_iload_n hx hb dX4_add_11 rfl (lv_at hl 2 rfl) ?_
      refine lv_aload_n hx hb dX4_add_12 rfl (lv_at hl 0 rfl) ?_
      refine va_get (ci := 4) (v := .ref a0_sets) (C := RX4) (T := TX4) (N := 4) hx hb hts iu_X4 hown hK.1 hP 0 rfl rfl 0 (by decide) (hts (.fieldLink RX4 9 "SheetMarks$Ticks" "sets" "[I") (List.mem_of_getElem? (i := 1) rfl)) (fun _ h9 => h9) rfl dX4_add_13 ?_
      refine lv_iload_n hx hb dX4_add_16 rfl (lv_at hl 1 rfl) ?_
      obtain ⟨g_17, h⟩ := gd_e h
      refine va_iald hx hb hK.1 hP 1 0 rfl rfl g_17 dX4_add_17 ?_
      refine lv_iconst (v := (-1 : Int32)) hx hb dX4_add_18 rfl ?_
      refine lv_ixor hx hb dX4_add_19 ?_
      refine lv_iand hx hb dX4_add_20 ?_
      refine lv_aload_n hx hb dX4_add_21 rfl (lv_at hl 0 rfl) ?_
      refine va_get (ci := 4) (v := .ref a0_coming) (C := RX4) (T := TX4) (N := 4) hx hb hts iu_X4 hown hK.1 hP 0 rfl rfl 1 (by decide) (hts (.fieldLink RX4 15 "SheetMarks$Ticks" "coming" "[I") (List.mem_of_getElem? (i := 2) rfl)) (fun _ h9 => h9) rfl dX4_add_22 ?_
      refine lv_iload_n hx hb dX4_add_25 rfl (lv_at hl 1 rfl) ?_
      obtain ⟨g_26, h⟩ := gd_e h
      refine va_iald hx hb hK.1 hP 2 0 rfl rfl g_26 dX4_add_26 ?_
      refine lv_iconst (v := (-1 : Int32)) hx hb dX4_add_27 rfl ?_
      refine lv_ixor hx hb dX4_add_28 ?_
      refine lv_iand hx hb dX4_add_29 ?_
      refine lv_topi (fun v4_30 e_30 => ?_)
      have h := lt'_e e_30 h
      refine lv_istore (lv' := [(4, .int v4_30), (0, .ref a0), (1, .int v1), (2, .int v2), (3, .int v3)]) hx hb dX4_add_30 hl (by decide) rfl (fun ls hl => ?_)
      refine lv_iload hx hb dX4_add_32 (lv_at hl 0 rfl) ?_
      refine lv_if_ne (tgt := 38) hx hb dX4_add_34 (by decide) (fun c_34 => ?_) (fun c_34 => ?_)
      · have h := if_f h c_34
        refine lv_aload_n hx hb dX4_add_38 rfl (lv_at hl 1 rfl) ?_
        refine va_get (ci := 4) (v := .ref a0_coming) (C := RX4) (T := TX4) (N := 4) hx hb hts iu_X4 hown hK.1 hP 0 rfl rfl 1 (by decide) (hts (.fieldLink RX4 15 "SheetMarks$Ticks" "coming" "[I") (List.mem_of_getElem? (i := 2) rfl)) (fun _ h9 => h9) rfl dX4_add_39 ?_
        refine lv_iload_n hx hb dX4_add_42 rfl (lv_at hl 2 rfl) ?_
        refine lv_dup2_11 hx hb dX4_add_43 rfl rfl ?_
        obtain ⟨g_44, h⟩ := gd_e h
        refine va_iald hx hb hK.1 hP 2 0 rfl rfl g_44 dX4_add_44 ?_
        refine lv_iload hx hb dX4_add_45 (lv_at hl 0 rfl) ?_
        refine lv_ior hx hb dX4_add_47 ?_
        obtain ⟨g_48, h⟩ := gd_e h
        refine va_iast hx hb hK.1 hP hD hS 2 0 rfl rfl g_48 dX4_add_48 (fun H locs hP hD hS => ?_)
        obtain ⟨c_coming_48, e_48⟩ : ∃ y : Nat → Int32, y = (upd c_coming v1.toNatClampNeg ((c_coming v1.toNatClampNeg) ||| v4_30)) := ⟨_, rfl⟩
        have h := lt'_e e_48 h
        have hP : va_P (dC, dI) vwCl (wX4 ck a0 a0_sets a0_coming a0_origins c_sets c_coming_48 c_origins c_round) H := by subst e_48; exact hP
        have hD : va_D A (wX4 ck a0 a0_sets a0_coming a0_origins c_sets c_coming_48 c_origins c_round) := by subst e_48; exact hD
        refine lv_iconst (v := (0 : Int32)) hx hb dX4_add_49 rfl ?_
        refine lv_istore (lv' := [(5, .int (0 : Int32)), (4, .int v4_30), (0, .ref a0), (1, .int v1), (2, .int v2), (3, .int v3)]) hx hb dX4_add_50 hl (by decide) rfl (fun ls hl => ?_)
        have hL52 : ∀ (n52 : Nat) (v5_L52 : Int32) (c_origins_L52 : Nat → Int32), lo2 (f_X4_add_L52 c_round v1 v3 v4_30 c_coming_48) n52 v5_L52 c_origins_L52 = some (o0, o1) → ∀ (H : Heap) (locs : List Loc), va_P (dC, dI) vwCl (wX4 ck a0 a0_sets a0_coming a0_origins c_sets c_coming_48 c_origins_L52 c_round) H → va_D A (wX4 ck a0 a0_sets a0_coming a0_origins c_sets c_coming_48 c_origins_L52 c_round) → va_S A s.heap H locs → ∀ ls : Array Slot, lv_has ls 6 [(5, .int v5_L52), (4, .int v4_30), (0, .ref a0), (1, .int v1), (3, .int v3)] → W p l e (headSpec wsX4_add ({ frames := 1, cells := 0, slots := 0, locals := 21 })).room s m [.ref a0, .int v1, .int v2, .int v3].toArray below meth c H locs 0 0 (MQ below (QV (dC, dI) (wX4 ck a0 a0_sets a0_coming a0_origins c_sets o0 o1 c_round) A) [.ref a0, .int v1, .int v2, .int v3].toArray s 0 0 A) (F0 m 52 ls []) := by
          intro n52
          induction n52 with
          | zero => intro v5_L52 c_origins_L52 h; exact lo2_z h
          | succ n52 ih52 =>
            intro v5_L52 c_origins_L52 h H locs hP hD hS ls hl
            have h := lo2_s h
            unfold f_X4_add_L52 at h
            refine lv_iload hx hb dX4_add_52 (lv_at hl 0 rfl) ?_
            refine lv_bipush (v := (18 : Int32)) hx hb dX4_add_54 rfl ?_
            refine lv_icmp_ge (tgt := 95) hx hb dX4_add_56 (by decide) (fun c_56 => ?_) (fun c_56 => ?_)
            · have h := if_t h c_56
              cases h
              exact eMv hx hb hr hlk hP hD hS dX4_add_95
            · have h := if_f h c_56
              refine lv_iload hx hb dX4_add_59 (lv_at hl 1 rfl) ?_
              refine lv_iload hx hb dX4_add_61 (lv_at hl 0 rfl) ?_
              obtain ⟨r_63, q_63, h⟩ := ob1_e h
              refine cRSN (wc := []) ⟨hx, hb, hml, hown, hts⟩ hK hP [] rfl (c_X5_isIn l dC dI ck v4_30 v5_L52 r_63 q_63) ⟨va_cnB 2 hts gX4_add_X5_isIn_n37 rfl rfl rfl (hK.2.m 5 rfl) (hts (.initialized RX5) (List.mem_of_getElem? (i := 6) rfl)) (by decide +kernel) ⟨Nat.le_of_ble_eq_true rfl, Nat.le_of_ble_eq_true rfl⟩, hts (.static yX5_isIn) (List.mem_of_getElem? (i := 5) rfl), trivial⟩ rfl hl.1 rfl (Nat.le_of_ble_eq_true rfl) dX4_add_63 ⟨Nat.zero_le _, Nat.zero_le _⟩ ?_
              refine lv_if_eq (tgt := 89) hx hb dX4_add_66 (by decide) (fun c_66 => ?_) (fun c_66 => ?_)
              · have h := if_t h c_66
                refine lv_iinc (v := (v5_L52 + (1 : Int32))) (lv' := [(5, .int (v5_L52 + (1 : Int32))), (4, .int v4_30), (0, .ref a0), (1, .int v1), (3, .int v3)]) hx hb dX4_add_89 hl (k := 0) rfl rfl (by decide) rfl (fun ls hl => ?_)
                refine lv_goto (tgt := 52) hx hb dX4_add_92 (by decide) ?_
                exact ih52 _ _ h _ _ hP hD hS _ (lv_sub hl [0, 1, 2, 3, 4] rfl)
              · have h := if_f h c_66
                refine lv_aload_n hx hb dX4_add_69 rfl (lv_at hl 2 rfl) ?_
                refine va_get (ci := 4) (v := .ref a0_origins) (C := RX4) (T := TX4) (N := 4) hx hb hts iu_X4 hown hK.1 hP 0 rfl rfl 2 (by decide) (hts (.fieldLink RX4 18 "SheetMarks$Ticks" "origins" "[I") (List.mem_of_getElem? (i := 3) rfl)) (fun _ h9 => h9) rfl dX4_add_70 ?_
                refine lv_iload_n hx hb dX4_add_73 rfl (lv_at hl 3 rfl) ?_
                refine lv_bipush (v := (18 : Int32)) hx hb dX4_add_74 rfl ?_
                refine lv_imul hx hb dX4_add_76 ?_
                refine lv_iload hx hb dX4_add_77 (lv_at hl 0 rfl) ?_
                refine lv_iadd hx hb dX4_add_79 ?_
                refine lv_aload_n hx hb dX4_add_80 rfl (lv_at hl 2 rfl) ?_
                refine va_get (ci := 4) (v := .int c_round) (C := RX4) (T := TX4) (N := 4) hx hb hts iu_X4 hown hK.1 hP 0 rfl rfl 3 (by decide) (hts (.fieldLink RX4 21 "SheetMarks$Ticks" "round" "I") (List.mem_of_getElem? (i := 4) rfl)) (fun _ h9 => h9) rfl dX4_add_81 ?_
                refine lv_iconst (v := (3 : Int32)) hx hb dX4_add_84 rfl ?_
                refine lv_ishl hx hb dX4_add_85 ?_
                refine lv_iload_n hx hb dX4_add_86 rfl (lv_at hl 4 rfl) ?_
                refine lv_ior hx hb dX4_add_87 ?_
                obtain ⟨g_88, h⟩ := gd_e h
                refine va_iast hx hb hK.1 hP hD hS 3 0 rfl rfl g_88 dX4_add_88 (fun H locs hP hD hS => ?_)
                obtain ⟨c_origins_88, e_88⟩ : ∃ y : Nat → Int32, y = (upd c_origins_L52 ((v1 * (18 : Int32)) + v5_L52).toNatClampNeg ((c_round <<< ((3 : Int32) &&& 31)) ||| v3)) := ⟨_, rfl⟩
                have h := lt'_e e_88 h
                have hP : va_P (dC, dI) vwCl (wX4 ck a0 a0_sets a0_coming a0_origins c_sets c_coming_48 c_origins_88 c_round) H := by subst e_88; exact hP
                have hD : va_D A (wX4 ck a0 a0_sets a0_coming a0_origins c_sets c_coming_48 c_origins_88 c_round) := by subst e_88; exact hD
                refine lv_iinc (v := (v5_L52 + (1 : Int32))) (lv' := [(5, .int (v5_L52 + (1 : Int32))), (4, .int v4_30), (0, .ref a0), (1, .int v1), (3, .int v3)]) hx hb dX4_add_89 hl (k := 0) rfl rfl (by decide) rfl (fun ls hl => ?_)
                refine lv_goto (tgt := 52) hx hb dX4_add_92 (by decide) ?_
                exact ih52 _ _ h _ _ hP hD hS _ (lv_sub hl [0, 1, 2, 3, 4] rfl)
        exact hL52 _ _ _ h _ _ hP hD hS _ (lv_sub hl [0, 1, 2, 3, 5] rfl)
      · have h := if_t h c_34
        cases h
        exact eMv hx hb hr hlk hP hD hS dX4_add_37
    · have h := if_f h c_7
      cases h
      exact eMv hx hb hr hlk hP hD hS dX4_add_10
noncomputable def f_X4_of (c_sets : Nat → Int32) (v1 : Int32) : Option (Int32) :=
  if v1 < (0 : Int32) then (some (0 : Int32)) else (if v1 < (6 : Int32) then (gd v1 6 (some (c_sets v1.toNatClampNeg))) else (some (0 : Int32)))
set_option maxHeartbeats 4000000 in
set_option maxRecDepth 100000 in
theorem c_X4_of (l : Launch) (dC : Nat → ClassId) (dI : Nat → Nat → Nat) (ck : Nat → ClassId) (a0 a0_sets a0_coming a0_origins : Nat) (c_sets : Nat → Int32) (c_coming : Nat → Int32) (c_origins : Nat → Int32) (c_round : Int32) (v1 : Int32) (o0 : Int32) (h : f_X4_of c_sets v1 = some o0) : RD l yX4_of wsX4_of ({ frames := 0, cells := 0, slots := 0, locals := 0 }) [.ref a0, .int v1] (dC, dI) ck (wX4 ck a0 a0_sets a0_coming a0_origins c_sets c_coming c_origins c_round) o0 := by
  refine RD.ofW (cc := cX4_of) (maxL := 2) (ret := (some .int)) (by decide +kernel) rfl (Nat.le_of_ble_eq_true rfl) ?_
  intro p e s m below meth c hx hb hr hml hts hown hlk hK hP ls hl
  have hown : s.vm.findClass RX4 = some m.cls := hown
  have hl : lv_has ls 2 [(0, .ref a0), (1, .int v1)] := hl
  have iu_X4 : ∀ w ∈ u_ws RX4 TX4 4, w ∈ wsX4_of := fun w h => List.mem_cons_of_mem _ (List.mem_append_right _ h)
  unfold f_X4_of at h
  refine lv_iload_n hx hb dX4_of_0 rfl (lv_at hl 1 rfl) ?_
  refine lv_if_lt (tgt := 10) hx hb dX4_of_1 (by decide) (fun c_1 => ?_) (fun c_1 => ?_)
  · have h := if_t h c_1
    refine lv_iconst (v := (0 : Int32)) hx hb dX4_of_10 rfl ?_
    refine lv_goto (tgt := 20) hx hb dX4_of_11 (by decide) ?_
    cases h
    exact eRi hx hb hr hlk rfl dX4_of_20
  · have h := if_f h c_1
    refine lv_iload_n hx hb dX4_of_4 rfl (lv_at hl 1 rfl) ?_
    refine lv_bipush (v := (6 : Int32)) hx hb dX4_of_5 rfl ?_
    refine lv_icmp_lt (tgt := 14) hx hb dX4_of_7 (by decide) (fun c_7 => ?_) (fun c_7 => ?_)
    · have h := if_t h c_7
      refine lv_aload_n hx hb dX4_of_14 rfl (lv_at hl 0 rfl) ?_
      refine va_get (ci := 4) (v := .ref a0_sets) (C := RX4) (T := TX4) (N := 4) hx hb hts iu_X4 hown hK.1 hP 0 rfl rfl 0 (by decide) (hts (.fieldLink RX4 9 "SheetMarks$Ticks" "sets" "[I") (List.mem_of_getElem? (i := 1) rfl)) (fun _ h9 => h9) rfl dX4_of_15 ?_
      refine lv_iload_n hx hb dX4_of_18 rfl (lv_at hl 1 rfl) ?_
      obtain ⟨g_19, h⟩ := gd_e h
      refine va_iald hx hb hK.1 hP 1 0 rfl rfl g_19 dX4_of_19 ?_
      cases h
      exact eRi hx hb hr hlk rfl dX4_of_20
    · have h := if_f h c_7
      refine lv_iconst (v := (0 : Int32)) hx hb dX4_of_10 rfl ?_
      refine lv_goto (tgt := 20) hx hb dX4_of_11 (by decide) ?_
      cases h
      exact eRi hx hb hr hlk rfl dX4_of_20
noncomputable def f_X4_make_L4 (c_round : Int32) (rec4 : Int32 → Int32 → (Nat → Int32) → (Nat → Int32) → Option (Int32 × (Nat → Int32) × (Nat → Int32) × Int32)) (v1_L4 : Int32) (v2_L4 : Int32) (c_sets_L4 : Nat → Int32) (c_coming_L4 : Nat → Int32) : Option (Int32 × (Nat → Int32) × (Nat → Int32) × Int32) :=
  if (6 : Int32) ≤ v2_L4 then (lt' (c_round + (1 : Int32)) (fun c_round_54 : Int32 => if v1_L4 = (0 : Int32) then (some ((0 : Int32), c_sets_L4, c_coming_L4, c_round_54)) else (some ((1 : Int32), c_sets_L4, c_coming_L4, c_round_54)))) else (gd v2_L4 6 (lt' (v1_L4 ||| (c_coming_L4 v2_L4.toNatClampNeg)) (fun v1_18 : Int32 => gd v2_L4 6 (gd v2_L4 6 (gd v2_L4 6 (lt' (upd c_sets_L4 v2_L4.toNatClampNeg ((c_sets_L4 v2_L4.toNatClampNeg) ||| (c_coming_L4 v2_L4.toNatClampNeg))) (fun c_sets_33 : Nat → Int32 => gd v2_L4 6 (lt' (upd c_coming_L4 v2_L4.toNatClampNeg (0 : Int32)) (fun c_coming_40 : Nat → Int32 => rec4 v1_18 (v2_L4 + (1 : Int32)) c_sets_33 c_coming_40)))))))))
noncomputable def f_X4_make (c_sets : Nat → Int32) (c_coming : Nat → Int32) (c_round : Int32) : Option (Int32 × (Nat → Int32) × (Nat → Int32) × Int32) :=
  lo4 (f_X4_make_L4 c_round) FU (0 : Int32) (0 : Int32) c_sets c_coming
set_option maxHeartbeats 4000000 in
set_option maxRecDepth 100000 in
theorem c_X4_make (l : Launch) (dC : Nat → ClassId) (dI : Nat → Nat → Nat) (ck : Nat → ClassId) (a0 a0_sets a0_coming a0_origins : Nat) (c_sets : Nat → Int32) (c_coming : Nat → Int32) (c_origins : Nat → Int32) (c_round : Int32) (o0 : Int32) (o1 : Nat → Int32) (o2 : Nat → Int32) (o3 : Int32) (h : f_X4_make c_sets c_coming c_round = some (o0, o1, o2, o3)) : MI l yX4_make wsX4_make ({ frames := 0, cells := 0, slots := 0, locals := 0 }) [.ref a0] (dC, dI) ck (wX4 ck a0 a0_sets a0_coming a0_origins c_sets c_coming c_origins c_round) (wX4 ck a0 a0_sets a0_coming a0_origins o1 o2 c_origins o3) o0 := by
  refine MI.ofW (cc := cX4_make) (maxL := 3) (ret := (some .boolean)) (by decide +kernel) rfl (Nat.le_of_ble_eq_true rfl) ?_
  intro p e s m below meth c hx hb hr hml hts hown hlk hK hP A hA hD ls hl
  have hS : va_S A s.heap s.heap [] := va_S.rf
  have hown : s.vm.findClass RX4 = some m.cls := hown
  have hl : lv_has ls 3 [(0, .ref a0)] := hl
  have iu_X4 : ∀ w ∈ u_ws RX4 TX4 4, w ∈ wsX4_make := fun w h => List.mem_cons_of_mem _ (List.mem_append_right _ h)
  unfold f_X4_make at h
  refine lv_iconst (v := (0 : Int32)) hx hb dX4_make_0 rfl ?_
  refine lv_istore_n (lv' := [(1, .int (0 : Int32)), (0, .ref a0)]) hx hb dX4_make_1 rfl hl (by decide) rfl (fun ls hl => ?_)
  refine lv_iconst (v := (0 : Int32)) hx hb dX4_make_2 rfl ?_
  refine lv_istore_n (lv' := [(2, .int (0 : Int32)), (1, .int (0 : Int32)), (0, .ref a0)]) hx hb dX4_make_3 rfl hl (by decide) rfl (fun ls hl => ?_)
  have hL4 : ∀ (n4 : Nat) (v1_L4 : Int32) (v2_L4 : Int32) (c_sets_L4 : Nat → Int32) (c_coming_L4 : Nat → Int32), lo4 (f_X4_make_L4 c_round) n4 v1_L4 v2_L4 c_sets_L4 c_coming_L4 = some (o0, o1, o2, o3) → ∀ (H : Heap) (locs : List Loc), va_P (dC, dI) vwCl (wX4 ck a0 a0_sets a0_coming a0_origins c_sets_L4 c_coming_L4 c_origins c_round) H → va_D A (wX4 ck a0 a0_sets a0_coming a0_origins c_sets_L4 c_coming_L4 c_origins c_round) → va_S A s.heap H locs → ∀ ls : Array Slot, lv_has ls 3 [(2, .int v2_L4), (1, .int v1_L4), (0, .ref a0)] → W p l e (headSpec wsX4_make ({ frames := 0, cells := 0, slots := 0, locals := 0 })).room s m [.ref a0].toArray below meth c H locs 0 0 (MQ below (QI (dC, dI) (wX4 ck a0 a0_sets a0_coming a0_origins o1 o2 c_origins o3) o0 A) [.ref a0].toArray s 0 0 A) (F0 m 4 ls []) := by
    intro n4
    induction n4 with
    | zero => intro v1_L4 v2_L4 c_sets_L4 c_coming_L4 h; exact lo4_z h
    | succ n4 ih4 =>
      intro v1_L4 v2_L4 c_sets_L4 c_coming_L4 h H locs hP hD hS ls hl
      have h := lo4_s h
      unfold f_X4_make_L4 at h
      refine lv_iload_n hx hb dX4_make_4 rfl (lv_at hl 0 rfl) ?_
      refine lv_bipush (v := (6 : Int32)) hx hb dX4_make_5 rfl ?_
      refine lv_icmp_ge (tgt := 47) hx hb dX4_make_7 (by decide) (fun c_7 => ?_) (fun c_7 => ?_)
      · have h := if_t h c_7
        refine lv_aload_n hx hb dX4_make_47 rfl (lv_at hl 2 rfl) ?_
        refine lv_dup hx hb dX4_make_48 rfl ?_
        refine va_get (ci := 4) (v := .int c_round) (C := RX4) (T := TX4) (N := 4) hx hb hts iu_X4 hown hK.1 hP 0 rfl rfl 3 (by decide) (hts (.fieldLink RX4 21 "SheetMarks$Ticks" "round" "I") (List.mem_of_getElem? (i := 3) rfl)) (fun _ h9 => h9) rfl dX4_make_49 ?_
        refine lv_iconst (v := (1 : Int32)) hx hb dX4_make_52 rfl ?_
        refine lv_iadd hx hb dX4_make_53 ?_
        refine lv_topi (fun c_round_54 e_54 => ?_)
        have h := lt'_e e_54 h
        refine va_put (ci := 4) (v := .int c_round_54) (ty := .int) (C := RX4) (T := TX4) (N := 4) hx hb hts iu_X4 tyX4 tyX4_ok nmX4 hown hK.1 hP hD hS 0 rfl rfl 3 (by decide) (hts (.fieldLink RX4 21 "SheetMarks$Ticks" "round" "I") (List.mem_of_getElem? (i := 3) rfl)) (fun _ h9 => h9) rfl (by decide +kernel) rfl rfl (Nat.le_of_ble_eq_true rfl) dX4_make_54 (fun H locs hP hD hS => ?_)
        have hP : va_P (dC, dI) vwCl (wX4 ck a0 a0_sets a0_coming a0_origins c_sets_L4 c_coming_L4 c_origins c_round_54) H := hP
        have hD : va_D A (wX4 ck a0 a0_sets a0_coming a0_origins c_sets_L4 c_coming_L4 c_origins c_round_54) := hD
        refine lv_iload_n hx hb dX4_make_57 rfl (lv_at hl 1 rfl) ?_
        refine lv_if_eq (tgt := 65) hx hb dX4_make_58 (by decide) (fun c_58 => ?_) (fun c_58 => ?_)
        · have h := if_t h c_58
          refine lv_iconst (v := (0 : Int32)) hx hb dX4_make_65 rfl ?_
          cases h
          exact eMz hx hb hr hlk hP hD hS rfl rfl dX4_make_66
        · have h := if_f h c_58
          refine lv_iconst (v := (1 : Int32)) hx hb dX4_make_61 rfl ?_
          refine lv_goto (tgt := 66) hx hb dX4_make_62 (by decide) ?_
          cases h
          exact eMz hx hb hr hlk hP hD hS rfl rfl dX4_make_66
      · have h := if_f h c_7
        refine lv_iload_n hx hb dX4_make_10 rfl (lv_at hl 1 rfl) ?_
        refine lv_aload_n hx hb dX4_make_11 rfl (lv_at hl 2 rfl) ?_
        refine va_get (ci := 4) (v := .ref a0_coming) (C := RX4) (T := TX4) (N := 4) hx hb hts iu_X4 hown hK.1 hP 0 rfl rfl 1 (by decide) (hts (.fieldLink RX4 15 "SheetMarks$Ticks" "coming" "[I") (List.mem_of_getElem? (i := 1) rfl)) (fun _ h9 => h9) rfl dX4_make_12 ?_
        refine lv_iload_n hx hb dX4_make_15 rfl (lv_at hl 0 rfl) ?_
        obtain ⟨g_16, h⟩ := gd_e h
        refine va_iald hx hb hK.1 hP 2 0 rfl rfl g_16 dX4_make_16 ?_
        refine lv_ior hx hb dX4_make_17 ?_
        refine lv_topi (fun v1_18 e_18 => ?_)
        have h := lt'_e e_18 h
        refine lv_istore_n (lv' := [(1, .int v1_18), (2, .int v2_L4), (0, .ref a0)]) hx hb dX4_make_18 rfl hl (by decide) rfl (fun ls hl => ?_)
        refine lv_aload_n hx hb dX4_make_19 rfl (lv_at hl 2 rfl) ?_
        refine va_get (ci := 4) (v := .ref a0_sets) (C := RX4) (T := TX4) (N := 4) hx hb hts iu_X4 hown hK.1 hP 0 rfl rfl 0 (by decide) (hts (.fieldLink RX4 9 "SheetMarks$Ticks" "sets" "[I") (List.mem_of_getElem? (i := 2) rfl)) (fun _ h9 => h9) rfl dX4_make_20 ?_
        refine lv_iload_n hx hb dX4_make_23 rfl (lv_at hl 1 rfl) ?_
        refine lv_dup2_11 hx hb dX4_make_24 rfl rfl ?_
        obtain ⟨g_25, h⟩ := gd_e h
        refine va_iald hx hb hK.1 hP 1 0 rfl rfl g_25 dX4_make_25 ?_
        refine lv_aload_n hx hb dX4_make_26 rfl (lv_at hl 2 rfl) ?_
        refine va_get (ci := 4) (v := .ref a0_coming) (C := RX4) (T := TX4) (N := 4) hx hb hts iu_X4 hown hK.1 hP 0 rfl rfl 1 (by decide) (hts (.fieldLink RX4 15 "SheetMarks$Ticks" "coming" "[I") (List.mem_of_getElem? (i := 1) rfl)) (fun _ h9 => h9) rfl dX4_make_27 ?_
        refine lv_iload_n hx hb dX4_make_30 rfl (lv_at hl 1 rfl) ?_
        obtain ⟨g_31, h⟩ := gd_e h
        refine va_iald hx hb hK.1 hP 2 0 rfl rfl g_31 dX4_make_31 ?_
        refine lv_ior hx hb dX4_make_32 ?_
        obtain ⟨g_33, h⟩ := gd_e h
        refine va_iast hx hb hK.1 hP hD hS 1 0 rfl rfl g_33 dX4_make_33 (fun H locs hP hD hS => ?_)
        obtain ⟨c_sets_33, e_33⟩ : ∃ y : Nat → Int32, y = (upd c_sets_L4 v2_L4.toNatClampNeg ((c_sets_L4 v2_L4.toNatClampNeg) ||| (c_coming_L4 v2_L4.toNatClampNeg))) := ⟨_, rfl⟩
        have h := lt'_e e_33 h
        have hP : va_P (dC, dI) vwCl (wX4 ck a0 a0_sets a0_coming a0_origins c_sets_33 c_coming_L4 c_origins c_round) H := by subst e_33; exact hP
        have hD : va_D A (wX4 ck a0 a0_sets a0_coming a0_origins c_sets_33 c_coming_L4 c_origins c_round) := by subst e_33; exact hD
        refine lv_aload_n hx hb dX4_make_34 rfl (lv_at hl 2 rfl) ?_
        refine va_get (ci := 4) (v := .ref a0_coming) (C := RX4) (T := TX4) (N := 4) hx hb hts iu_X4 hown hK.1 hP 0 rfl rfl 1 (by decide) (hts (.fieldLink RX4 15 "SheetMarks$Ticks" "coming" "[I") (List.mem_of_getElem? (i := 1) rfl)) (fun _ h9 => h9) rfl dX4_make_35 ?_
        refine lv_iload_n hx hb dX4_make_38 rfl (lv_at hl 1 rfl) ?_
        refine lv_iconst (v := (0 : Int32)) hx hb dX4_make_39 rfl ?_
        obtain ⟨g_40, h⟩ := gd_e h
        refine va_iast hx hb hK.1 hP hD hS 2 0 rfl rfl g_40 dX4_make_40 (fun H locs hP hD hS => ?_)
        obtain ⟨c_coming_40, e_40⟩ : ∃ y : Nat → Int32, y = (upd c_coming_L4 v2_L4.toNatClampNeg (0 : Int32)) := ⟨_, rfl⟩
        have h := lt'_e e_40 h
        have hP : va_P (dC, dI) vwCl (wX4 ck a0 a0_sets a0_coming a0_origins c_sets_33 c_coming_40 c_origins c_round) H := by subst e_40; exact hP
        have hD : va_D A (wX4 ck a0 a0_sets a0_coming a0_origins c_sets_33 c_coming_40 c_origins c_round) := by subst e_40; exact hD
        refine lv_iinc (v := (v2_L4 + (1 : Int32))) (lv' := [(2, .int (v2_L4 + (1 : Int32))), (1, .int v1_18), (0, .ref a0)]) hx hb dX4_make_41 hl (k := 1) rfl rfl (by decide) rfl (fun ls hl => ?_)
        refine lv_goto (tgt := 4) hx hb dX4_make_44 (by decide) ?_
        exact ih4 _ _ _ _ h _ _ hP hD hS _ (lv_sub hl [0, 1, 2] rfl)
  exact hL4 _ _ _ _ _ h _ _ hP hD hS _ (lv_sub hl [0, 1, 2] rfl)
noncomputable def f_X4_copy (c_sets : Nat → Int32) (c_round : Int32) (p1_sets : Nat → Int32) : Option ((Nat → Int32) × Int32) :=
  lt' (va_cpy p1_sets c_sets 0 0 6) (fun c_sets_15 : Nat → Int32 => some (c_sets_15, (1 : Int32)))
set_option maxHeartbeats 4000000 in
set_option maxRecDepth 100000 in
theorem c_X4_copy (l : Launch) (dC : Nat → ClassId) (dI : Nat → Nat → Nat) (ck : Nat → ClassId) (a0 a0_sets a0_coming a0_origins b1 b1_sets b1_coming b1_origins : Nat) (c_sets : Nat → Int32) (c_coming : Nat → Int32) (c_origins : Nat → Int32) (c_round : Int32) (p1_sets : Nat → Int32) (p1_coming : Nat → Int32) (p1_origins : Nat → Int32) (p1_round : Int32) (o0 : Nat → Int32) (o1 : Int32) (h : f_X4_copy c_sets c_round p1_sets = some (o0, o1)) : MV l yX4_copy wsX4_copy ({ frames := 1, cells := 0, slots := 0, locals := 26 }) [.ref a0, .ref b1] (dC, dI) ck (wX4 ck a0 a0_sets a0_coming a0_origins c_sets c_coming c_origins c_round ++ wX4 ck b1 b1_sets b1_coming b1_origins p1_sets p1_coming p1_origins p1_round) (wX4 ck a0 a0_sets a0_coming a0_origins o0 c_coming c_origins o1 ++ wX4 ck b1 b1_sets b1_coming b1_origins p1_sets p1_coming p1_origins p1_round) := by
  refine MV.ofW (cc := cX4_copy) (maxL := 2) (ret := none) (by decide +kernel) rfl (Nat.le_of_ble_eq_true rfl) ?_
  intro p e s m below meth c hx hb hr hml hts hown hlk hK hP A hA hD ls hl
  have hS : va_S A s.heap s.heap [] := va_S.rf
  have hown : s.vm.findClass RX4 = some m.cls := hown
  have hl : lv_has ls 2 [(0, .ref a0), (1, .ref b1)] := hl
  have iu_X4 : ∀ w ∈ u_ws RX4 TX4 4, w ∈ wsX4_copy := fun w h => List.mem_cons_of_mem _ (List.mem_append_right _ h)
  unfold f_X4_copy at h
  refine lv_aload_n hx hb dX4_copy_0 rfl (lv_at hl 1 rfl) ?_
  refine va_get (ci := 4) (v := .ref b1_sets) (C := RX4) (T := TX4) (N := 4) hx hb hts iu_X4 hown hK.1 hP 4 rfl rfl 0 (by decide) (hts (.fieldLink RX4 9 "SheetMarks$Ticks" "sets" "[I") (List.mem_of_getElem? (i := 1) rfl)) (fun _ h9 => h9) rfl dX4_copy_1 ?_
  refine lv_iconst (v := (0 : Int32)) hx hb dX4_copy_4 rfl ?_
  refine lv_aload_n hx hb dX4_copy_5 rfl (lv_at hl 0 rfl) ?_
  refine va_get (ci := 4) (v := .ref a0_sets) (C := RX4) (T := TX4) (N := 4) hx hb hts iu_X4 hown hK.1 hP 0 rfl rfl 0 (by decide) (hts (.fieldLink RX4 9 "SheetMarks$Ticks" "sets" "[I") (List.mem_of_getElem? (i := 1) rfl)) (fun _ h9 => h9) rfl dX4_copy_6 ?_
  refine lv_iconst (v := (0 : Int32)) hx hb dX4_copy_9 rfl ?_
  refine lv_aload_n hx hb dX4_copy_10 rfl (lv_at hl 0 rfl) ?_
  refine va_get (ci := 4) (v := .ref a0_sets) (C := RX4) (T := TX4) (N := 4) hx hb hts iu_X4 hown hK.1 hP 0 rfl rfl 0 (by decide) (hts (.fieldLink RX4 9 "SheetMarks$Ticks" "sets" "[I") (List.mem_of_getElem? (i := 1) rfl)) (fun _ h9 => h9) rfl dX4_copy_11 ?_
  refine va_alen (v := (6 : Int32)) hx hb hK.1 hP 1 0 rfl rfl rfl dX4_copy_14 ?_
  refine va_copyi hx hb (hml.trans hl.1.symm) hown (hts (.methodLink RX4 31 arraycopyName) (List.mem_of_getElem? (i := 2) rfl)) (hts (.native arraycopyName) (List.mem_of_getElem? (i := 3) rfl)) (hts (.static arraycopyName) (List.mem_of_getElem? (i := 4) rfl)) (hts (.initialized "java/lang/System") (List.mem_of_getElem? (i := 5) rfl)) hK.1 hP hD hS 5 1 0 0 rfl rfl rfl rfl rfl (by decide) (by decide) (by decide) (by decide) (by decide) (fun _ _ => rfl) (Nat.le_of_ble_eq_true rfl) (Nat.le_of_ble_eq_true rfl) dX4_copy_15 (fun H locs hP hD hS => ?_)
  obtain ⟨c_sets_15, e_15⟩ : ∃ y : Nat → Int32, y = (va_cpy p1_sets c_sets 0 0 6) := ⟨_, rfl⟩
  have h := lt'_e e_15 h
  have hP : va_P (dC, dI) vwCl (wX4 ck a0 a0_sets a0_coming a0_origins c_sets_15 c_coming c_origins c_round ++ wX4 ck b1 b1_sets b1_coming b1_origins p1_sets p1_coming p1_origins p1_round) H := by subst e_15; exact hP
  have hD : va_D A (wX4 ck a0 a0_sets a0_coming a0_origins c_sets_15 c_coming c_origins c_round ++ wX4 ck b1 b1_sets b1_coming b1_origins p1_sets p1_coming p1_origins p1_round) := by subst e_15; exact hD
  refine lv_aload_n hx hb dX4_copy_18 rfl (lv_at hl 0 rfl) ?_
  refine lv_iconst (v := (1 : Int32)) hx hb dX4_copy_19 rfl ?_
  refine va_put (ci := 4) (v := .int (1 : Int32)) (ty := .int) (C := RX4) (T := TX4) (N := 4) hx hb hts iu_X4 tyX4 tyX4_ok nmX4 hown hK.1 hP hD hS 0 rfl rfl 3 (by decide) (hts (.fieldLink RX4 21 "SheetMarks$Ticks" "round" "I") (List.mem_of_getElem? (i := 6) rfl)) (fun _ h9 => h9) rfl (by decide +kernel) rfl rfl (Nat.le_of_ble_eq_true rfl) dX4_copy_20 (fun H locs hP hD hS => ?_)
  have hP : va_P (dC, dI) vwCl (wX4 ck a0 a0_sets a0_coming a0_origins c_sets_15 c_coming c_origins (1 : Int32) ++ wX4 ck b1 b1_sets b1_coming b1_origins p1_sets p1_coming p1_origins p1_round) H := hP
  have hD : va_D A (wX4 ck a0 a0_sets a0_coming a0_origins c_sets_15 c_coming c_origins (1 : Int32) ++ wX4 ck b1 b1_sets b1_coming b1_origins p1_sets p1_coming p1_origins p1_round) := hD
  cases h
  exact eMv hx hb hr hlk hP hD hS dX4_copy_23
noncomputable def f_X4_total_L4 (c_sets : Nat → Int32) (rec4 : Int32 → Int32 → Option (Int32)) (v1_L4 : Int32) (v2_L4 : Int32) : Option (Int32) :=
  if (6 : Int32) ≤ v2_L4 then (some v1_L4) else (gd v2_L4 6 (ob1 (f_J6_bitCount_0f7a4 (c_sets v2_L4.toNatClampNeg)) (fun (r_17 : Int32) => lt' (v1_L4 + r_17) (fun v1_21 : Int32 => rec4 v1_21 (v2_L4 + (1 : Int32))))))
noncomputable def f_X4_total (c_sets : Nat → Int32) : Option (Int32) :=
  lo2 (f_X4_total_L4 c_sets) FU (0 : Int32) (0 : Int32)
set_option maxHeartbeats 4000000 in
set_option maxRecDepth 100000 in
theorem c_X4_total (l : Launch) (dC : Nat → ClassId) (dI : Nat → Nat → Nat) (ck : Nat → ClassId) (a0 a0_sets a0_coming a0_origins : Nat) (c_sets : Nat → Int32) (c_coming : Nat → Int32) (c_origins : Nat → Int32) (c_round : Int32) (o0 : Int32) (h : f_X4_total c_sets = some o0) : RD l yX4_total wsX4_total ({ frames := 1, cells := 0, slots := 0, locals := 20 }) [.ref a0] (dC, dI) ck (wX4 ck a0 a0_sets a0_coming a0_origins c_sets c_coming c_origins c_round) o0 := by
  refine RD.ofW (cc := cX4_total) (maxL := 3) (ret := (some .int)) (by decide +kernel) rfl (Nat.le_of_ble_eq_true rfl) ?_
  intro p e s m below meth c hx hb hr hml hts hown hlk hK hP ls hl
  have hown : s.vm.findClass RX4 = some m.cls := hown
  have hl : lv_has ls 3 [(0, .ref a0)] := hl
  have iu_X4 : ∀ w ∈ u_ws RX4 TX4 4, w ∈ wsX4_total := fun w h => List.mem_cons_of_mem _ (List.mem_append_right _ h)
  unfold f_X4_total at h
  refine lv_iconst (v := (0 : Int32)) hx hb dX4_total_0 rfl ?_
  refine lv_istore_n (lv' := [(1, .int (0 : Int32)), (0, .ref a0)]) hx hb dX4_total_1 rfl hl (by decide) rfl (fun ls hl => ?_)
  refine lv_iconst (v := (0 : Int32)) hx hb dX4_total_2 rfl ?_
  refine lv_istore_n (lv' := [(2, .int (0 : Int32)), (1, .int (0 : Int32)), (0, .ref a0)]) hx hb dX4_total_3 rfl hl (by decide) rfl (fun ls hl => ?_)
  have hL4 : ∀ (n4 : Nat) (v1_L4 : Int32) (v2_L4 : Int32), lo2 (f_X4_total_L4 c_sets) n4 v1_L4 v2_L4 = some o0 → ∀ ls : Array Slot, lv_has ls 3 [(2, .int v2_L4), (1, .int v1_L4), (0, .ref a0)] → W p l e (headSpec wsX4_total ({ frames := 1, cells := 0, slots := 0, locals := 20 })).room s m [.ref a0].toArray below meth c s.heap [] 0 0 (MQ below (QcRead o0) [.ref a0].toArray s 0 0 (fun _ => False)) (F0 m 4 ls []) := by
    intro n4
    induction n4 with
    | zero => intro v1_L4 v2_L4 h; exact lo2_z h
    | succ n4 ih4 =>
      intro v1_L4 v2_L4 h ls hl
      have h := lo2_s h
      unfold f_X4_total_L4 at h
      refine lv_iload_n hx hb dX4_total_4 rfl (lv_at hl 0 rfl) ?_
      refine lv_bipush (v := (6 : Int32)) hx hb dX4_total_5 rfl ?_
      refine lv_icmp_ge (tgt := 28) hx hb dX4_total_7 (by decide) (fun c_7 => ?_) (fun c_7 => ?_)
      · have h := if_t h c_7
        refine lv_iload_n hx hb dX4_total_28 rfl (lv_at hl 1 rfl) ?_
        cases h
        exact eRi hx hb hr hlk rfl dX4_total_29
      · have h := if_f h c_7
        refine lv_iload_n hx hb dX4_total_10 rfl (lv_at hl 1 rfl) ?_
        refine lv_aload_n hx hb dX4_total_11 rfl (lv_at hl 2 rfl) ?_
        refine va_get (ci := 4) (v := .ref a0_sets) (C := RX4) (T := TX4) (N := 4) hx hb hts iu_X4 hown hK.1 hP 0 rfl rfl 0 (by decide) (hts (.fieldLink RX4 9 "SheetMarks$Ticks" "sets" "[I") (List.mem_of_getElem? (i := 1) rfl)) (fun _ h9 => h9) rfl dX4_total_12 ?_
        refine lv_iload_n hx hb dX4_total_15 rfl (lv_at hl 0 rfl) ?_
        obtain ⟨g_16, h⟩ := gd_e h
        refine va_iald hx hb hK.1 hP 1 0 rfl rfl g_16 dX4_total_16 ?_
        obtain ⟨r_17, q_17, h⟩ := ob1_e h
        refine cRS (wc := []) ⟨hx, hb, hml, hown, hts⟩ hK hP [] rfl (c_J6_bitCount_0f7a4 l dC dI ck (c_sets v2_L4.toNatClampNeg) r_17 q_17) (va_cwS 1 hts gX4_total_J6_bitCount_0f7a4 rfl rfl rfl (by decide +kernel) ⟨Nat.le_of_ble_eq_true rfl, Nat.le_of_ble_eq_true rfl⟩) rfl hl.1 rfl (Nat.le_of_ble_eq_true rfl) dX4_total_17 ⟨Nat.zero_le _, Nat.zero_le _⟩ ?_
        refine lv_iadd hx hb dX4_total_20 ?_
        refine lv_topi (fun v1_21 e_21 => ?_)
        have h := lt'_e e_21 h
        refine lv_istore_n (lv' := [(1, .int v1_21), (2, .int v2_L4), (0, .ref a0)]) hx hb dX4_total_21 rfl hl (by decide) rfl (fun ls hl => ?_)
        refine lv_iinc (v := (v2_L4 + (1 : Int32))) (lv' := [(2, .int (v2_L4 + (1 : Int32))), (1, .int v1_21), (0, .ref a0)]) hx hb dX4_total_22 hl (k := 1) rfl rfl (by decide) rfl (fun ls hl => ?_)
        refine lv_goto (tgt := 4) hx hb dX4_total_25 (by decide) ?_
        exact ih4 _ _ h _ (lv_sub hl [0, 1, 2] rfl)
  exact hL4 _ _ _ h _ (lv_sub hl [0, 1, 2] rfl)
noncomputable def f_X4_addAtOnce (c_sets : Nat → Int32) (v1 : Int32) (v2 : Int32) : Option ((Nat → Int32)) :=
  if v1 < (0 : Int32) then (some c_sets) else (if (6 : Int32) ≤ v1 then (some c_sets) else (gd v1 6 (gd v1 6 (lt' (upd c_sets v1.toNatClampNeg ((c_sets v1.toNatClampNeg) ||| ((1 : Int32) <<< (v2 &&& 31)))) (fun c_sets_21 : Nat → Int32 => some c_sets_21)))))
set_option maxHeartbeats 4000000 in
set_option maxRecDepth 100000 in
theorem c_X4_addAtOnce (l : Launch) (dC : Nat → ClassId) (dI : Nat → Nat → Nat) (ck : Nat → ClassId) (a0 a0_sets a0_coming a0_origins : Nat) (c_sets : Nat → Int32) (c_coming : Nat → Int32) (c_origins : Nat → Int32) (c_round : Int32) (v1 : Int32) (v2 : Int32) (o0 : Nat → Int32) (h : f_X4_addAtOnce c_sets v1 v2 = some o0) : MV l yX4_addAtOnce wsX4_addAtOnce ({ frames := 0, cells := 0, slots := 0, locals := 0 }) [.ref a0, .int v1, .int v2] (dC, dI) ck (wX4 ck a0 a0_sets a0_coming a0_origins c_sets c_coming c_origins c_round) (wX4 ck a0 a0_sets a0_coming a0_origins o0 c_coming c_origins c_round) := by
  refine MV.ofW (cc := cX4_addAtOnce) (maxL := 3) (ret := none) (by decide +kernel) rfl (Nat.le_of_ble_eq_true rfl) ?_
  intro p e s m below meth c hx hb hr hml hts hown hlk hK hP A hA hD ls hl
  have hS : va_S A s.heap s.heap [] := va_S.rf
  have hown : s.vm.findClass RX4 = some m.cls := hown
  have hl : lv_has ls 3 [(0, .ref a0), (1, .int v1), (2, .int v2)] := hl
  have iu_X4 : ∀ w ∈ u_ws RX4 TX4 4, w ∈ wsX4_addAtOnce := fun w h => List.mem_cons_of_mem _ (List.mem_append_right _ h)
  unfold f_X4_addAtOnce at h
  refine lv_iload_n hx hb dX4_addAtOnce_0 rfl (lv_at hl 1 rfl) ?_
  refine lv_if_lt (tgt := 22) hx hb dX4_addAtOnce_1 (by decide) (fun c_1 => ?_) (fun c_1 => ?_)
  · have h := if_t h c_1
    cases h
    exact eMv hx hb hr hlk hP hD hS dX4_addAtOnce_22
  · have h := if_f h c_1
    refine lv_iload_n hx hb dX4_addAtOnce_4 rfl (lv_at hl 1 rfl) ?_
    refine lv_bipush (v := (6 : Int32)) hx hb dX4_addAtOnce_5 rfl ?_
    refine lv_icmp_ge (tgt := 22) hx hb dX4_addAtOnce_7 (by decide) (fun c_7 => ?_) (fun c_7 => ?_)
    · have h := if_t h c_7
      cases h
      exact eMv hx hb hr hlk hP hD hS dX4_addAtOnce_22
    · have h := if_f h c_7
      refine lv_aload_n hx hb dX4_addAtOnce_10 rfl (lv_at hl 0 rfl) ?_
      refine va_get (ci := 4) (v := .ref a0_sets) (C := RX4) (T := TX4) (N := 4) hx hb hts iu_X4 hown hK.1 hP 0 rfl rfl 0 (by decide) (hts (.fieldLink RX4 9 "SheetMarks$Ticks" "sets" "[I") (List.mem_of_getElem? (i := 1) rfl)) (fun _ h9 => h9) rfl dX4_addAtOnce_11 ?_
      refine lv_iload_n hx hb dX4_addAtOnce_14 rfl (lv_at hl 1 rfl) ?_
      refine lv_dup2_11 hx hb dX4_addAtOnce_15 rfl rfl ?_
      obtain ⟨g_16, h⟩ := gd_e h
      refine va_iald hx hb hK.1 hP 1 0 rfl rfl g_16 dX4_addAtOnce_16 ?_
      refine lv_iconst (v := (1 : Int32)) hx hb dX4_addAtOnce_17 rfl ?_
      refine lv_iload_n hx hb dX4_addAtOnce_18 rfl (lv_at hl 2 rfl) ?_
      refine lv_ishl hx hb dX4_addAtOnce_19 ?_
      refine lv_ior hx hb dX4_addAtOnce_20 ?_
      obtain ⟨g_21, h⟩ := gd_e h
      refine va_iast hx hb hK.1 hP hD hS 1 0 rfl rfl g_21 dX4_addAtOnce_21 (fun H locs hP hD hS => ?_)
      obtain ⟨c_sets_21, e_21⟩ : ∃ y : Nat → Int32, y = (upd c_sets v1.toNatClampNeg ((c_sets v1.toNatClampNeg) ||| ((1 : Int32) <<< (v2 &&& 31)))) := ⟨_, rfl⟩
      have h := lt'_e e_21 h
      have hP : va_P (dC, dI) vwCl (wX4 ck a0 a0_sets a0_coming a0_origins c_sets_21 c_coming c_origins c_round) H := by subst e_21; exact hP
      have hD : va_D A (wX4 ck a0 a0_sets a0_coming a0_origins c_sets_21 c_coming c_origins c_round) := by subst e_21; exact hD
      cases h
      exact eMv hx hb hr hlk hP hD hS dX4_addAtOnce_22
noncomputable def f_X4_has (c_sets : Nat → Int32) (v1 : Int32) (v2 : Int32) : Option (Int32) :=
  ob1 (f_X4_of c_sets v1) (fun (r_2 : Int32) => ob1 (f_X5_isIn r_2 v2) (fun (r_6 : Int32) => bo r_6 (some r_6)))
set_option maxHeartbeats 4000000 in
set_option maxRecDepth 100000 in
theorem c_X4_has (l : Launch) (dC : Nat → ClassId) (dI : Nat → Nat → Nat) (ck : Nat → ClassId) (a0 a0_sets a0_coming a0_origins : Nat) (c_sets : Nat → Int32) (c_coming : Nat → Int32) (c_origins : Nat → Int32) (c_round : Int32) (v1 : Int32) (v2 : Int32) (o0 : Int32) (h : f_X4_has c_sets v1 v2 = some o0) : RD l yX4_has wsX4_has ({ frames := 1, cells := 0, slots := 0, locals := 21 }) [.ref a0, .int v1, .int v2] (dC, dI) ck (wX4 ck a0 a0_sets a0_coming a0_origins c_sets c_coming c_origins c_round) o0 := by
  refine RD.ofW (cc := cX4_has) (maxL := 3) (ret := (some .boolean)) (by decide +kernel) rfl (Nat.le_of_ble_eq_true rfl) ?_
  intro p e s m below meth c hx hb hr hml hts hown hlk hK hP ls hl
  have hown : s.vm.findClass RX4 = some m.cls := hown
  have hl : lv_has ls 3 [(0, .ref a0), (1, .int v1), (2, .int v2)] := hl
  unfold f_X4_has at h
  refine lv_aload_n hx hb dX4_has_0 rfl (lv_at hl 0 rfl) ?_
  refine lv_iload_n hx hb dX4_has_1 rfl (lv_at hl 1 rfl) ?_
  obtain ⟨r_2, q_2, h⟩ := ob1_e h
  refine cRV (wc := wX4 ck a0 a0_sets a0_coming a0_origins c_sets c_coming c_origins c_round) ⟨hx, hb, hml, hown, hts⟩ hK hP [0, 1, 2, 3] rfl (c_X4_of l dC dI ck a0 a0_sets a0_coming a0_origins c_sets c_coming c_origins c_round v1 r_2 q_2) (cwV 1 hts gX4_has_X4_of rfl rfl rfl (by decide +kernel) ⟨Nat.le_of_ble_eq_true rfl, Nat.le_of_ble_eq_true rfl⟩) 0 rfl rfl rfl hl.1 rfl (Nat.le_of_ble_eq_true rfl) dX4_has_2 ⟨Nat.zero_le _, Nat.zero_le _⟩ ?_
  refine lv_iload_n hx hb dX4_has_5 rfl (lv_at hl 2 rfl) ?_
  obtain ⟨r_6, q_6, h⟩ := ob1_e h
  refine cRSN (wc := []) ⟨hx, hb, hml, hown, hts⟩ hK hP [] rfl (c_X5_isIn l dC dI ck r_2 v2 r_6 q_6) ⟨va_cnB 2 hts gX4_has_X5_isIn_n37 rfl rfl rfl (hK.2.m 5 rfl) (hts (.initialized RX5) (List.mem_of_getElem? (i := 8) rfl)) (by decide +kernel) ⟨Nat.le_of_ble_eq_true rfl, Nat.le_of_ble_eq_true rfl⟩, hts (.static yX5_isIn) (List.mem_of_getElem? (i := 7) rfl), trivial⟩ rfl hl.1 rfl (Nat.le_of_ble_eq_true rfl) dX4_has_6 ⟨Nat.zero_le _, Nat.zero_le _⟩ ?_
  obtain ⟨n_9, h⟩ := bo_e h
  cases h
  exact eRz hx hb hr hlk rfl n_9.1 dX4_has_9
noncomputable def f_X4_roundOf (c_sets : Nat → Int32) (c_origins : Nat → Int32) (v1 : Int32) (v2 : Int32) : Option (Int32) :=
  ob1 (f_X4_has c_sets v1 v2) (fun (r_3 : Int32) => if r_3 = (0 : Int32) then (some (-6 : Int32)) else (gd ((v1 * (18 : Int32)) + v2) 108 (some ((c_origins ((v1 * (18 : Int32)) + v2).toNatClampNeg) >>> ((3 : Int32) &&& 31)))))
set_option maxHeartbeats 4000000 in
set_option maxRecDepth 100000 in
theorem c_X4_roundOf (l : Launch) (dC : Nat → ClassId) (dI : Nat → Nat → Nat) (ck : Nat → ClassId) (a0 a0_sets a0_coming a0_origins : Nat) (c_sets : Nat → Int32) (c_coming : Nat → Int32) (c_origins : Nat → Int32) (c_round : Int32) (v1 : Int32) (v2 : Int32) (o0 : Int32) (h : f_X4_roundOf c_sets c_origins v1 v2 = some o0) : RD l yX4_roundOf wsX4_roundOf ({ frames := 2, cells := 0, slots := 0, locals := 43 }) [.ref a0, .int v1, .int v2] (dC, dI) ck (wX4 ck a0 a0_sets a0_coming a0_origins c_sets c_coming c_origins c_round) o0 := by
  refine RD.ofW (cc := cX4_roundOf) (maxL := 3) (ret := (some .int)) (by decide +kernel) rfl (Nat.le_of_ble_eq_true rfl) ?_
  intro p e s m below meth c hx hb hr hml hts hown hlk hK hP ls hl
  have hown : s.vm.findClass RX4 = some m.cls := hown
  have hl : lv_has ls 3 [(0, .ref a0), (1, .int v1), (2, .int v2)] := hl
  have iu_X4 : ∀ w ∈ u_ws RX4 TX4 4, w ∈ wsX4_roundOf := fun w h => List.mem_cons_of_mem _ (List.mem_append_right _ h)
  unfold f_X4_roundOf at h
  refine lv_aload_n hx hb dX4_roundOf_0 rfl (lv_at hl 0 rfl) ?_
  refine lv_iload_n hx hb dX4_roundOf_1 rfl (lv_at hl 1 rfl) ?_
  refine lv_iload_n hx hb dX4_roundOf_2 rfl (lv_at hl 2 rfl) ?_
  obtain ⟨r_3, q_3, h⟩ := ob1_e h
  refine cRV (wc := wX4 ck a0 a0_sets a0_coming a0_origins c_sets c_coming c_origins c_round) ⟨hx, hb, hml, hown, hts⟩ hK hP [0, 1, 2, 3] rfl (c_X4_has l dC dI ck a0 a0_sets a0_coming a0_origins c_sets c_coming c_origins c_round v1 v2 r_3 q_3) (cwV 2 hts gX4_roundOf_X4_has rfl rfl rfl (by decide +kernel) ⟨Nat.le_of_ble_eq_true rfl, Nat.le_of_ble_eq_true rfl⟩) 0 rfl rfl rfl hl.1 rfl (Nat.le_of_ble_eq_true rfl) dX4_roundOf_3 ⟨Nat.zero_le _, Nat.zero_le _⟩ ?_
  refine lv_if_eq (tgt := 25) hx hb dX4_roundOf_6 (by decide) (fun c_6 => ?_) (fun c_6 => ?_)
  · have h := if_t h c_6
    refine lv_bipush (v := (-6 : Int32)) hx hb dX4_roundOf_25 rfl ?_
    cases h
    exact eRi hx hb hr hlk rfl dX4_roundOf_27
  · have h := if_f h c_6
    refine lv_aload_n hx hb dX4_roundOf_9 rfl (lv_at hl 0 rfl) ?_
    refine va_get (ci := 4) (v := .ref a0_origins) (C := RX4) (T := TX4) (N := 4) hx hb hts iu_X4 hown hK.1 hP 0 rfl rfl 2 (by decide) (hts (.fieldLink RX4 18 "SheetMarks$Ticks" "origins" "[I") (List.mem_of_getElem? (i := 1) rfl)) (fun _ h9 => h9) rfl dX4_roundOf_10 ?_
    refine lv_iload_n hx hb dX4_roundOf_13 rfl (lv_at hl 1 rfl) ?_
    refine lv_bipush (v := (18 : Int32)) hx hb dX4_roundOf_14 rfl ?_
    refine lv_imul hx hb dX4_roundOf_16 ?_
    refine lv_iload_n hx hb dX4_roundOf_17 rfl (lv_at hl 2 rfl) ?_
    refine lv_iadd hx hb dX4_roundOf_18 ?_
    obtain ⟨g_19, h⟩ := gd_e h
    refine va_iald hx hb hK.1 hP 3 0 rfl rfl g_19 dX4_roundOf_19 ?_
    refine lv_iconst (v := (3 : Int32)) hx hb dX4_roundOf_20 rfl ?_
    refine lv_ishr hx hb dX4_roundOf_21 ?_
    refine lv_goto (tgt := 27) hx hb dX4_roundOf_22 (by decide) ?_
    cases h
    exact eRi hx hb hr hlk rfl dX4_roundOf_27
noncomputable def f_X4_ruleOf (c_sets : Nat → Int32) (c_origins : Nat → Int32) (v1 : Int32) (v2 : Int32) : Option (Int32) :=
  ob1 (f_X4_has c_sets v1 v2) (fun (r_3 : Int32) => if r_3 = (0 : Int32) then (some (-6 : Int32)) else (gd ((v1 * (18 : Int32)) + v2) 108 (some ((c_origins ((v1 * (18 : Int32)) + v2).toNatClampNeg) &&& (7 : Int32)))))
set_option maxHeartbeats 4000000 in
set_option maxRecDepth 100000 in
theorem c_X4_ruleOf (l : Launch) (dC : Nat → ClassId) (dI : Nat → Nat → Nat) (ck : Nat → ClassId) (a0 a0_sets a0_coming a0_origins : Nat) (c_sets : Nat → Int32) (c_coming : Nat → Int32) (c_origins : Nat → Int32) (c_round : Int32) (v1 : Int32) (v2 : Int32) (o0 : Int32) (h : f_X4_ruleOf c_sets c_origins v1 v2 = some o0) : RD l yX4_ruleOf wsX4_ruleOf ({ frames := 2, cells := 0, slots := 0, locals := 43 }) [.ref a0, .int v1, .int v2] (dC, dI) ck (wX4 ck a0 a0_sets a0_coming a0_origins c_sets c_coming c_origins c_round) o0 := by
  refine RD.ofW (cc := cX4_ruleOf) (maxL := 3) (ret := (some .int)) (by decide +kernel) rfl (Nat.le_of_ble_eq_true rfl) ?_
  intro p e s m below meth c hx hb hr hml hts hown hlk hK hP ls hl
  have hown : s.vm.findClass RX4 = some m.cls := hown
  have hl : lv_has ls 3 [(0, .ref a0), (1, .int v1), (2, .int v2)] := hl
  have iu_X4 : ∀ w ∈ u_ws RX4 TX4 4, w ∈ wsX4_ruleOf := fun w h => List.mem_cons_of_mem _ (List.mem_append_right _ h)
  unfold f_X4_ruleOf at h
  refine lv_aload_n hx hb dX4_ruleOf_0 rfl (lv_at hl 0 rfl) ?_
  refine lv_iload_n hx hb dX4_ruleOf_1 rfl (lv_at hl 1 rfl) ?_
  refine lv_iload_n hx hb dX4_ruleOf_2 rfl (lv_at hl 2 rfl) ?_
  obtain ⟨r_3, q_3, h⟩ := ob1_e h
  refine cRV (wc := wX4 ck a0 a0_sets a0_coming a0_origins c_sets c_coming c_origins c_round) ⟨hx, hb, hml, hown, hts⟩ hK hP [0, 1, 2, 3] rfl (c_X4_has l dC dI ck a0 a0_sets a0_coming a0_origins c_sets c_coming c_origins c_round v1 v2 r_3 q_3) (cwV 2 hts gX4_ruleOf_X4_has rfl rfl rfl (by decide +kernel) ⟨Nat.le_of_ble_eq_true rfl, Nat.le_of_ble_eq_true rfl⟩) 0 rfl rfl rfl hl.1 rfl (Nat.le_of_ble_eq_true rfl) dX4_ruleOf_3 ⟨Nat.zero_le _, Nat.zero_le _⟩ ?_
  refine lv_if_eq (tgt := 26) hx hb dX4_ruleOf_6 (by decide) (fun c_6 => ?_) (fun c_6 => ?_)
  · have h := if_t h c_6
    refine lv_bipush (v := (-6 : Int32)) hx hb dX4_ruleOf_26 rfl ?_
    cases h
    exact eRi hx hb hr hlk rfl dX4_ruleOf_28
  · have h := if_f h c_6
    refine lv_aload_n hx hb dX4_ruleOf_9 rfl (lv_at hl 0 rfl) ?_
    refine va_get (ci := 4) (v := .ref a0_origins) (C := RX4) (T := TX4) (N := 4) hx hb hts iu_X4 hown hK.1 hP 0 rfl rfl 2 (by decide) (hts (.fieldLink RX4 18 "SheetMarks$Ticks" "origins" "[I") (List.mem_of_getElem? (i := 1) rfl)) (fun _ h9 => h9) rfl dX4_ruleOf_10 ?_
    refine lv_iload_n hx hb dX4_ruleOf_13 rfl (lv_at hl 1 rfl) ?_
    refine lv_bipush (v := (18 : Int32)) hx hb dX4_ruleOf_14 rfl ?_
    refine lv_imul hx hb dX4_ruleOf_16 ?_
    refine lv_iload_n hx hb dX4_ruleOf_17 rfl (lv_at hl 2 rfl) ?_
    refine lv_iadd hx hb dX4_ruleOf_18 ?_
    obtain ⟨g_19, h⟩ := gd_e h
    refine va_iald hx hb hK.1 hP 3 0 rfl rfl g_19 dX4_ruleOf_19 ?_
    refine lv_bipush (v := (7 : Int32)) hx hb dX4_ruleOf_20 rfl ?_
    refine lv_iand hx hb dX4_ruleOf_22 ?_
    refine lv_goto (tgt := 28) hx hb dX4_ruleOf_23 (by decide) ?_
    cases h
    exact eRi hx hb hr hlk rfl dX4_ruleOf_28
