noncomputable def f_X4_clear (c_sets : Nat → Int32) (c_round : Int32) : Option ((Nat → Int32) × Int32) :=
  ob1 (f_J7_fill_53178 c_sets (0 : Int32)) (fun (c_sets_5 : Nat → Int32) => some (c_sets_5, (1 : Int32)))
set_option maxHeartbeats 4000000 in
set_option maxRecDepth 100000 in
theorem c_X4_clear (l : Launch) (dC : Nat → ClassId) (dI : Nat → Nat → Nat) (ck : Nat → ClassId) (a0 a0_sets a0_coming a0_origins : Nat) (c_sets : Nat → Int32) (c_coming : Nat → Int32) (c_origins : Nat → Int32) (c_round : Int32) (o0 : Nat → Int32) (o1 : Int32) (h : f_X4_clear c_sets c_round = some (o0, o1)) : MV l yX4_clear wsX4_clear ({ frames := 1, cells := 0, slots := 0, locals := 23 }) [.ref a0] (dC, dI) ck (wX4 ck a0 a0_sets a0_coming a0_origins c_sets c_coming c_origins c_round) (wX4 ck a0 a0_sets a0_coming a0_origins o0 c_coming c_origins o1) := by
  refine MV.ofW (cc := cX4_clear) (maxL := 1) (ret := none) (by decide +kernel) rfl (Nat.le_of_ble_eq_true rfl) ?_
  intro p e s m below meth c hx hb hr hml hts hown hlk hK hP A hA hD ls hl
  have hS : va_S A s.heap s.heap [] := va_S.rf
  have hown : s.vm.findClass RX4 = some m.cls := hown
  have hl : lv_has ls 1 [(0, .ref a0)] := hl
  have iu_X4 : ∀ w ∈ u_ws RX4 TX4 4, w ∈ wsX4_clear := fun w h => List.mem_cons_of_mem _ (List.mem_append_right _ h)
  unfold f_X4_clear at h
  refine lv_aload_n hx hb dX4_clear_0 rfl (lv_at hl 0 rfl) ?_
  refine va_get (ci := 4) (v := .ref a0_sets) (C := RX4) (T := TX4) (N := 4) hx hb hts iu_X4 hown hK.1 hP 0 rfl rfl 0 (by decide) (hts (.fieldLink RX4 9 "SheetMarks$Ticks" "sets" "[I") (List.mem_of_getElem? (i := 1) rfl)) (fun _ h9 => h9) rfl dX4_clear_1 ?_
  refine lv_iconst (v := (0 : Int32)) hx hb dX4_clear_4 rfl ?_
  obtain ⟨c_sets_5, q_5, h⟩ := ob1_e h
  refine cSV (wc := [(a0_sets, .inl (ck 0, 6, .inl c_sets))]) (wr := [(a0, .inr (4, [.ref a0_sets, .ref a0_coming, .ref a0_origins, .int c_round]))] ++ [(a0_coming, .inl (ck 0, 6, .inl c_coming))] ++ [(a0_origins, .inl (ck 0, 108, .inl c_origins))]) (w1 := [(a0_sets, .inl (ck 0, 6, .inl c_sets_5))]) (wn := wX4 ck a0 a0_sets a0_coming a0_origins c_sets_5 c_coming c_origins c_round) ⟨hx, hb, hml, hown, hts⟩ hK hP hD hS hA [1] [0, 2, 3] [0, 3, 1, 2] rfl (by decide) rfl (by decide) (by decide) rfl (by decide) (c_J7_fill_53178 l dC dI ck a0_sets c_sets (0 : Int32) c_sets_5 q_5) (va_cwS 2 hts gX4_clear_J7_fill_53178 rfl rfl rfl (by decide +kernel) ⟨Nat.le_of_ble_eq_true rfl, Nat.le_of_ble_eq_true rfl⟩) rfl hl.1 rfl (Nat.le_of_ble_eq_true rfl) dX4_clear_5 ⟨Nat.zero_le _, Nat.zero_le _⟩ (fun H locs hP hD hS => ?_)
  refine lv_aload_n hx hb dX4_clear_8 rfl (lv_at hl 0 rfl) ?_
  refine lv_iconst (v := (1 : Int32)) hx hb dX4_clear_9 rfl ?_
  refine va_put (ci := 4) (v := .int (1 : Int32)) (ty := .int) (C := RX4) (T := TX4) (N := 4) hx hb hts iu_X4 tyX4 tyX4_ok nmX4 hown hK.1 hP hD hS 0 rfl rfl 3 (by decide) (hts (.fieldLink RX4 21 "SheetMarks$Ticks" "round" "I") (List.mem_of_getElem? (i := 2) rfl)) (fun _ h9 => h9) rfl (by decide +kernel) rfl rfl (Nat.le_of_ble_eq_true rfl) dX4_clear_10 (fun H locs hP hD hS => ?_)
  have hP : va_P (dC, dI) vwCl (wX4 ck a0 a0_sets a0_coming a0_origins c_sets_5 c_coming c_origins (1 : Int32)) H := hP
  have hD : va_D A (wX4 ck a0 a0_sets a0_coming a0_origins c_sets_5 c_coming c_origins (1 : Int32)) := hD
  cases h
  exact eMv hx hb hr hlk hP hD hS dX4_clear_13
noncomputable def f_X4_add_L52 (c_round : Int32) (v1 : Int32) (v3 : Int32) (v4_30 : Int32) (c_coming_48 : Nat → Int32) (rec52 : Int32 → (Nat → Int32) → Option ((Nat → Int32) × (Nat → Int32))) (v5_L52 : Int32) (c_origins_L52 : Nat → Int32) : Option ((Nat → Int32) × (Nat → Int32)) :=
  if (18 : Int32) ≤ v5_L52 then (some (c_coming_48, c_origins_L52)) else (ob1 (f_X5_isIn v4_30 v5_L52) (fun (r_63 : Int32) => if r_63 = (0 : Int32) then (rec52 (v5_L52 + (1 : Int32)) c_origins_L52) else (gd ((v1 * (18 : Int32)) + v5_L52) 108 (lt' (upd c_origins_L52 ((v1 * (18 : Int32)) + v5_L52).toNatClampNeg ((c_round <<< ((3 : Int32) &&& 31)) ||| v3)) (fun c_origins_88 : Nat → Int32 => rec52 (v5_L52 + (1 : Int32)) c_origins_88)))))
noncomputable def f_X4_add (c_sets : Nat → Int32) (c_coming : Nat → Int32) (c_origins : Nat → Int32) (c_round : Int32) (v1 : Int32) (v2 : Int32) (v3 : Int32) : Option ((Nat → Int32) × (Nat → Int32)) :=
  if v1 < (0 : Int32) then (some (c_coming, c_origins)) else (if v1 < (6 : Int32) then (gd v1 6 (gd v1 6 (lt' ((v2 &&& ((c_sets v1.toNatClampNeg) ^^^ (-1 : Int32))) &&& ((c_coming v1.toNatClampNeg) ^^^ (-1 : Int32))) (fun v4_30 : Int32 => if v4_30 = (0 : Int32) then (some (c_coming, c_origins)) else (gd v1 6 (gd v1 6 (lt' (upd c_coming v1.toNatClampNeg ((c_coming v1.toNatClampNeg) ||| v4_30)) (fun c_coming_48 : Nat → Int32 => lo2 (f_X4_add_L52 c_round v1 v3 v4_30 c_coming_48) FU (0 : Int32) c_origins)))))))) else (some (c_coming, c_origins)))
set_option maxHeartbeats 4000000 in
set_option maxRecDepth 100000 in
theorem c_X4_add (l : Launch) (dC : Nat → ClassId) (dI : Nat → Nat → Nat) (ck : Nat → ClassId) (a0 a0_sets a0_coming a0_origins : Nat) (c_sets : Nat → Int32) (c_coming : Nat → Int32) (c_origins : Nat → Int32) (c_round : Int32) (v1 : Int32) (v2 : Int32) (v3 : Int32) (o0 : Nat → Int32) (o1 : Nat → Int32) (h : f_X4_add c_sets c_coming c_origins c_round v1 v2 v3 = some (o0, o1)) : MV l yX4_add wsX4_add ({ frames := 1, cells := 0, slots := 0, locals := 21 }) [.ref a0, .int v1, .int v2, .int v3] (dC, dI) ck (wX4 ck a0 a0_sets a0_coming a0_origins c_sets c_coming c_origins c_round) (wX4 ck a0 a0_sets a0_coming a0_origins c_sets o0 o1 c_round) := by
  refine MV.ofW (cc := cX4_add) (maxL := 6) (ret := none) (by decide +kernel) rfl (Nat.le_of_ble_eq_true rfl) ?_
  intro p e s m below meth c hx hb hr hml hts hown hlk hK hP A hA hD ls hl
  have hS : va_S A s.heap s.heap [] := va_S.rf
  have hown : s.vm.findClass RX4 = some m.cls := hown
  have hl : lv_has ls 6 [(0, .ref a0), (1, .int v1), (2, .int v2), (3, .int v3)] := hl
  have iu_X4 : ∀ w ∈ u_ws RX4 TX4 4, w ∈ wsX4_add := fun w h => List.mem_cons_of_mem _ (List.mem_append_right _ h)
  unfold f_X4_add at h
  refine lv_iload_n hx hb dX4_add_0 rfl (lv_at hl 1 rfl) ?_
  refine lv_if_lt (tgt := 10) hx hb dX4_add_1 (by decide) (fun c_1 => ?_) (fun c_1 => ?_)
  · have h := if_t h c_1
    cases h
    exact eMv hx hb hr hlk hP hD hS dX4_add_10
  · have h := if_f h c_1
    refine lv_iload_n hx hb dX4_add_4 rfl (lv_at hl 1 rfl) ?_
    refine lv_bipush (v := (6 : Int32)) hx hb dX4_add_5 rfl ?_
    refine lv_icmp_lt (tgt := 11) hx hb dX4_add_7 (by decide) (fun c_7 => ?_) (fun c_7 => ?_)
    · have h := if_t h c_7
      refine lv_iload_n hx hb dX4_add_11 rfl (lv_at hl 2 rfl) ?_
      refine lv_aload_n hx hb dX4_add_12 rfl (lv_at hl 0 rfl) ?_
      refine va_get (ci := 4) (v := .ref a0_sets) (C := RX4) (T := TX4) (N := 4) hx hb hts iu_X4 hown hK.1 hP 0 rfl rfl 0 (by decide) (hts (.fieldLink RX4 9 "SheetMarks$Ticks" "sets" "[I") (List.mem_of_getElem? (i := 1) rfl)) (fun _ h9 => h9) rfl dX4_add_13 ?_
      refine lv_iload_n hx hb dX4_add_16 rfl (lv_at hl 1 rfl) ?_
      obtain ⟨g_17, h⟩ := gd_e h
      refine va_iald hx hb hK.1 hP 1 0 rfl rfl g_17 dX4_add_17 ?_
      refine lv_iconst (v := (-1 : Int32)) hx hb dX4_add_18 rfl ?_
      refine lv_ixor hx hb dX4_add_19 ?_
      refine lv_iand hx hb dX4_add_20 ?_
      refine lv_aload_n hx hb dX4_add_21 rfl (lv_at hl 0 rfl) ?_
      refine va_get (ci := 4) (v := .ref a0_coming) (C := RX4) (T := TX4) (N := 4) hx hb hts iu_X4 hown hK.1 hP 0 rfl rfl 1 (by decide) (hts (.fieldLink RX4 15 "SheetMarks$Ticks" "coming" "[I") (List.mem_of_getElem? (i := 2) rfl)) (fun _ h9 => h9) rfl dX4_add_22 ?_
      refine lv_iload_n hx hb dX4_add_25 rfl (lv_at hl 1 rfl) ?_
      obtain ⟨g_26, h⟩ := gd_e h
      refine va_iald hx hb hK.1 hP 2 0 rfl rfl g_26 dX4_add_26 ?_
      refine lv_iconst (v := (-1 : Int32)) hx hb dX4_add_27 rfl ?_
      refine lv_ixor hx hb dX4_add_28 ?_
      refine lv_iand hx hb dX4_add_29 ?_
      refine lv_topi (fun v4_30 e_30 => ?_)
      have h := lt'_e e_30 h
      refine lv_istore (lv' := [(4, .int v4_30), (0, .ref a0), (1, .int v1), (2, .int v2), (3, .int v3)]) hx hb dX4_add_30 hl (by decide) rfl (fun ls hl => ?_)
      refine lv_iload hx hb dX4_add_32 (lv_at hl 0 rfl) ?_
      refine lv_if_ne (tgt := 38) hx hb dX4_add_34 (by decide) (fun c_34 => ?_) (fun c_34 => ?_)
      · have h := if_f h c_34
        refine lv_aload_n hx hb dX4_add_38 rfl (lv_at hl 1 rfl) ?_
        refine va_get (ci := 4) (v := .ref a0_coming) (C := RX4) (T := TX4) (N := 4) hx hb hts iu_X4 hown hK.1 hP 0 rfl rfl 1 (by decide) (hts (.fieldLink RX4 15 "SheetMarks$Ticks" "coming" "[I") (List.mem_of_getElem? (i := 2) rfl)) (fun _ h9 => h9) rfl dX4_add_39 ?_
        refine lv_iload_n hx hb dX4_add_42 rfl (lv_at hl 2 rfl) ?_
        refine lv_dup2_11 hx hb dX4_add_43 rfl rfl ?_
        obtain ⟨g_44, h⟩ := gd_e h
        refine va_iald hx hb hK.1 hP 2 0 rfl rfl g_44 dX4_add_44 ?_
        refine lv_iload hx hb dX4_add_45 (lv_at hl 0 rfl) ?_
        refine lv_ior hx hb dX4_add_47 ?_
        obtain ⟨g_48, h⟩ := gd_e h
        refine va_iast hx hb hK.1 hP hD hS 2 0 rfl rfl g_48 dX4_add_48 (fun H locs hP hD hS => ?_)
        obtain ⟨c_coming_48, e_48⟩ : ∃ y : Nat → Int32, y = (upd c_coming v1.toNatClampNeg ((c_coming v1.toNatClampNeg) ||| v4_30)) := ⟨_, rfl⟩
        have h := lt'_e e_48 h
        have hP : va_P (dC, dI) vwCl (wX4 ck a0 a0_sets a0_coming a0_origins c_sets c_coming_48 c_origins c_round) H := by subst e_48; exact hP
        have hD : va_D A (wX4 ck a0 a0_sets a0_coming a0_origins c_sets c_coming_48 c_origins c_round) := by subst e_48; exact hD
        refine lv_iconst (v := (0 : Int32)) hx hb dX4_add_49 rfl ?_
        refine lv_istore (lv' := [(5, .int (0 : Int32)), (4, .int v4_30), (0, .ref a0), (1, .int v1), (2, .int v2), (3, .int v3)]) hx hb dX4_add_50 hl (by decide) rfl (fun ls hl => ?_)
        have hL52 : ∀ (n52 : Nat) (v5_L52 : Int32) (c_origins_L52 : Nat → Int32), lo2 (f_X4_add_L52 c_round v1 v3 v4_30 c_coming_48) n52 v5_L52 c_origins_L52 = some (o0, o1) → ∀ (H : Heap) (locs : List Loc), va_P (dC, dI) vwCl (wX4 ck a0 a0_sets a0_coming a0_origins c_sets c_coming_48 c_origins_L52 c_round) H → va_D A (wX4 ck a0 a0_sets a0_coming a0_origins c_sets c_coming_48 c_origins_L52 c_round) → va_S A s.heap H locs → ∀ ls : Array Slot, lv_has ls 6 [(5, .int v5_L52), (4, .int v4_30), (0, .ref a0), (1, .int v1), (3, .int v3)] → W p l e (headSpec wsX4_add ({ frames := 1, cells := 0, slots := 0, locals := 21 })).room s m [.ref a0, .int v1, .int v2, .int v3].toArray below meth c H locs 0 0 (MQ below (QV (dC, dI) (wX4 ck a0 a0_sets a0_coming a0_origins c_sets o0 o1 c_round) A) [.ref a0, .int v1, .int v2, .int v3].toArray s 0 0 A) (F0 m 52 ls []) := by
          intro n52
          induction n52 with
          | zero => intro v5_L52 c_origins_L52 h; exact lo2_z h
          | succ n52 ih52 =>
            intro v5_L52 c_origins_L52 h H locs hP hD hS ls hl
            have h := lo2_s h
            unfold f_X4_add_L52 at h
            refine lv_iload hx hb dX4_add_52 (lv_at hl 0 rfl) ?_
            refine lv_bipush (v := (18 : Int32)) hx hb dX4_add_54 rfl ?_
            refine lv_icmp_ge (tgt := 95) hx hb dX4_add_56 (by decide) (fun c_56 => ?_) (fun c_56 => ?_)
            · have h := if_t h c_56
              cases h
              exact eMv hx hb hr hlk hP hD hS dX4_add_95
            · have h := if_f h c_56
              refine lv_iload hx hb dX4_add_59 (lv_at hl 1 rfl) ?_
              refine lv_iload hx hb dX4_add_61 (lv_at hl 0 rfl) ?_
              obtain ⟨r_63, q_63, h⟩ := ob1_e h
              refine cRSN (wc := []) ⟨hx, hb, hml, hown, hts⟩ hK hP [] rfl (c_X5_isIn l dC dI ck v4_30 v5_L52 r_63 q_63) ⟨va_cnB 2 hts gX4_add_X5_isIn_n37 rfl rfl rfl (hK.2.m 5 rfl) (hts (.initialized RX5) (List.mem_of_getElem? (i := 6) rfl)) (by decide +kernel) ⟨Nat.le_of_ble_eq_true rfl, Nat.le_of_ble_eq_true rfl⟩, hts (.static yX5_isIn) (List.mem_of_getElem? (i := 5) rfl), trivial⟩ rfl hl.1 rfl (Nat.le_of_ble_eq_true rfl) dX4_add_63 ⟨Nat.zero_le _, Nat.zero_le _⟩ ?_
              refine lv_if_eq (tgt := 89) hx hb dX4_add_66 (by decide) (fun c_66 => ?_) (fun c_66 => ?_)
              · have h := if_t h c_66
                refine lv_iinc (v := (v5_L52 + (1 : Int32))) (lv' := [(5, .int (v5_L52 + (1 : Int32))), (4, .int v4_30), (0, .ref a0), (1, .int v1), (3, .int v3)]) hx hb dX4_add_89 hl (k := 0) rfl rfl (by decide) rfl (fun ls hl => ?_)
                refine lv_goto (tgt := 52) hx hb dX4_add_92 (by decide) ?_
                exact ih52 _ _ h _ _ hP hD hS _ (lv_sub hl [0, 1, 2, 3, 4] rfl)
              · have h := if_f h c_66
                refine lv_aload_n hx hb dX4_add_69 rfl (lv_at hl 2 rfl) ?_
                refine va_get (ci := 4) (v := .ref a0_origins) (C := RX4) (T := TX4) (N := 4) hx hb hts iu_X4 hown hK.1 hP 0 rfl rfl 2 (by decide) (hts (.fieldLink RX4 18 "SheetMarks$Ticks" "origins" "[I") (List.mem_of_getElem? (i := 3) rfl)) (fun _ h9 => h9) rfl dX4_add_70 ?_
                refine lv_iload_n hx hb dX4_add_73 rfl (lv_at hl 3 rfl) ?_
                refine lv_bipush (v := (18 : Int32)) hx hb dX4_add_74 rfl ?_
                refine lv_imul hx hb dX4_add_76 ?_
                refine lv_iload hx hb dX4_add_77 (lv_at hl 0 rfl) ?_
                refine lv_iadd hx hb dX4_add_79 ?_
                refine lv_aload_n hx hb dX4_add_80 rfl (lv_at hl 2 rfl) ?_
                refine va_get (ci := 4) (v := .int c_round) (C := RX4) (T := TX4) (N := 4) hx hb hts iu_X4 hown hK.1 hP 0 rfl rfl 3 (by decide) (hts (.fieldLink RX4 21 "SheetMarks$Ticks" "round" "I") (List.mem_of_getElem? (i := 4) rfl)) (fun _ h9 => h9) rfl dX4_add_81 ?_
                refine lv_iconst (v := (3 : Int32)) hx hb dX4_add_84 rfl ?_
                refine lv_ishl hx hb dX4_add_85 ?_
                refine lv_iload_n hx hb dX4_add_86 rfl (lv_at hl 4 rfl) ?_
                refine lv_ior hx hb dX4_add_87 ?_
                obtain ⟨g_88, h⟩ := gd_e h
                refine va_iast hx hb hK.1 hP hD hS 3 0 rfl rfl g_88 dX4_add_88 (fun H locs hP hD hS => ?_)
                obtain ⟨c_origins_88, e_88⟩ : ∃ y : Nat → Int32, y = (upd c_origins_L52 ((v1 * (18 : Int32)) + v5_L52).toNatClampNeg ((c_round <<< ((3 : Int32) &&& 31)) ||| v3)) := ⟨_, rfl⟩
                have h := lt'_e e_88 h
                have hP : va_P (dC, dI) vwCl (wX4 ck a0 a0_sets a0_coming a0_origins c_sets c_coming_48 c_origins_88 c_round) H := by subst e_88; exact hP
                have hD : va_D A (wX4 ck a0 a0_sets a0_coming a0_origins c_sets c_coming_48 c_origins_88 c_round) := by subst e_88; exact hD
                refine lv_iinc (v := (v5_L52 + (1 : Int32))) (lv' := [(5, .int (v5_L52 + (1 : Int32))), (4, .int v4_30), (0, .ref a0), (1, .int v1), (3, .int v3)]) hx hb dX4_add_89 hl (k := 0) rfl rfl (by decide) rfl (fun ls hl => ?_)
                refine lv_goto (tgt := 52) hx hb dX4_add_92 (by decide) ?_
                exact ih52 _ _ h _ _ hP hD hS _ (lv_sub hl [0, 1, 2, 3, 4] rfl)
        exact hL52 _ _ _ h _ _ hP hD hS _ (lv_sub hl [0, 1, 2, 3, 5] rfl)
      · have h := if_t h c_34
        cases h
        exact eMv hx hb hr hlk hP hD hS dX4_add_37
    · have h := if_f h c_7
      cases h
      exact eMv hx hb hr hlk hP hD hS dX4_add_10
noncomputable def f_X4_of (c_sets : Nat → Int32) (v1 : Int32) : Option (Int32) :=
  if v1 < (0 : Int32) then (some (0 : Int32)) else (if v1 < (6 : Int32) then (gd v1 6 (some (c_sets v1.toNatClampNeg))) else (some (0 : Int32)))
set_option maxHeartbeats 4000000 in
set_option maxRecDepth 100000 in
theorem c_X4_of (l : Launch) (dC : Nat → ClassId) (dI : Nat → Nat → Nat) (ck : Nat → ClassId) (a0 a0_sets a0_coming a0_origins : Nat) (c_sets : Nat → Int32) (c_coming : Nat → Int32) (c_origins : Nat → Int32) (c_round : Int32) (v1 : Int32) (o0 : Int32) (h : f_X4_of c_sets v1 = some o0) : RD l yX4_of wsX4_of ({ frames := 0, cells := 0, slots := 0, locals := 0 }) [.ref a0, .int v1] (dC, dI) ck (wX4 ck a0 a0_sets a0_coming a0_origins c_sets c_coming c_origins c_round) o0 := by
  refine RD.ofW (cc := cX4_of) (maxL := 2) (ret := (some .int)) (by decide +kernel) rfl (Nat.le_of_ble_eq_true rfl) ?_
  intro p e s m below meth c hx hb hr hml hts hown hlk hK hP ls hl
  have hown : s.vm.findClass RX4 = some m.cls := hown
  have hl : lv_has ls 2 [(0, .ref a0), (1, .int v1)] := hl
  have iu_X4 : ∀ w ∈ u_ws RX4 TX4 4, w ∈ wsX4_of := fun w h => List.mem_cons_of_mem _ (List.mem_append_right _ h)
  unfold f_X4_of at h
  refine lv_iload_n hx hb dX4_of_0 rfl (lv_at hl 1 rfl) ?_
  refine lv_if_lt (tgt := 10) hx hb dX4_of_1 (by decide) (fun c_1 => ?_) (fun c_1 => ?_)
  · have h := if_t h c_1
    refine lv_iconst (v := (0 : Int32)) hx hb dX4_of_10 rfl ?_
    refine lv_goto (tgt := 20) hx hb dX4_of_11 (by decide) ?_
    cases h
    exact eRi hx hb hr hlk rfl dX4_of_20
  · have h := if_f h c_1
    refine lv_iload_n hx hb dX4_of_4 rfl (lv_at hl 1 rfl) ?_
    refine lv_bipush (v := (6 : Int32)) hx hb dX4_of_5 rfl ?_
    refine lv_icmp_lt (tgt := 14) hx hb dX4_of_7 (by decide) (fun c_7 => ?_) (fun c_7 => ?_)
    · have h := if_t h c_7
      refine lv_aload_n hx hb dX4_of_14 rfl (lv_at hl 0 rfl) ?_
      refine va_get (ci := 4) (v := .ref a0_sets) (C := RX4) (T := TX4) (N := 4) hx hb hts iu_X4 hown hK.1 hP 0 rfl rfl 0 (by decide) (hts (.fieldLink RX4 9 "SheetMarks$Ticks" "sets" "[I") (List.mem_of_getElem? (i := 1) rfl)) (fun _ h9 => h9) rfl dX4_of_15 ?_
      refine lv_iload_n hx hb dX4_of_18 rfl (lv_at hl 1 rfl) ?_
      obtain ⟨g_19, h⟩ := gd_e h
      refine va_iald hx hb hK.1 hP 1 0 rfl rfl g_19 dX4_of_19 ?_
      cases h
      exact eRi hx hb hr hlk rfl dX4_of_20
    · have h := if_f h c_7
      refine lv_iconst (v := (0 : Int32)) hx hb dX4_of_10 rfl ?_
      refine lv_goto (tgt := 20) hx hb dX4_of_11 (by decide) ?_
      cases h
      exact eRi hx hb hr hlk rfl dX4_of_20
noncomputable def f_X4_make_L4 (c_round : Int32) (rec4 : Int32 → Int32 → (Nat → Int32) → (Nat → Int32) → Option (Int32 × (Nat → Int32) × (Nat → Int32) × Int32)) (v1_L4 : Int32) (v2_L4 : Int32) (c_sets_L4 : Nat → Int32) (c_coming_L4 : Nat → Int32) : Option (Int32 × (Nat → Int32) × (Nat → Int32) × Int32) :=
  if (6 : Int32) ≤ v2_L4 then (lt' (c_round + (1 : Int32)) (fun c_round_54 : Int32 => if v1_L4 = (0 : Int32) then (some ((0 : Int32), c_sets_L4, c_coming_L4, c_round_54)) else (some ((1 : Int32), c_sets_L4, c_coming_L4, c_round_54)))) else (gd v2_L4 6 (lt' (v1_L4 ||| (c_coming_L4 v2_L4.toNatClampNeg)) (fun v1_18 : Int32 => gd v2_L4 6 (gd v2_L4 6 (gd v2_L4 6 (lt' (upd c_sets_L4 v2_L4.toNatClampNeg ((c_sets_L4 v2_L4.toNatClampNeg) ||| (c_coming_L4 v2_L4.toNatClampNeg))) (fun c_sets_33 : Nat → Int32 => gd v2_L4 6 (lt' (upd c_coming_L4 v2_L4.toNatClampNeg (0 : Int32)) (fun c_coming_40 : Nat → Int32 => rec4 v1_18 (v2_L4 + (1 : Int32)) c_sets_33 c_coming_40)))))))))
noncomputable def f_X4_make (c_sets : Nat → Int32) (c_coming : Nat → Int32) (c_round : Int32) : Option (Int32 × (Nat → Int32) × (Nat → Int32) × Int32) :=
  lo4 (f_X4_make_L4 c_round) FU (0 : Int32) (0 : Int32) c_sets c_coming
set_option maxHeartbeats 4000000 in
set_option maxRecDepth 100000 in
theorem c_X4_make (l : Launch) (dC : Nat → ClassId) (dI : Nat → Nat → Nat) (ck : Nat → ClassId) (a0 a0_sets a0_coming a0_origins : Nat) (c_sets : Nat → Int32) (c_coming : Nat → Int32) (c_origins : Nat → Int32) (c_round : Int32) (o0 : Int32) (o1 : Nat → Int32) (o2 : Nat → Int32) (o3 : Int32) (h : f_X4_make c_sets c_coming c_round = some (o0, o1, o2, o3)) : MI l yX4_make wsX4_make ({ frames := 0, cells := 0, slots := 0, locals := 0 }) [.ref a0] (dC, dI) ck (wX4 ck a0 a0_sets a0_coming a0_origins c_sets c_coming c_origins c_round) (wX4 ck a0 a0_sets a0_coming a0_origins o1 o2 c_origins o3) o0 := by
  refine MI.ofW (cc := cX4_make) (maxL := 3) (ret := (some .boolean)) (by decide +kernel) rfl (Nat.le_of_ble_eq_true rfl) ?_
  intro p e s m below meth c hx hb hr hml hts hown hlk hK hP A hA hD ls hl
  have hS : va_S A s.heap s.heap [] := va_S.rf
  have hown : s.vm.findClass RX4 = some m.cls := hown
  have hl : lv_has ls 3 [(0, .ref a0)] := hl
  have iu_X4 : ∀ w ∈ u_ws RX4 TX4 4, w ∈ wsX4_make := fun w h => List.mem_cons_of_mem _ (List.mem_append_right _ h)
  unfold f_X4_make at h
  refine lv_iconst (v := (0 : Int32)) hx hb dX4_make_0 rfl ?_
  refine lv_istore_n (lv' := [(1, .int (0 : Int32)), (0, .ref a0)]) hx hb dX4_make_1 rfl hl (by decide) rfl (fun ls hl => ?_)
  refine lv_iconst (v := (0 : Int32)) hx hb dX4_make_2 rfl ?_
  refine lv_istore_n (lv' := [(2, .int (0 : Int32)), (1, .int (0 : Int32)), (0, .ref a0)]) hx hb dX4_make_3 rfl hl (by decide) rfl (fun ls hl => ?_)
  have hL4 : ∀ (n4 : Nat) (v1_L4 : Int32) (v2_L4 : Int32) (c_sets_L4 : Nat → Int32) (c_coming_L4 : Nat → Int32), lo4 (f_X4_make_L4 c_round) n4 v1_L4 v2_L4 c_sets_L4 c_coming_L4 = some (o0, o1, o2, o3) → ∀ (H : Heap) (locs : List Loc), va_P (dC, dI) vwCl (wX4 ck a0 a0_sets a0_coming a0_origins c_sets_L4 c_coming_L4 c_origins c_round) H → va_D A (wX4 ck a0 a0_sets a0_coming a0_origins c_sets_L4 c_coming_L4 c_origins c_round) → va_S A s.heap H locs → ∀ ls : Array Slot, lv_has ls 3 [(2, .int v2_L4), (1, .int v1_L4), (0, .ref a0)] → W p l e (headSpec wsX4_make ({ frames := 0, cells := 0, slots := 0, locals := 0 })).room s m [.ref a0].toArray below meth c H locs 0 0 (MQ below (QI (dC, dI) (wX4 ck a0 a0_sets a0_coming a0_origins o1 o2 c_origins o3) o0 A) [.ref a0].toArray s 0 0 A) (F0 m 4 ls []) := by
    intro n4
    induction n4 with
    | zero => intro v1_L4 v2_L4 c_sets_L4 c_coming_L4 h; exact lo4_z h
    | succ n4 ih4 =>
      intro v1_L4 v2_L4 c_sets_L4 c_coming_L4 h H locs hP hD hS ls hl
      have h := lo4_s h
      unfold f_X4_make_L4 at h
      refine lv_iload_n hx hb dX4_make_4 rfl (lv_at hl 0 rfl) ?_
      refine lv_bipush (v := (6 : Int32)) hx hb dX4_make_5 rfl ?_
      refine lv_icmp_ge (tgt := 47) hx hb dX4_make_7 (by decide) (fun c_7 => ?_) (fun c_7 => ?_)
      · have h := if_t h c_7
        refine lv_aload_n hx hb dX4_make_47 rfl (lv_at hl 2 rfl) ?_
        refine lv_dup hx hb dX4_make_48 rfl ?_
        refine va_get (ci := 4) (v := .int c_round) (C := RX4) (T := TX4) (N := 4) hx hb hts iu_X4 hown hK.1 hP 0 rfl rfl 3 (by decide) (hts (.fieldLink RX4 21 "SheetMarks$Ticks" "round" "I") (List.mem_of_getElem? (i := 3) rfl)) (fun _ h9 => h9) rfl dX4_make_49 ?_
        refine lv_iconst (v := (1 : Int32)) hx hb dX4_make_52 rfl ?_
        refine lv_iadd hx hb dX4_make_53 ?_
        refine lv_topi (fun c_round_54 e_54 => ?_)
        have h := lt'_e e_54 h
        refine va_put (ci := 4) (v := .int c_round_54) (ty := .int) (C := RX4) (T := TX4) (N := 4) hx hb hts iu_X4 tyX4 tyX4_ok nmX4 hown hK.1 hP hD hS 0 rfl rfl 3 (by decide) (hts (.fieldLink RX4 21 "SheetMarks$Ticks" "round" "I") (List.mem_of_getElem? (i := 3) rfl)) (fun _ h9 => h9) rfl (by decide +kernel) rfl rfl (Nat.le_of_ble_eq_true rfl) dX4_make_54 (fun H locs hP hD hS => ?_)
        have hP : va_P (dC, dI) vwCl (wX4 ck a0 a0_sets a0_coming a0_origins c_sets_L4 c_coming_L4 c_origins c_round_54) H := hP
        have hD : va_D A (wX4 ck a0 a0_sets a0_coming a0_origins c_sets_L4 c_coming_L4 c_origins c_round_54) := hD
        refine lv_iload_n hx hb dX4_make_57 rfl (lv_at hl 1 rfl) ?_
        refine lv_if_eq (tgt := 65) hx hb dX4_make_58 (by decide) (fun c_58 => ?_) (fun c_58 => ?_)
        · have h := if_t h c_58
          refine lv_iconst (v := (0 : Int32)) hx hb dX4_make_65 rfl ?_
          cases h
          exact eMz hx hb hr hlk hP hD hS rfl rfl dX4_make_66
        · have h := if_f h c_58
          refine lv_iconst (v := (1 : Int32)) hx hb dX4_make_61 rfl ?_
          refine lv_goto (tgt := 66) hx hb dX4_make_62 (by decide) ?_
          cases h
          exact eMz hx hb hr hlk hP hD hS rfl rfl dX4_make_66
      · have h := if_f h c_7
        refine lv_iload_n hx hb dX4_make_10 rfl (lv_at hl 1 rfl) ?_
        refine lv_aload_n hx hb dX4_make_11 rfl (lv_at hl 2 rfl) ?_
        refine va_get (ci := 4) (v := .ref a0_coming) (C := RX4) (T := TX4) (N := 4) hx hb hts iu_X4 hown hK.1 hP 0 rfl rfl 1 (by decide) (hts (.fieldLink RX4 15 "SheetMarks$Ticks" "coming" "[I") (List.mem_of_getElem? (i := 1) rfl)) (fun _ h9 => h9) rfl dX4_make_12 ?_
        refine lv_iload_n hx hb dX4_make_15 rfl (lv_at hl 0 rfl) ?_
        obtain ⟨g_16, h⟩ := gd_e h
        refine va_iald hx hb hK.1 hP 2 0 rfl rfl g_16 dX4_make_16 ?_
        refine lv_ior hx hb dX4_make_17 ?_
        refine lv_topi (fun v1_18 e_18 => ?_)
        have h := lt'_e e_18 h
        refine lv_istore_n (lv' := [(1, .int v1_18), (2, .int v2_L4), (0, .ref a0)]) hx hb dX4_make_18 rfl hl (by decide) rfl (fun ls hl => ?_)
        refine lv_aload_n hx hb dX4_make_19 rfl (lv_at hl 2 rfl) ?_
        refine va_get (ci := 4) (v := .ref a0_sets) (C := RX4) (T := TX4) (N := 4) hx hb hts iu_X4 hown hK.1 hP 0 rfl rfl 0 (by decide) (hts (.fieldLink RX4 9 "SheetMarks$Ticks" "sets" "[I") (List.mem_of_getElem? (i := 2) rfl)) (fun _ h9 => h9) rfl dX4_make_20 ?_
        refine lv_iload_n hx hb dX4_make_23 rfl (lv_at hl 1 rfl) ?_
        refine lv_dup2_11 hx hb dX4_make_24 rfl rfl ?_
        obtain ⟨g_25, h⟩ := gd_e h
        refine va_iald hx hb hK.1 hP 1 0 rfl rfl g_25 dX4_make_25 ?_
        refine lv_aload_n hx hb dX4_make_26 rfl (lv_at hl 2 rfl) ?_
        refine va_get (ci := 4) (v := .ref a0_coming) (C := RX4) (T := TX4) (N := 4) hx hb hts iu_X4 hown hK.1 hP 0 rfl rfl 1 (by decide) (hts (.fieldLink RX4 15 "SheetMarks$Ticks" "coming" "[I") (List.mem_of_getElem? (i := 1) rfl)) (fun _ h9 => h9) rfl dX4_make_27 ?_
        refine lv_iload_n hx hb dX4_make_30 rfl (lv_at hl 1 rfl) ?_
        obtain ⟨g_31, h⟩ := gd_e h
        refine va_iald hx hb hK.1 hP 2 0 rfl rfl g_31 dX4_make_31 ?_
        refine lv_ior hx hb dX4_make_32 ?_
        obtain ⟨g_33, h⟩ := gd_e h
        refine va_iast hx hb hK.1 hP hD hS 1 0 rfl rfl g_33 dX4_make_33 (fun H locs hP hD hS => ?_)
        obtain ⟨c_sets_33, e_33⟩ : ∃ y : Nat → Int32, y = (upd c_sets_L4 v2_L4.toNatClampNeg ((c_sets_L4 v2_L4.toNatClampNeg) ||| (c_coming_L4 v2_L4.toNatClampNeg))) := ⟨_, rfl⟩
        have h := lt'_e e_33 h
        have hP : va_P (dC, dI) vwCl (wX4 ck a0 a0_sets a0_coming a0_origins c_sets_33 c_coming_L4 c_origins c_round) H := by subst e_33; exact hP
        have hD : va_D A (wX4 ck a0 a0_sets a0_coming a0_origins c_sets_33 c_coming_L4 c_origins c_round) := by subst e_33; exact hD
        refine lv_aload_n hx hb dX4_make_34 rfl (lv_at hl 2 rfl) ?_
        refine va_get (ci := 4) (v := .ref a0_coming) (C := RX4) (T := TX4) (N := 4) hx hb hts iu_X4 hown hK.1 hP 0 rfl rfl 1 (by decide) (hts (.fieldLink RX4 15 "SheetMarks$Ticks" "coming" "[I") (List.mem_of_getElem? (i := 1) rfl)) (fun _ h9 => h9) rfl dX4_make_35 ?_
        refine lv_iload_n hx hb dX4_make_38 rfl (lv_at hl 1 rfl) ?_
        refine lv_iconst (v := (0 : Int32)) hx hb dX4_make_39 rfl ?_
        obtain ⟨g_40, h⟩ := gd_e h
        refine va_iast hx hb hK.1 hP hD hS 2 0 rfl rfl g_40 dX4_make_40 (fun H locs hP hD hS => ?_)
        obtain ⟨c_coming_40, e_40⟩ : ∃ y : Nat → Int32, y = (upd c_coming_L4 v2_L4.toNatClampNeg (0 : Int32)) := ⟨_, rfl⟩
        have h := lt'_e e_40 h
        have hP : va_P (dC, dI) vwCl (wX4 ck a0 a0_sets a0_coming a0_origins c_sets_33 c_coming_40 c_origins c_round) H := by subst e_40; exact hP
        have hD : va_D A (wX4 ck a0 a0_sets a0_coming a0_origins c_sets_33 c_coming_40 c_origins c_round) := by subst e_40; exact hD
        refine lv_iinc (v := (v2_L4 + (1 : Int32))) (lv' := [(2, .int (v2_L4 + (1 : Int32))), (1, .int v1_18), (0, .ref a0)]) hx hb dX4_make_41 hl (k := 1) rfl rfl (by decide) rfl (fun ls hl => ?_)
        refine lv_goto (tgt := 4) hx hb dX4_make_44 (by decide) ?_
        exact ih4 _ _ _ _ h _ _ hP hD hS _ (lv_sub hl [0, 1, 2] rfl)
  exact hL4 _ _ _ _ _ h _ _ hP hD hS _ (lv_sub hl [0, 1, 2] rfl)
noncomputable def f_X4_copy (c_sets : Nat → Int32) (c_round : Int32) (p1_sets : Nat → Int32) : Option ((Nat → Int32) × Int32) :=
  lt' (va_cpy p1_sets c_sets 0 0 6) (fun c_sets_15 : Nat → Int32 => some (c_sets_15, (1 : Int32)))
set_option maxHeartbeats 4000000 in
set_option maxRecDepth 100000 in
theorem c_X4_copy (l : Launch) (dC : Nat → ClassId) (dI : Nat → Nat → Nat) (ck : Nat → ClassId) (a0 a0_sets a0_coming a0_origins b1 b1_sets b1_coming b1_origins : Nat) (c_sets : Nat → Int32) (c_coming : Nat → Int32) (c_origins : Nat → Int32) (c_round : Int32) (p1_sets : Nat → Int32) (p1_coming : Nat → Int32) (p1_origins : Nat → Int32) (p1_round : Int32) (o0 : Nat → Int32) (o1 : Int32) (h : f_X4_copy c_sets c_round p1_sets = some (o0, o1)) : MV l yX4_copy wsX4_copy ({ frames := 1, cells := 0, slots := 0, locals := 26 }) [.ref a0, .ref b1] (dC, dI) ck (wX4 ck a0 a0_sets a0_coming a0_origins c_sets c_coming c_origins c_round ++ wX4 ck b1 b1_sets b1_coming b1_origins p1_sets p1_coming p1_origins p1_round) (wX4 ck a0 a0_sets a0_coming a0_origins o0 c_coming c_origins o1 ++ wX4 ck b1 b1_sets b1_coming b1_origins p1_sets p1_coming p1_origins p1_round) := by
  refine MV.ofW (cc := cX4_copy) (maxL := 2) (ret := none) (by decide +kernel) rfl (Nat.le_of_ble_eq_true rfl) ?_
  intro p e s m below meth c hx hb hr hml hts hown hlk hK hP A hA hD ls hl
  have hS : va_S A s.heap s.heap [] := va_S.rf
  have hown : s.vm.findClass RX4 = some m.cls := hown
  have hl : lv_has ls 2 [(0, .ref a0), (1, .ref b1)] := hl
  have iu_X4 : ∀ w ∈ u_ws RX4 TX4 4, w ∈ wsX4_copy := fun w h => List.mem_cons_of_mem _ (List.mem_append_right _ h)
  unfold f_X4_copy at h
  refine lv_aload_n hx hb dX4_copy_0 rfl (lv_at hl 1 rfl) ?_
  refine va_get (ci := 4) (v := .ref b1_sets) (C := RX4) (T := TX4) (N := 4) hx hb hts iu_X4 hown hK.1 hP 4 rfl rfl 0 (by decide) (hts (.fieldLink RX4 9 "SheetMarks$Ticks" "sets" "[I") (List.mem_of_getElem? (i := 1) rfl)) (fun _ h9 => h9) rfl dX4_copy_1 ?_
  refine lv_iconst (v := (0 : Int32)) hx hb dX4_copy_4 rfl ?_
  refine lv_aload_n hx hb dX4_copy_5 rfl (lv_at hl 0 rfl) ?_
  refine va_get (ci := 4) (v := .ref a0_sets) (C := RX4) (T := TX4) (N := 4) hx hb hts iu_X4 hown hK.1 hP 0 rfl rfl 0 (by decide) (hts (.fieldLink RX4 9 "SheetMarks$Ticks" "sets" "[I") (List.mem_of_getElem? (i := 1) rfl)) (fun _ h9 => h9) rfl dX4_copy_6 ?_
  refine lv_iconst (v := (0 : Int32)) hx hb dX4_copy_9 rfl ?_
  refine lv_aload_n hx hb dX4_copy_10 rfl (lv_at hl 0 rfl) ?_
  refine va_get (ci := 4) (v := .ref a0_sets) (C := RX4) (T := TX4) (N := 4) hx hb hts iu_X4 hown hK.1 hP 0 rfl rfl 0 (by decide) (hts (.fieldLink RX4 9 "SheetMarks$Ticks" "sets" "[I") (List.mem_of_getElem? (i := 1) rfl)) (fun _ h9 => h9) rfl dX4_copy_11 ?_
  refine va_alen (v := (6 : Int32)) hx hb hK.1 hP 1 0 rfl rfl rfl dX4_copy_14 ?_
  refine va_copyi hx hb (hml.trans hl.1.symm) hown (hts (.methodLink RX4 31 arraycopyName) (List.mem_of_getElem? (i := 2) rfl)) (hts (.native arraycopyName) (List.mem_of_getElem? (i := 3) rfl)) (hts (.static arraycopyName) (List.mem_of_getElem? (i := 4) rfl)) (hts (.initialized "java/lang/System") (List.mem_of_getElem? (i := 5) rfl)) hK.1 hP hD hS 5 1 0 0 rfl rfl rfl rfl rfl (by decide) (by decide) (by decide) (by decide) (by decide) (fun _ _ => rfl) (Nat.le_of_ble_eq_true rfl) (Nat.le_of_ble_eq_true rfl) dX4_copy_15 (fun H locs hP hD hS => ?_)
  obtain ⟨c_sets_15, e_15⟩ : ∃ y : Nat → Int32, y = (va_cpy p1_sets c_sets 0 0 6) := ⟨_, rfl⟩
  have h := lt'_e e_15 h
  have hP : va_P (dC, dI) vwCl (wX4 ck a0 a0_sets a0_coming a0_origins c_sets_15 c_coming c_origins c_round ++ wX4 ck b1 b1_sets b1_coming b1_origins p1_sets p1_coming p1_origins p1_round) H := by subst e_15; exact hP
  have hD : va_D A (wX4 ck a0 a0_sets a0_coming a0_origins c_sets_15 c_coming c_origins c_round ++ wX4 ck b1 b1_sets b1_coming b1_origins p1_sets p1_coming p1_origins p1_round) := by subst e_15; exact hD
  refine lv_aload_n hx hb dX4_copy_18 rfl (lv_at hl 0 rfl) ?_
  refine lv_iconst (v := (1 : Int32)) hx hb dX4_copy_19 rfl ?_
  refine va_put (ci := 4) (v := .int (1 : Int32)) (ty := .int) (C := RX4) (T := TX4) (N := 4) hx hb hts iu_X4 tyX4 tyX4_ok nmX4 hown hK.1 hP hD hS 0 rfl rfl 3 (by decide) (hts (.fieldLink RX4 21 "SheetMarks$Ticks" "round" "I") (List.mem_of_getElem? (i := 6) rfl)) (fun _ h9 => h9) rfl (by decide +kernel) rfl rfl (Nat.le_of_ble_eq_true rfl) dX4_copy_20 (fun H locs hP hD hS => ?_)
  have hP : va_P (dC, dI) vwCl (wX4 ck a0 a0_sets a0_coming a0_origins c_sets_15 c_coming c_origins (1 : Int32) ++ wX4 ck b1 b1_sets b1_coming b1_origins p1_sets p1_coming p1_origins p1_round) H := hP
  have hD : va_D A (wX4 ck a0 a0_sets a0_coming a0_origins c_sets_15 c_coming c_origins (1 : Int32) ++ wX4 ck b1 b1_sets b1_coming b1_origins p1_sets p1_coming p1_origins p1_round) := hD
  cases h
  exact eMv hx hb hr hlk hP hD hS dX4_copy_23
noncomputable def f_X4_total_L4 (c_sets : Nat → Int32) (rec4 : Int32 → Int32 → Option (Int32)) (v1_L4 : Int32) (v2_L4 : Int32) : Option (Int32) :=
  if (6 : Int32) ≤ v2_L4 then (some v1_L4) else (gd v2_L4 6 (ob1 (f_J6_bitCount_0f7a4 (c_sets v2_L4.toNatClampNeg)) (fun (r_17 : Int32) => lt' (v1_L4 + r_17) (fun v1_21 : Int32 => rec4 v1_21 (v2_L4 + (1 : Int32))))))
noncomputable def f_X4_total (c_sets : Nat → Int32) : Option (Int32) :=
  lo2 (f_X4_total_L4 c_sets) FU (0 : Int32) (0 : Int32)
set_option maxHeartbeats 4000000 in
set_option maxRecDepth 100000 in
theorem c_X4_total (l : Launch) (dC : Nat → ClassId) (dI : Nat → Nat → Nat) (ck : Nat → ClassId) (a0 a0_sets a0_coming a0_origins : Nat) (c_sets : Nat → Int32) (c_coming : Nat → Int32) (c_origins : Nat → Int32) (c_round : Int32) (o0 : Int32) (h : f_X4_total c_sets = some o0) : RD l yX4_total wsX4_total ({ frames := 1, cells := 0, slots := 0, locals := 20 }) [.ref a0] (dC, dI) ck (wX4 ck a0 a0_sets a0_coming a0_origins c_sets c_coming c_origins c_round) o0 := by
  refine RD.ofW (cc := cX4_total) (maxL := 3) (ret := (some .int)) (by decide +kernel) rfl (Nat.le_of_ble_eq_true rfl) ?_
  intro p e s m below meth c hx hb hr hml hts hown hlk hK hP ls hl
  have hown : s.vm.findClass RX4 = some m.cls := hown
  have hl : lv_has ls 3 [(0, .ref a0)] := hl
  have iu_X4 : ∀ w ∈ u_ws RX4 TX4 4, w ∈ wsX4_total := fun w h => List.mem_cons_of_mem _ (List.mem_append_right _ h)
  unfold f_X4_total at h
  refine lv_iconst (v := (0 : Int32)) hx hb dX4_total_0 rfl ?_
  refine lv_istore_n (lv' := [(1, .int (0 : Int32)), (0, .ref a0)]) hx hb dX4_total_1 rfl hl (by decide) rfl (fun ls hl => ?_)
  refine lv_iconst (v := (0 : Int32)) hx hb dX4_total_2 rfl ?_
  refine lv_istore_n (lv' := [(2, .int (0 : Int32)), (1, .int (0 : Int32)), (0, .ref a0)]) hx hb dX4_total_3 rfl hl (by decide) rfl (fun ls hl => ?_)
  have hL4 : ∀ (n4 : Nat) (v1_L4 : Int32) (v2_L4 : Int32), lo2 (f_X4_total_L4 c_sets) n4 v1_L4 v2_L4 = some o0 → ∀ ls : Array Slot, lv_has ls 3 [(2, .int v2_L4), (1, .int v1_L4), (0, .ref a0)] → W p l e (headSpec wsX4_total ({ frames := 1, cells := 0, slots := 0, locals := 20 })).room s m [.ref a0].toArray below meth c s.heap [] 0 0 (MQ below (QcRead o0) [.ref a0].toArray s 0 0 (fun _ => False)) (F0 m 4 ls []) := by
    intro n4
    induction n4 with
    | zero => intro v1_L4 v2_L4 h; exact lo2_z h
    | succ n4 ih4 =>
      intro v1_L4 v2_L4 h ls hl
      have h := lo2_s h
      unfold f_X4_total_L4 at h
      refine lv_iload_n hx hb dX4_total_4 rfl (lv_at hl 0 rfl) ?_
      refine lv_bipush (v := (6 : Int32)) hx hb dX4_total_5 rfl ?_
      refine lv_icmp_ge (tgt := 28) hx hb dX4_total_7 (by decide) (fun c_7 => ?_) (fun c_7 => ?_)
      · have h := if_t h c_7
        refine lv_iload_n hx hb dX4_total_28 rfl (lv_at hl 1 rfl) ?_
        cases h
        exact eRi hx hb hr hlk rfl dX4_total_29
      · have h := if_f h c_7
        refine lv_iload_n hx hb dX4_total_10 rfl (lv_at hl 1 rfl) ?_
        refine lv_aload_n hx hb dX4_total_11 rfl (lv_at hl 2 rfl) ?_
        refine va_get (ci := 4) (v := .ref a0_sets) (C := RX4) (T := TX4) (N := 4) hx hb hts iu_X4 hown hK.1 hP 0 rfl rfl 0 (by decide) (hts (.fieldLink RX4 9 "SheetMarks$Ticks" "sets" "[I") (List.mem_of_getElem? (i := 1) rfl)) (fun _ h9 => h9) rfl dX4_total_12 ?_
        refine lv_iload_n hx hb dX4_total_15 rfl (lv_at hl 0 rfl) ?_
        obtain ⟨g_16, h⟩ := gd_e h
        refine va_iald hx hb hK.1 hP 1 0 rfl rfl g_16 dX4_total_16 ?_
        obtain ⟨r_17, q_17, h⟩ := ob1_e h
        refine cRS (wc := []) ⟨hx, hb, hml, hown, hts⟩ hK hP [] rfl (c_J6_bitCount_0f7a4 l dC dI ck (c_sets v2_L4.toNatClampNeg) r_17 q_17) (va_cwS 1 hts gX4_total_J6_bitCount_0f7a4 rfl rfl rfl (by decide +kernel) ⟨Nat.le_of_ble_eq_true rfl, Nat.le_of_ble_eq_true rfl⟩) rfl hl.1 rfl (Nat.le_of_ble_eq_true rfl) dX4_total_17 ⟨Nat.zero_le _, Nat.zero_le _⟩ ?_
        refine lv_iadd hx hb dX4_total_20 ?_
        refine lv_topi (fun v1_21 e_21 => ?_)
        have h := lt'_e e_21 h
        refine lv_istore_n (lv' := [(1, .int v1_21), (2, .int v2_L4), (0, .ref a0)]) hx hb dX4_total_21 rfl hl (by decide) rfl (fun ls hl => ?_)
        refine lv_iinc (v := (v2_L4 + (1 : Int32))) (lv' := [(2, .int (v2_L4 + (1 : Int32))), (1, .int v1_21), (0, .ref a0)]) hx hb dX4_total_22 hl (k := 1) rfl rfl (by decide) rfl (fun ls hl => ?_)
        refine lv_goto (tgt := 4) hx hb dX4_total_25 (by decide) ?_
        exact ih4 _ _ h _ (lv_sub hl [0, 1, 2] rfl)
  exact hL4 _ _ _ h _ (lv_sub hl [0, 1, 2] rfl)
noncomputable def f_X3_append (c_text : Nat → Int32) (c_length : Int32) (v1 : Int32) : Option ((Nat → Int32) × Int32) :=
  if (80 : Int32) ≤ c_length then (some (c_text, c_length)) else (gd c_length 80 (lt' (upd c_text c_length.toNatClampNeg (vp_nar .byte (v1.toInt8.toInt32))) (fun c_text_22 : Nat → Int32 => lt' (c_length + (1 : Int32)) (fun c_length_30 : Int32 => some (c_text_22, c_length_30)))))
set_option maxHeartbeats 4000000 in
set_option maxRecDepth 100000 in
theorem c_X3_append (l : Launch) (dC : Nat → ClassId) (dI : Nat → Nat → Nat) (ck : Nat → ClassId) (a0 a0_text : Nat) (c_text : Nat → Int32) (c_length : Int32) (v1 : Int32) (o0 : Nat → Int32) (o1 : Int32) (h : f_X3_append c_text c_length v1 = some (o0, o1)) : MV l yX3_append wsX3_append ({ frames := 0, cells := 0, slots := 0, locals := 0 }) [.ref a0, .int v1] (dC, dI) ck (wX3 ck a0 a0_text c_text c_length) (wX3 ck a0 a0_text o0 o1) := by
  refine MV.ofW (cc := cX3_append) (maxL := 2) (ret := none) (by decide +kernel) rfl (Nat.le_of_ble_eq_true rfl) ?_
  intro p e s m below meth c hx hb hr hml hts hown hlk hK hP A hA hD ls hl
  have hS : va_S A s.heap s.heap [] := va_S.rf
  have hown : s.vm.findClass RX3 = some m.cls := hown
  have hl : lv_has ls 2 [(0, .ref a0), (1, .int v1)] := hl
  have iu_X3 : ∀ w ∈ u_ws RX3 TX3 2, w ∈ wsX3_append := fun w h => List.mem_cons_of_mem _ (List.mem_append_right _ h)
  unfold f_X3_append at h
  refine lv_aload_n hx hb dX3_append_0 rfl (lv_at hl 0 rfl) ?_
  refine va_get (ci := 3) (v := .int c_length) (C := RX3) (T := TX3) (N := 2) hx hb hts iu_X3 hown hK.1 hP 0 rfl rfl 1 (by decide) (hts (.fieldLink RX3 15 "SheetMarks$Pad" "length" "I") (List.mem_of_getElem? (i := 1) rfl)) (fun _ h9 => h9) rfl dX3_append_1 ?_
  refine lv_aload_n hx hb dX3_append_4 rfl (lv_at hl 0 rfl) ?_
  refine va_get (ci := 3) (v := .ref a0_text) (C := RX3) (T := TX3) (N := 2) hx hb hts iu_X3 hown hK.1 hP 0 rfl rfl 0 (by decide) (hts (.fieldLink RX3 9 "SheetMarks$Pad" "text" "[B") (List.mem_of_getElem? (i := 2) rfl)) (fun _ h9 => h9) rfl dX3_append_5 ?_
  refine va_alen (v := (80 : Int32)) hx hb hK.1 hP 1 1 rfl rfl rfl dX3_append_8 ?_
  refine lv_icmp_ge (tgt := 33) hx hb dX3_append_9 (by decide) (fun c_9 => ?_) (fun c_9 => ?_)
  · have h := if_t h c_9
    cases h
    exact eMv hx hb hr hlk hP hD hS dX3_append_33
  · have h := if_f h c_9
    refine lv_aload_n hx hb dX3_append_12 rfl (lv_at hl 0 rfl) ?_
    refine va_get (ci := 3) (v := .ref a0_text) (C := RX3) (T := TX3) (N := 2) hx hb hts iu_X3 hown hK.1 hP 0 rfl rfl 0 (by decide) (hts (.fieldLink RX3 9 "SheetMarks$Pad" "text" "[B") (List.mem_of_getElem? (i := 2) rfl)) (fun _ h9 => h9) rfl dX3_append_13 ?_
    refine lv_aload_n hx hb dX3_append_16 rfl (lv_at hl 0 rfl) ?_
    refine va_get (ci := 3) (v := .int c_length) (C := RX3) (T := TX3) (N := 2) hx hb hts iu_X3 hown hK.1 hP 0 rfl rfl 1 (by decide) (hts (.fieldLink RX3 15 "SheetMarks$Pad" "length" "I") (List.mem_of_getElem? (i := 1) rfl)) (fun _ h9 => h9) rfl dX3_append_17 ?_
    refine lv_iload_n hx hb dX3_append_20 rfl (lv_at hl 1 rfl) ?_
    refine lv_i2b (v := (v1.toInt8.toInt32)) hx hb dX3_append_21 rfl ?_
    obtain ⟨g_22, h⟩ := gd_e h
    refine va_bast hx hb hK.1 hP hD hS 1 1 rfl rfl g_22 dX3_append_22 (fun H locs hP hD hS => ?_)
    obtain ⟨c_text_22, e_22⟩ : ∃ y : Nat → Int32, y = (upd c_text c_length.toNatClampNeg (vp_nar .byte (v1.toInt8.toInt32))) := ⟨_, rfl⟩
    have h := lt'_e e_22 h
    have hP : va_P (dC, dI) vwCl (wX3 ck a0 a0_text c_text_22 c_length) H := by subst e_22; exact hP
    have hD : va_D A (wX3 ck a0 a0_text c_text_22 c_length) := by subst e_22; exact hD
    refine lv_aload_n hx hb dX3_append_23 rfl (lv_at hl 0 rfl) ?_
    refine lv_dup hx hb dX3_append_24 rfl ?_
    refine va_get (ci := 3) (v := .int c_length) (C := RX3) (T := TX3) (N := 2) hx hb hts iu_X3 hown hK.1 hP 0 rfl rfl 1 (by decide) (hts (.fieldLink RX3 15 "SheetMarks$Pad" "length" "I") (List.mem_of_getElem? (i := 1) rfl)) (fun _ h9 => h9) rfl dX3_append_25 ?_
    refine lv_iconst (v := (1 : Int32)) hx hb dX3_append_28 rfl ?_
    refine lv_iadd hx hb dX3_append_29 ?_
    refine lv_topi (fun c_length_30 e_30 => ?_)
    have h := lt'_e e_30 h
    refine va_put (ci := 3) (v := .int c_length_30) (ty := .int) (C := RX3) (T := TX3) (N := 2) hx hb hts iu_X3 tyX3 tyX3_ok nmX3 hown hK.1 hP hD hS 0 rfl rfl 1 (by decide) (hts (.fieldLink RX3 15 "SheetMarks$Pad" "length" "I") (List.mem_of_getElem? (i := 1) rfl)) (fun _ h9 => h9) rfl (by decide +kernel) rfl rfl (Nat.le_of_ble_eq_true rfl) dX3_append_30 (fun H locs hP hD hS => ?_)
    have hP : va_P (dC, dI) vwCl (wX3 ck a0 a0_text c_text_22 c_length_30) H := hP
    have hD : va_D A (wX3 ck a0 a0_text c_text_22 c_length_30) := hD
    cases h
    exact eMv hx hb hr hlk hP hD hS dX3_append_33
noncomputable def f_X3_at (c_text : Nat → Int32) (c_length : Int32) (v1 : Int32) : Option (Int32) :=
  if v1 < (0 : Int32) then (some (59 : Int32)) else (if c_length ≤ v1 then (some (59 : Int32)) else (if (80 : Int32) ≤ v1 then (some (59 : Int32)) else (gd v1 80 (some (c_text v1.toNatClampNeg)))))
set_option maxHeartbeats 4000000 in
set_option maxRecDepth 100000 in
theorem c_X3_at (l : Launch) (dC : Nat → ClassId) (dI : Nat → Nat → Nat) (ck : Nat → ClassId) (a0 a0_text : Nat) (c_text : Nat → Int32) (c_length : Int32) (v1 : Int32) (o0 : Int32) (h : f_X3_at c_text c_length v1 = some o0) : RD l yX3_at wsX3_at ({ frames := 0, cells := 0, slots := 0, locals := 0 }) [.ref a0, .int v1] (dC, dI) ck (wX3 ck a0 a0_text c_text c_length) o0 := by
  refine RD.ofW (cc := cX3_at) (maxL := 2) (ret := (some .int)) (by decide +kernel) rfl (Nat.le_of_ble_eq_true rfl) ?_
  intro p e s m below meth c hx hb hr hml hts hown hlk hK hP ls hl
  have hown : s.vm.findClass RX3 = some m.cls := hown
  have hl : lv_has ls 2 [(0, .ref a0), (1, .int v1)] := hl
  have iu_X3 : ∀ w ∈ u_ws RX3 TX3 2, w ∈ wsX3_at := fun w h => List.mem_cons_of_mem _ (List.mem_append_right _ h)
  unfold f_X3_at at h
  refine lv_iload_n hx hb dX3_at_0 rfl (lv_at hl 1 rfl) ?_
  refine lv_if_lt (tgt := 30) hx hb dX3_at_1 (by decide) (fun c_1 => ?_) (fun c_1 => ?_)
  · have h := if_t h c_1
    refine lv_bipush (v := (59 : Int32)) hx hb dX3_at_30 rfl ?_
    cases h
    exact eRi hx hb hr hlk rfl dX3_at_32
  · have h := if_f h c_1
    refine lv_iload_n hx hb dX3_at_4 rfl (lv_at hl 1 rfl) ?_
    refine lv_aload_n hx hb dX3_at_5 rfl (lv_at hl 0 rfl) ?_
    refine va_get (ci := 3) (v := .int c_length) (C := RX3) (T := TX3) (N := 2) hx hb hts iu_X3 hown hK.1 hP 0 rfl rfl 1 (by decide) (hts (.fieldLink RX3 15 "SheetMarks$Pad" "length" "I") (List.mem_of_getElem? (i := 1) rfl)) (fun _ h9 => h9) rfl dX3_at_6 ?_
    refine lv_icmp_ge (tgt := 30) hx hb dX3_at_9 (by decide) (fun c_9 => ?_) (fun c_9 => ?_)
    · have h := if_t h c_9
      refine lv_bipush (v := (59 : Int32)) hx hb dX3_at_30 rfl ?_
      cases h
      exact eRi hx hb hr hlk rfl dX3_at_32
    · have h := if_f h c_9
      refine lv_iload_n hx hb dX3_at_12 rfl (lv_at hl 1 rfl) ?_
      refine lv_aload_n hx hb dX3_at_13 rfl (lv_at hl 0 rfl) ?_
      refine va_get (ci := 3) (v := .ref a0_text) (C := RX3) (T := TX3) (N := 2) hx hb hts iu_X3 hown hK.1 hP 0 rfl rfl 0 (by decide) (hts (.fieldLink RX3 9 "SheetMarks$Pad" "text" "[B") (List.mem_of_getElem? (i := 2) rfl)) (fun _ h9 => h9) rfl dX3_at_14 ?_
      refine va_alen (v := (80 : Int32)) hx hb hK.1 hP 1 1 rfl rfl rfl dX3_at_17 ?_
      refine lv_icmp_ge (tgt := 30) hx hb dX3_at_18 (by decide) (fun c_18 => ?_) (fun c_18 => ?_)
      · have h := if_t h c_18
        refine lv_bipush (v := (59 : Int32)) hx hb dX3_at_30 rfl ?_
        cases h
        exact eRi hx hb hr hlk rfl dX3_at_32
      · have h := if_f h c_18
        refine lv_aload_n hx hb dX3_at_21 rfl (lv_at hl 0 rfl) ?_
        refine va_get (ci := 3) (v := .ref a0_text) (C := RX3) (T := TX3) (N := 2) hx hb hts iu_X3 hown hK.1 hP 0 rfl rfl 0 (by decide) (hts (.fieldLink RX3 9 "SheetMarks$Pad" "text" "[B") (List.mem_of_getElem? (i := 2) rfl)) (fun _ h9 => h9) rfl dX3_at_22 ?_
        refine lv_iload_n hx hb dX3_at_25 rfl (lv_at hl 1 rfl) ?_
        obtain ⟨g_26, h⟩ := gd_e h
        refine va_bald hx hb hK.1 hP 1 1 rfl rfl g_26 dX3_at_26 ?_
        refine lv_goto (tgt := 32) hx hb dX3_at_27 (by decide) ?_
        cases h
        exact eRi hx hb hr hlk rfl dX3_at_32
noncomputable def f_X3_afterFirst (v0 : Int32) : Option (Int32) :=
  if v0 = (45 : Int32) then (some (7 : Int32)) else (if v0 = (104 : Int32) then (some (1 : Int32)) else (if v0 = (114 : Int32) then (some (2 : Int32)) else (if v0 = (115 : Int32) then (some (2 : Int32)) else (if v0 = (119 : Int32) then (some (4 : Int32)) else (some (10 : Int32))))))
set_option maxHeartbeats 4000000 in
set_option maxRecDepth 100000 in
theorem c_X3_afterFirst (l : Launch) (dC : Nat → ClassId) (dI : Nat → Nat → Nat) (ck : Nat → ClassId) (v0 : Int32) (o0 : Int32) (h : f_X3_afterFirst v0 = some o0) : RD l yX3_afterFirst wsX3_afterFirst ({ frames := 0, cells := 0, slots := 0, locals := 0 }) [.int v0] (dC, dI) ck ([]) o0 := by
  refine RD.ofW (cc := cX3_afterFirst) (maxL := 1) (ret := (some .int)) (by decide +kernel) rfl (Nat.le_of_ble_eq_true rfl) ?_
  intro p e s m below meth c hx hb hr hml hts hown hlk hK hP ls hl
  have hown : s.vm.findClass RX3 = some m.cls := hown
  have hl : lv_has ls 1 [(0, .int v0)] := hl
  unfold f_X3_afterFirst at h
  refine lv_iload_n hx hb dX3_afterFirst_0 rfl (lv_at hl 0 rfl) ?_
  rcases Decidable.em (v0 = (45 : Int32)) with c_1_45 | c_1_45
  · have h := if_t h c_1_45
    refine lv_lookup (tgt := 60) (off := 59) hx hb dX3_afterFirst_1 (by decide) (by rw [c_1_45]; decide) (by decide) ?_
    refine lv_bipush (v := (7 : Int32)) hx hb dX3_afterFirst_60 rfl ?_
    cases h
    exact eRi hx hb hr hlk rfl dX3_afterFirst_62
  have h := if_f h c_1_45
  rcases Decidable.em (v0 = (104 : Int32)) with c_1_104 | c_1_104
  · have h := if_t h c_1_104
    refine lv_lookup (tgt := 52) (off := 51) hx hb dX3_afterFirst_1 (by decide) (by rw [c_1_104]; decide) (by decide) ?_
    refine lv_iconst (v := (1 : Int32)) hx hb dX3_afterFirst_52 rfl ?_
    cases h
    exact eRi hx hb hr hlk rfl dX3_afterFirst_53
  have h := if_f h c_1_104
  rcases Decidable.em (v0 = (114 : Int32)) with c_1_114 | c_1_114
  · have h := if_t h c_1_114
    refine lv_lookup (tgt := 54) (off := 53) hx hb dX3_afterFirst_1 (by decide) (by rw [c_1_114]; decide) (by decide) ?_
    refine lv_iconst (v := (2 : Int32)) hx hb dX3_afterFirst_54 rfl ?_
    cases h
    exact eRi hx hb hr hlk rfl dX3_afterFirst_55
  have h := if_f h c_1_114
  rcases Decidable.em (v0 = (115 : Int32)) with c_1_115 | c_1_115
  · have h := if_t h c_1_115
    refine lv_lookup (tgt := 56) (off := 55) hx hb dX3_afterFirst_1 (by decide) (by rw [c_1_115]; decide) (by decide) ?_
    refine lv_iconst (v := (2 : Int32)) hx hb dX3_afterFirst_56 rfl ?_
    cases h
    exact eRi hx hb hr hlk rfl dX3_afterFirst_57
  have h := if_f h c_1_115
  rcases Decidable.em (v0 = (119 : Int32)) with c_1_119 | c_1_119
  · have h := if_t h c_1_119
    refine lv_lookup (tgt := 58) (off := 57) hx hb dX3_afterFirst_1 (by decide) (by rw [c_1_119]; decide) (by decide) ?_
    refine lv_iconst (v := (4 : Int32)) hx hb dX3_afterFirst_58 rfl ?_
    cases h
    exact eRi hx hb hr hlk rfl dX3_afterFirst_59
  have h := if_f h c_1_119
  refine lv_lookup (tgt := 63) (off := 62) hx hb dX3_afterFirst_1 (by decide) (by show Op.lookupswitch.offset [(45, 59), (104, 51), (114, 53), (115, 55), (119, 57)] _ _ = _; rw [lv_osw (a := 45) c_1_45 rfl, lv_osw (a := 104) c_1_104 rfl, lv_osw (a := 114) c_1_114 rfl, lv_osw (a := 115) c_1_115 rfl, lv_osw (a := 119) c_1_119 rfl]; rfl) (by decide) ?_
  refine lv_bipush (v := (10 : Int32)) hx hb dX3_afterFirst_63 rfl ?_
  cases h
  exact eRi hx hb hr hlk rfl dX3_afterFirst_65
noncomputable def f_X3_isFrom (v0 : Int32) (v1 : Int32) (v2 : Int32) : Option (Int32) :=
  if v2 < v0 then (some (0 : Int32)) else (if v1 < v2 then (some (0 : Int32)) else (some (1 : Int32)))
set_option maxHeartbeats 4000000 in
set_option maxRecDepth 100000 in
theorem c_X3_isFrom (l : Launch) (dC : Nat → ClassId) (dI : Nat → Nat → Nat) (ck : Nat → ClassId) (v0 : Int32) (v1 : Int32) (v2 : Int32) (o0 : Int32) (h : f_X3_isFrom v0 v1 v2 = some o0) : RD l yX3_isFrom wsX3_isFrom ({ frames := 0, cells := 0, slots := 0, locals := 0 }) [.int v0, .int v1, .int v2] (dC, dI) ck ([]) o0 := by
  refine RD.ofW (cc := cX3_isFrom) (maxL := 3) (ret := (some .boolean)) (by decide +kernel) rfl (Nat.le_of_ble_eq_true rfl) ?_
  intro p e s m below meth c hx hb hr hml hts hown hlk hK hP ls hl
  have hown : s.vm.findClass RX3 = some m.cls := hown
  have hl : lv_has ls 3 [(0, .int v0), (1, .int v1), (2, .int v2)] := hl
  unfold f_X3_isFrom at h
  refine lv_iload_n hx hb dX3_isFrom_0 rfl (lv_at hl 2 rfl) ?_
  refine lv_iload_n hx hb dX3_isFrom_1 rfl (lv_at hl 0 rfl) ?_
  refine lv_icmp_lt (tgt := 14) hx hb dX3_isFrom_2 (by decide) (fun c_2 => ?_) (fun c_2 => ?_)
  · have h := if_t h c_2
    refine lv_iconst (v := (0 : Int32)) hx hb dX3_isFrom_14 rfl ?_
    cases h
    exact eRz hx hb hr hlk rfl rfl dX3_isFrom_15
  · have h := if_f h c_2
    refine lv_iload_n hx hb dX3_isFrom_5 rfl (lv_at hl 2 rfl) ?_
    refine lv_iload_n hx hb dX3_isFrom_6 rfl (lv_at hl 1 rfl) ?_
    refine lv_icmp_gt (tgt := 14) hx hb dX3_isFrom_7 (by decide) (fun c_7 => ?_) (fun c_7 => ?_)
    · have h := if_t h c_7
      refine lv_iconst (v := (0 : Int32)) hx hb dX3_isFrom_14 rfl ?_
      cases h
      exact eRz hx hb hr hlk rfl rfl dX3_isFrom_15
    · have h := if_f h c_7
      refine lv_iconst (v := (1 : Int32)) hx hb dX3_isFrom_10 rfl ?_
      refine lv_goto (tgt := 15) hx hb dX3_isFrom_11 (by decide) ?_
      cases h
      exact eRz hx hb hr hlk rfl rfl dX3_isFrom_15
noncomputable def f_X3_afterOrder (v0 : Int32) : Option (Int32) :=
  if v0 = (59 : Int32) then (some (0 : Int32)) else (some (10 : Int32))
set_option maxHeartbeats 4000000 in
set_option maxRecDepth 100000 in
theorem c_X3_afterOrder (l : Launch) (dC : Nat → ClassId) (dI : Nat → Nat → Nat) (ck : Nat → ClassId) (v0 : Int32) (o0 : Int32) (h : f_X3_afterOrder v0 = some o0) : RD l yX3_afterOrder wsX3_afterOrder ({ frames := 0, cells := 0, slots := 0, locals := 0 }) [.int v0] (dC, dI) ck ([]) o0 := by
  refine RD.ofW (cc := cX3_afterOrder) (maxL := 1) (ret := (some .int)) (by decide +kernel) rfl (Nat.le_of_ble_eq_true rfl) ?_
  intro p e s m below meth c hx hb hr hml hts hown hlk hK hP ls hl
  have hown : s.vm.findClass RX3 = some m.cls := hown
  have hl : lv_has ls 1 [(0, .int v0)] := hl
  unfold f_X3_afterOrder at h
  refine lv_iload_n hx hb dX3_afterOrder_0 rfl (lv_at hl 0 rfl) ?_
  refine lv_bipush (v := (59 : Int32)) hx hb dX3_afterOrder_1 rfl ?_
  refine lv_icmp_ne (tgt := 10) hx hb dX3_afterOrder_3 (by decide) (fun c_3 => ?_) (fun c_3 => ?_)
  · have h := if_f h c_3
    refine lv_bipush (v := (10 : Int32)) hx hb dX3_afterOrder_10 rfl ?_
    cases h
    exact eRi hx hb hr hlk rfl dX3_afterOrder_12
  · have h := if_t h c_3
    refine lv_iconst (v := (0 : Int32)) hx hb dX3_afterOrder_6 rfl ?_
    refine lv_goto (tgt := 12) hx hb dX3_afterOrder_7 (by decide) ?_
    cases h
    exact eRi hx hb hr hlk rfl dX3_afterOrder_12
noncomputable def f_X3_after (v0 : Int32) (v1 : Int32) : Option (Int32) :=
  if v0 = (0 : Int32) then (ob1 (f_X3_afterFirst v1) (fun (r_57 : Int32) => some r_57)) else (if v0 = (1 : Int32) then (ob1 (f_X3_isFrom (48 : Int32) (52 : Int32) v1) (fun (r_66 : Int32) => if r_66 = (0 : Int32) then (some (10 : Int32)) else (some (3 : Int32)))) else (if v0 = (2 : Int32) then (ob1 (f_X3_isFrom (48 : Int32) (52 : Int32) v1) (fun (r_84 : Int32) => if r_84 = (0 : Int32) then (some (10 : Int32)) else (some (4 : Int32)))) else (if v0 = (3 : Int32) then (ob1 (f_X3_isFrom (97 : Int32) (99 : Int32) v1) (fun (r_102 : Int32) => if r_102 = (0 : Int32) then (some (10 : Int32)) else (some (6 : Int32)))) else (if v0 = (4 : Int32) then (ob1 (f_X3_isFrom (48 : Int32) (53 : Int32) v1) (fun (r_121 : Int32) => if r_121 = (0 : Int32) then (some (10 : Int32)) else (some (5 : Int32)))) else (if v0 = (5 : Int32) then (ob1 (f_X3_isFrom (48 : Int32) (53 : Int32) v1) (fun (r_139 : Int32) => if r_139 = (0 : Int32) then (some (10 : Int32)) else (some (6 : Int32)))) else (if v0 = (6 : Int32) then (ob1 (f_X3_isFrom (48 : Int32) (53 : Int32) v1) (fun (r_158 : Int32) => if r_158 = (0 : Int32) then (some (10 : Int32)) else (some (9 : Int32)))) else (if v0 = (7 : Int32) then (if v1 = (48 : Int32) then (some (9 : Int32)) else (ob1 (f_X3_isFrom (49 : Int32) (57 : Int32) v1) (fun (r_188 : Int32) => if r_188 = (0 : Int32) then (some (10 : Int32)) else (some (8 : Int32))))) else (if v0 = (8 : Int32) then (ob1 (f_X3_isFrom (48 : Int32) (57 : Int32) v1) (fun (r_207 : Int32) => if r_207 = (0 : Int32) then (ob1 (f_X3_afterOrder v1) (fun (r_219 : Int32) => some r_219)) else (some (9 : Int32)))) else (if v0 = (9 : Int32) then (ob1 (f_X3_afterOrder v1) (fun (r_224 : Int32) => some r_224)) else (some (10 : Int32)))))))))))
set_option maxHeartbeats 4000000 in
set_option maxRecDepth 100000 in
theorem c_X3_after (l : Launch) (dC : Nat → ClassId) (dI : Nat → Nat → Nat) (ck : Nat → ClassId) (v0 : Int32) (v1 : Int32) (o0 : Int32) (h : f_X3_after v0 v1 = some o0) : RD l yX3_after wsX3_after ({ frames := 1, cells := 0, slots := 0, locals := 22 }) [.int v0, .int v1] (dC, dI) ck ([]) o0 := by
  refine RD.ofW (cc := cX3_after) (maxL := 2) (ret := (some .int)) (by decide +kernel) rfl (Nat.le_of_ble_eq_true rfl) ?_
  intro p e s m below meth c hx hb hr hml hts hown hlk hK hP ls hl
  have hown : s.vm.findClass RX3 = some m.cls := hown
  have hl : lv_has ls 2 [(0, .int v0), (1, .int v1)] := hl
  unfold f_X3_after at h
  refine lv_iload_n hx hb dX3_after_0 rfl (lv_at hl 0 rfl) ?_
  rcases Decidable.em (v0 = (0 : Int32)) with c_1_0 | c_1_0
  · have h := if_t h c_1_0
    refine lv_tableIn (tgt := 56) hx hb dX3_after_1 (by rw [c_1_0]; decide) (by rw [c_1_0]; decide) (by rw [c_1_0]; rfl) (by decide) ?_
    refine lv_iload_n hx hb dX3_after_56 rfl (lv_at hl 1 rfl) ?_
    obtain ⟨r_57, q_57, h⟩ := ob1_e h
    refine cRS (wc := []) ⟨hx, hb, hml, hown, hts⟩ hK hP [] rfl (c_X3_afterFirst l dC dI ck v1 r_57 q_57) (va_cwS 1 hts gX3_after_X3_afterFirst rfl rfl rfl (by decide +kernel) ⟨Nat.le_of_ble_eq_true rfl, Nat.le_of_ble_eq_true rfl⟩) rfl hl.1 rfl (Nat.le_of_ble_eq_true rfl) dX3_after_57 ⟨Nat.zero_le _, Nat.zero_le _⟩ ?_
    cases h
    exact eRi hx hb hr hlk rfl dX3_after_60
  have h := if_f h c_1_0
  rcases Decidable.em (v0 = (1 : Int32)) with c_1_1 | c_1_1
  · have h := if_t h c_1_1
    refine lv_tableIn (tgt := 61) hx hb dX3_after_1 (by rw [c_1_1]; decide) (by rw [c_1_1]; decide) (by rw [c_1_1]; rfl) (by decide) ?_
    refine lv_bipush (v := (48 : Int32)) hx hb dX3_after_61 rfl ?_
    refine lv_bipush (v := (52 : Int32)) hx hb dX3_after_63 rfl ?_
    refine lv_iload_n hx hb dX3_after_65 rfl (lv_at hl 1 rfl) ?_
    obtain ⟨r_66, q_66, h⟩ := ob1_e h
    refine cRS (wc := []) ⟨hx, hb, hml, hown, hts⟩ hK hP [] rfl (c_X3_isFrom l dC dI ck (48 : Int32) (52 : Int32) v1 r_66 q_66) (va_cwS 3 hts gX3_after_X3_isFrom rfl rfl rfl (by decide +kernel) ⟨Nat.le_of_ble_eq_true rfl, Nat.le_of_ble_eq_true rfl⟩) rfl hl.1 rfl (Nat.le_of_ble_eq_true rfl) dX3_after_66 ⟨Nat.zero_le _, Nat.zero_le _⟩ ?_
    refine lv_if_eq (tgt := 76) hx hb dX3_after_69 (by decide) (fun c_69 => ?_) (fun c_69 => ?_)
    · have h := if_t h c_69
      refine lv_bipush (v := (10 : Int32)) hx hb dX3_after_76 rfl ?_
      cases h
      exact eRi hx hb hr hlk rfl dX3_after_78
    · have h := if_f h c_69
      refine lv_iconst (v := (3 : Int32)) hx hb dX3_after_72 rfl ?_
      refine lv_goto (tgt := 78) hx hb dX3_after_73 (by decide) ?_
      cases h
      exact eRi hx hb hr hlk rfl dX3_after_78
  have h := if_f h c_1_1
  rcases Decidable.em (v0 = (2 : Int32)) with c_1_2 | c_1_2
  · have h := if_t h c_1_2
    refine lv_tableIn (tgt := 79) hx hb dX3_after_1 (by rw [c_1_2]; decide) (by rw [c_1_2]; decide) (by rw [c_1_2]; rfl) (by decide) ?_
    refine lv_bipush (v := (48 : Int32)) hx hb dX3_after_79 rfl ?_
    refine lv_bipush (v := (52 : Int32)) hx hb dX3_after_81 rfl ?_
    refine lv_iload_n hx hb dX3_after_83 rfl (lv_at hl 1 rfl) ?_
    obtain ⟨r_84, q_84, h⟩ := ob1_e h
    refine cRS (wc := []) ⟨hx, hb, hml, hown, hts⟩ hK hP [] rfl (c_X3_isFrom l dC dI ck (48 : Int32) (52 : Int32) v1 r_84 q_84) (va_cwS 3 hts gX3_after_X3_isFrom rfl rfl rfl (by decide +kernel) ⟨Nat.le_of_ble_eq_true rfl, Nat.le_of_ble_eq_true rfl⟩) rfl hl.1 rfl (Nat.le_of_ble_eq_true rfl) dX3_after_84 ⟨Nat.zero_le _, Nat.zero_le _⟩ ?_
    refine lv_if_eq (tgt := 94) hx hb dX3_after_87 (by decide) (fun c_87 => ?_) (fun c_87 => ?_)
    · have h := if_t h c_87
      refine lv_bipush (v := (10 : Int32)) hx hb dX3_after_94 rfl ?_
      cases h
      exact eRi hx hb hr hlk rfl dX3_after_96
    · have h := if_f h c_87
      refine lv_iconst (v := (4 : Int32)) hx hb dX3_after_90 rfl ?_
      refine lv_goto (tgt := 96) hx hb dX3_after_91 (by decide) ?_
      cases h
      exact eRi hx hb hr hlk rfl dX3_after_96
  have h := if_f h c_1_2
  rcases Decidable.em (v0 = (3 : Int32)) with c_1_3 | c_1_3
  · have h := if_t h c_1_3
    refine lv_tableIn (tgt := 97) hx hb dX3_after_1 (by rw [c_1_3]; decide) (by rw [c_1_3]; decide) (by rw [c_1_3]; rfl) (by decide) ?_
    refine lv_bipush (v := (97 : Int32)) hx hb dX3_after_97 rfl ?_
    refine lv_bipush (v := (99 : Int32)) hx hb dX3_after_99 rfl ?_
    refine lv_iload_n hx hb dX3_after_101 rfl (lv_at hl 1 rfl) ?_
    obtain ⟨r_102, q_102, h⟩ := ob1_e h
    refine cRS (wc := []) ⟨hx, hb, hml, hown, hts⟩ hK hP [] rfl (c_X3_isFrom l dC dI ck (97 : Int32) (99 : Int32) v1 r_102 q_102) (va_cwS 3 hts gX3_after_X3_isFrom rfl rfl rfl (by decide +kernel) ⟨Nat.le_of_ble_eq_true rfl, Nat.le_of_ble_eq_true rfl⟩) rfl hl.1 rfl (Nat.le_of_ble_eq_true rfl) dX3_after_102 ⟨Nat.zero_le _, Nat.zero_le _⟩ ?_
    refine lv_if_eq (tgt := 113) hx hb dX3_after_105 (by decide) (fun c_105 => ?_) (fun c_105 => ?_)
    · have h := if_t h c_105
      refine lv_bipush (v := (10 : Int32)) hx hb dX3_after_113 rfl ?_
      cases h
      exact eRi hx hb hr hlk rfl dX3_after_115
    · have h := if_f h c_105
      refine lv_bipush (v := (6 : Int32)) hx hb dX3_after_108 rfl ?_
      refine lv_goto (tgt := 115) hx hb dX3_after_110 (by decide) ?_
      cases h
      exact eRi hx hb hr hlk rfl dX3_after_115
  have h := if_f h c_1_3
  rcases Decidable.em (v0 = (4 : Int32)) with c_1_4 | c_1_4
  · have h := if_t h c_1_4
    refine lv_tableIn (tgt := 116) hx hb dX3_after_1 (by rw [c_1_4]; decide) (by rw [c_1_4]; decide) (by rw [c_1_4]; rfl) (by decide) ?_
    refine lv_bipush (v := (48 : Int32)) hx hb dX3_after_116 rfl ?_
    refine lv_bipush (v := (53 : Int32)) hx hb dX3_after_118 rfl ?_
    refine lv_iload_n hx hb dX3_after_120 rfl (lv_at hl 1 rfl) ?_
    obtain ⟨r_121, q_121, h⟩ := ob1_e h
    refine cRS (wc := []) ⟨hx, hb, hml, hown, hts⟩ hK hP [] rfl (c_X3_isFrom l dC dI ck (48 : Int32) (53 : Int32) v1 r_121 q_121) (va_cwS 3 hts gX3_after_X3_isFrom rfl rfl rfl (by decide +kernel) ⟨Nat.le_of_ble_eq_true rfl, Nat.le_of_ble_eq_true rfl⟩) rfl hl.1 rfl (Nat.le_of_ble_eq_true rfl) dX3_after_121 ⟨Nat.zero_le _, Nat.zero_le _⟩ ?_
    refine lv_if_eq (tgt := 131) hx hb dX3_after_124 (by decide) (fun c_124 => ?_) (fun c_124 => ?_)
    · have h := if_t h c_124
      refine lv_bipush (v := (10 : Int32)) hx hb dX3_after_131 rfl ?_
      cases h
      exact eRi hx hb hr hlk rfl dX3_after_133
    · have h := if_f h c_124
      refine lv_iconst (v := (5 : Int32)) hx hb dX3_after_127 rfl ?_
      refine lv_goto (tgt := 133) hx hb dX3_after_128 (by decide) ?_
      cases h
      exact eRi hx hb hr hlk rfl dX3_after_133
  have h := if_f h c_1_4
  rcases Decidable.em (v0 = (5 : Int32)) with c_1_5 | c_1_5
  · have h := if_t h c_1_5
    refine lv_tableIn (tgt := 134) hx hb dX3_after_1 (by rw [c_1_5]; decide) (by rw [c_1_5]; decide) (by rw [c_1_5]; rfl) (by decide) ?_
    refine lv_bipush (v := (48 : Int32)) hx hb dX3_after_134 rfl ?_
    refine lv_bipush (v := (53 : Int32)) hx hb dX3_after_136 rfl ?_
    refine lv_iload_n hx hb dX3_after_138 rfl (lv_at hl 1 rfl) ?_
    obtain ⟨r_139, q_139, h⟩ := ob1_e h
    refine cRS (wc := []) ⟨hx, hb, hml, hown, hts⟩ hK hP [] rfl (c_X3_isFrom l dC dI ck (48 : Int32) (53 : Int32) v1 r_139 q_139) (va_cwS 3 hts gX3_after_X3_isFrom rfl rfl rfl (by decide +kernel) ⟨Nat.le_of_ble_eq_true rfl, Nat.le_of_ble_eq_true rfl⟩) rfl hl.1 rfl (Nat.le_of_ble_eq_true rfl) dX3_after_139 ⟨Nat.zero_le _, Nat.zero_le _⟩ ?_
    refine lv_if_eq (tgt := 150) hx hb dX3_after_142 (by decide) (fun c_142 => ?_) (fun c_142 => ?_)
    · have h := if_t h c_142
      refine lv_bipush (v := (10 : Int32)) hx hb dX3_after_150 rfl ?_
      cases h
      exact eRi hx hb hr hlk rfl dX3_after_152
    · have h := if_f h c_142
      refine lv_bipush (v := (6 : Int32)) hx hb dX3_after_145 rfl ?_
      refine lv_goto (tgt := 152) hx hb dX3_after_147 (by decide) ?_
      cases h
      exact eRi hx hb hr hlk rfl dX3_after_152
  have h := if_f h c_1_5
  rcases Decidable.em (v0 = (6 : Int32)) with c_1_6 | c_1_6
  · have h := if_t h c_1_6
    refine lv_tableIn (tgt := 153) hx hb dX3_after_1 (by rw [c_1_6]; decide) (by rw [c_1_6]; decide) (by rw [c_1_6]; rfl) (by decide) ?_
    refine lv_bipush (v := (48 : Int32)) hx hb dX3_after_153 rfl ?_
    refine lv_bipush (v := (53 : Int32)) hx hb dX3_after_155 rfl ?_
    refine lv_iload_n hx hb dX3_after_157 rfl (lv_at hl 1 rfl) ?_
    obtain ⟨r_158, q_158, h⟩ := ob1_e h
    refine cRS (wc := []) ⟨hx, hb, hml, hown, hts⟩ hK hP [] rfl (c_X3_isFrom l dC dI ck (48 : Int32) (53 : Int32) v1 r_158 q_158) (va_cwS 3 hts gX3_after_X3_isFrom rfl rfl rfl (by decide +kernel) ⟨Nat.le_of_ble_eq_true rfl, Nat.le_of_ble_eq_true rfl⟩) rfl hl.1 rfl (Nat.le_of_ble_eq_true rfl) dX3_after_158 ⟨Nat.zero_le _, Nat.zero_le _⟩ ?_
    refine lv_if_eq (tgt := 169) hx hb dX3_after_161 (by decide) (fun c_161 => ?_) (fun c_161 => ?_)
    · have h := if_t h c_161
      refine lv_bipush (v := (10 : Int32)) hx hb dX3_after_169 rfl ?_
      cases h
      exact eRi hx hb hr hlk rfl dX3_after_171
    · have h := if_f h c_161
      refine lv_bipush (v := (9 : Int32)) hx hb dX3_after_164 rfl ?_
      refine lv_goto (tgt := 171) hx hb dX3_after_166 (by decide) ?_
      cases h
      exact eRi hx hb hr hlk rfl dX3_after_171
  have h := if_f h c_1_6
  rcases Decidable.em (v0 = (7 : Int32)) with c_1_7 | c_1_7
  · have h := if_t h c_1_7
    refine lv_tableIn (tgt := 172) hx hb dX3_after_1 (by rw [c_1_7]; decide) (by rw [c_1_7]; decide) (by rw [c_1_7]; rfl) (by decide) ?_
    refine lv_iload_n hx hb dX3_after_172 rfl (lv_at hl 1 rfl) ?_
    refine lv_bipush (v := (48 : Int32)) hx hb dX3_after_173 rfl ?_
    refine lv_icmp_ne (tgt := 183) hx hb dX3_after_175 (by decide) (fun c_175 => ?_) (fun c_175 => ?_)
    · have h := if_f h c_175
      refine lv_bipush (v := (49 : Int32)) hx hb dX3_after_183 rfl ?_
      refine lv_bipush (v := (57 : Int32)) hx hb dX3_after_185 rfl ?_
      refine lv_iload_n hx hb dX3_after_187 rfl (lv_at hl 1 rfl) ?_
      obtain ⟨r_188, q_188, h⟩ := ob1_e h
      refine cRS (wc := []) ⟨hx, hb, hml, hown, hts⟩ hK hP [] rfl (c_X3_isFrom l dC dI ck (49 : Int32) (57 : Int32) v1 r_188 q_188) (va_cwS 3 hts gX3_after_X3_isFrom rfl rfl rfl (by decide +kernel) ⟨Nat.le_of_ble_eq_true rfl, Nat.le_of_ble_eq_true rfl⟩) rfl hl.1 rfl (Nat.le_of_ble_eq_true rfl) dX3_after_188 ⟨Nat.zero_le _, Nat.zero_le _⟩ ?_
      refine lv_if_eq (tgt := 199) hx hb dX3_after_191 (by decide) (fun c_191 => ?_) (fun c_191 => ?_)
      · have h := if_t h c_191
        refine lv_bipush (v := (10 : Int32)) hx hb dX3_after_199 rfl ?_
        cases h
        exact eRi hx hb hr hlk rfl dX3_after_201
      · have h := if_f h c_191
        refine lv_bipush (v := (8 : Int32)) hx hb dX3_after_194 rfl ?_
        refine lv_goto (tgt := 201) hx hb dX3_after_196 (by decide) ?_
        cases h
        exact eRi hx hb hr hlk rfl dX3_after_201
    · have h := if_t h c_175
      refine lv_bipush (v := (9 : Int32)) hx hb dX3_after_178 rfl ?_
      refine lv_goto (tgt := 201) hx hb dX3_after_180 (by decide) ?_
      cases h
      exact eRi hx hb hr hlk rfl dX3_after_201
  have h := if_f h c_1_7
  rcases Decidable.em (v0 = (8 : Int32)) with c_1_8 | c_1_8
  · have h := if_t h c_1_8
    refine lv_tableIn (tgt := 202) hx hb dX3_after_1 (by rw [c_1_8]; decide) (by rw [c_1_8]; decide) (by rw [c_1_8]; rfl) (by decide) ?_
    refine lv_bipush (v := (48 : Int32)) hx hb dX3_after_202 rfl ?_
    refine lv_bipush (v := (57 : Int32)) hx hb dX3_after_204 rfl ?_
    refine lv_iload_n hx hb dX3_after_206 rfl (lv_at hl 1 rfl) ?_
    obtain ⟨r_207, q_207, h⟩ := ob1_e h
    refine cRS (wc := []) ⟨hx, hb, hml, hown, hts⟩ hK hP [] rfl (c_X3_isFrom l dC dI ck (48 : Int32) (57 : Int32) v1 r_207 q_207) (va_cwS 3 hts gX3_after_X3_isFrom rfl rfl rfl (by decide +kernel) ⟨Nat.le_of_ble_eq_true rfl, Nat.le_of_ble_eq_true rfl⟩) rfl hl.1 rfl (Nat.le_of_ble_eq_true rfl) dX3_after_207 ⟨Nat.zero_le _, Nat.zero_le _⟩ ?_
    refine lv_if_eq (tgt := 218) hx hb dX3_after_210 (by decide) (fun c_210 => ?_) (fun c_210 => ?_)
    · have h := if_t h c_210
      refine lv_iload_n hx hb dX3_after_218 rfl (lv_at hl 1 rfl) ?_
      obtain ⟨r_219, q_219, h⟩ := ob1_e h
      refine cRS (wc := []) ⟨hx, hb, hml, hown, hts⟩ hK hP [] rfl (c_X3_afterOrder l dC dI ck v1 r_219 q_219) (va_cwS 1 hts gX3_after_X3_afterOrder rfl rfl rfl (by decide +kernel) ⟨Nat.le_of_ble_eq_true rfl, Nat.le_of_ble_eq_true rfl⟩) rfl hl.1 rfl (Nat.le_of_ble_eq_true rfl) dX3_after_219 ⟨Nat.zero_le _, Nat.zero_le _⟩ ?_
      cases h
      exact eRi hx hb hr hlk rfl dX3_after_222
    · have h := if_f h c_210
      refine lv_bipush (v := (9 : Int32)) hx hb dX3_after_213 rfl ?_
      refine lv_goto (tgt := 222) hx hb dX3_after_215 (by decide) ?_
      cases h
      exact eRi hx hb hr hlk rfl dX3_after_222
  have h := if_f h c_1_8
  rcases Decidable.em (v0 = (9 : Int32)) with c_1_9 | c_1_9
  · have h := if_t h c_1_9
    refine lv_tableIn (tgt := 223) hx hb dX3_after_1 (by rw [c_1_9]; decide) (by rw [c_1_9]; decide) (by rw [c_1_9]; rfl) (by decide) ?_
    refine lv_iload_n hx hb dX3_after_223 rfl (lv_at hl 1 rfl) ?_
    obtain ⟨r_224, q_224, h⟩ := ob1_e h
    refine cRS (wc := []) ⟨hx, hb, hml, hown, hts⟩ hK hP [] rfl (c_X3_afterOrder l dC dI ck v1 r_224 q_224) (va_cwS 1 hts gX3_after_X3_afterOrder rfl rfl rfl (by decide +kernel) ⟨Nat.le_of_ble_eq_true rfl, Nat.le_of_ble_eq_true rfl⟩) rfl hl.1 rfl (Nat.le_of_ble_eq_true rfl) dX3_after_224 ⟨Nat.zero_le _, Nat.zero_le _⟩ ?_
    cases h
    exact eRi hx hb hr hlk rfl dX3_after_227
  have h := if_f h c_1_9
  refine lv_tableOut (tgt := 228) hx hb dX3_after_1 (by have t_0 := ti_ne (n := 0) rfl c_1_0; have t_1 := ti_ne (n := 1) rfl c_1_1; have t_2 := ti_ne (n := 2) rfl c_1_2; have t_3 := ti_ne (n := 3) rfl c_1_3; have t_4 := ti_ne (n := 4) rfl c_1_4; have t_5 := ti_ne (n := 5) rfl c_1_5; have t_6 := ti_ne (n := 6) rfl c_1_6; have t_7 := ti_ne (n := 7) rfl c_1_7; have t_8 := ti_ne (n := 8) rfl c_1_8; have t_9 := ti_ne (n := 9) rfl c_1_9; omega) (by decide) ?_
  refine lv_bipush (v := (10 : Int32)) hx hb dX3_after_228 rfl ?_
  cases h
  exact eRi hx hb hr hlk rfl dX3_after_230
noncomputable def f_X3_firstFault_L4 (c_text : Nat → Int32) (c_length : Int32) (rec4 : Int32 → Int32 → Option (Int32)) (v1_L4 : Int32) (v2_L4 : Int32) : Option (Int32) :=
  if c_length ≤ v2_L4 then (if v1_L4 = (9 : Int32) then (some (-6 : Int32)) else (if v1_L4 = (8 : Int32) then (some (-6 : Int32)) else (some c_length))) else (ob1 (f_X3_at c_text c_length v2_L4) (fun (r_15 : Int32) => ob1 (f_X3_after v1_L4 r_15) (fun (r_18 : Int32) => if r_18 = (10 : Int32) then (some v2_L4) else (rec4 r_18 (v2_L4 + (1 : Int32))))))
noncomputable def f_X3_firstFault (c_text : Nat → Int32) (c_length : Int32) : Option (Int32) :=
  lo2 (f_X3_firstFault_L4 c_text c_length) FU (0 : Int32) (0 : Int32)
set_option maxHeartbeats 4000000 in
set_option maxRecDepth 100000 in
theorem c_X3_firstFault (l : Launch) (dC : Nat → ClassId) (dI : Nat → Nat → Nat) (ck : Nat → ClassId) (a0 a0_text : Nat) (c_text : Nat → Int32) (c_length : Int32) (o0 : Int32) (h : f_X3_firstFault c_text c_length = some o0) : RD l yX3_firstFault wsX3_firstFault ({ frames := 2, cells := 0, slots := 0, locals := 43 }) [.ref a0] (dC, dI) ck (wX3 ck a0 a0_text c_text c_length) o0 := by
  refine RD.ofW (cc := cX3_firstFault) (maxL := 3) (ret := (some .int)) (by decide +kernel) rfl (Nat.le_of_ble_eq_true rfl) ?_
  intro p e s m below meth c hx hb hr hml hts hown hlk hK hP ls hl
  have hown : s.vm.findClass RX3 = some m.cls := hown
  have hl : lv_has ls 3 [(0, .ref a0)] := hl
  have iu_X3 : ∀ w ∈ u_ws RX3 TX3 2, w ∈ wsX3_firstFault := fun w h => List.mem_cons_of_mem _ (List.mem_append_right _ h)
  unfold f_X3_firstFault at h
  refine lv_iconst (v := (0 : Int32)) hx hb dX3_firstFault_0 rfl ?_
  refine lv_istore_n (lv' := [(1, .int (0 : Int32)), (0, .ref a0)]) hx hb dX3_firstFault_1 rfl hl (by decide) rfl (fun ls hl => ?_)
  refine lv_iconst (v := (0 : Int32)) hx hb dX3_firstFault_2 rfl ?_
  refine lv_istore_n (lv' := [(2, .int (0 : Int32)), (1, .int (0 : Int32)), (0, .ref a0)]) hx hb dX3_firstFault_3 rfl hl (by decide) rfl (fun ls hl => ?_)
  have hL4 : ∀ (n4 : Nat) (v1_L4 : Int32) (v2_L4 : Int32), lo2 (f_X3_firstFault_L4 c_text c_length) n4 v1_L4 v2_L4 = some o0 → ∀ ls : Array Slot, lv_has ls 3 [(2, .int v2_L4), (1, .int v1_L4), (0, .ref a0)] → W p l e (headSpec wsX3_firstFault ({ frames := 2, cells := 0, slots := 0, locals := 43 })).room s m [.ref a0].toArray below meth c s.heap [] 0 0 (MQ below (QcRead o0) [.ref a0].toArray s 0 0 (fun _ => False)) (F0 m 4 ls []) := by
    intro n4
    induction n4 with
    | zero => intro v1_L4 v2_L4 h; exact lo2_z h
    | succ n4 ih4 =>
      intro v1_L4 v2_L4 h ls hl
      have h := lo2_s h
      unfold f_X3_firstFault_L4 at h
      refine lv_iload_n hx hb dX3_firstFault_4 rfl (lv_at hl 0 rfl) ?_
      refine lv_aload_n hx hb dX3_firstFault_5 rfl (lv_at hl 2 rfl) ?_
      refine va_get (ci := 3) (v := .int c_length) (C := RX3) (T := TX3) (N := 2) hx hb hts iu_X3 hown hK.1 hP 0 rfl rfl 1 (by decide) (hts (.fieldLink RX3 15 "SheetMarks$Pad" "length" "I") (List.mem_of_getElem? (i := 1) rfl)) (fun _ h9 => h9) rfl dX3_firstFault_6 ?_
      refine lv_icmp_ge (tgt := 36) hx hb dX3_firstFault_9 (by decide) (fun c_9 => ?_) (fun c_9 => ?_)
      · have h := if_t h c_9
        refine lv_iload_n hx hb dX3_firstFault_36 rfl (lv_at hl 1 rfl) ?_
        refine lv_bipush (v := (9 : Int32)) hx hb dX3_firstFault_37 rfl ?_
        refine lv_icmp_eq (tgt := 48) hx hb dX3_firstFault_39 (by decide) (fun c_39 => ?_) (fun c_39 => ?_)
        · have h := if_t h c_39
          refine lv_bipush (v := (-6 : Int32)) hx hb dX3_firstFault_48 rfl ?_
          refine lv_goto (tgt := 57) hx hb dX3_firstFault_50 (by decide) ?_
          cases h
          exact eRi hx hb hr hlk rfl dX3_firstFault_57
        · have h := if_f h c_39
          refine lv_iload_n hx hb dX3_firstFault_42 rfl (lv_at hl 1 rfl) ?_
          refine lv_bipush (v := (8 : Int32)) hx hb dX3_firstFault_43 rfl ?_
          refine lv_icmp_ne (tgt := 53) hx hb dX3_firstFault_45 (by decide) (fun c_45 => ?_) (fun c_45 => ?_)
          · have h := if_f h c_45
            refine lv_aload_n hx hb dX3_firstFault_53 rfl (lv_at hl 2 rfl) ?_
            refine va_get (ci := 3) (v := .int c_length) (C := RX3) (T := TX3) (N := 2) hx hb hts iu_X3 hown hK.1 hP 0 rfl rfl 1 (by decide) (hts (.fieldLink RX3 15 "SheetMarks$Pad" "length" "I") (List.mem_of_getElem? (i := 1) rfl)) (fun _ h9 => h9) rfl dX3_firstFault_54 ?_
            cases h
            exact eRi hx hb hr hlk rfl dX3_firstFault_57
          · have h := if_t h c_45
            refine lv_bipush (v := (-6 : Int32)) hx hb dX3_firstFault_48 rfl ?_
            refine lv_goto (tgt := 57) hx hb dX3_firstFault_50 (by decide) ?_
            cases h
            exact eRi hx hb hr hlk rfl dX3_firstFault_57
      · have h := if_f h c_9
        refine lv_iload_n hx hb dX3_firstFault_12 rfl (lv_at hl 1 rfl) ?_
        refine lv_aload_n hx hb dX3_firstFault_13 rfl (lv_at hl 2 rfl) ?_
        refine lv_iload_n hx hb dX3_firstFault_14 rfl (lv_at hl 0 rfl) ?_
        obtain ⟨r_15, q_15, h⟩ := ob1_e h
        refine cRV (wc := wX3 ck a0 a0_text c_text c_length) ⟨hx, hb, hml, hown, hts⟩ hK hP [0, 1] rfl (c_X3_at l dC dI ck a0 a0_text c_text c_length v2_L4 r_15 q_15) (cwV 1 hts gX3_firstFault_X3_at rfl rfl rfl (by decide +kernel) ⟨Nat.le_of_ble_eq_true rfl, Nat.le_of_ble_eq_true rfl⟩) 0 rfl rfl rfl hl.1 rfl (Nat.le_of_ble_eq_true rfl) dX3_firstFault_15 ⟨Nat.zero_le _, Nat.zero_le _⟩ ?_
        obtain ⟨r_18, q_18, h⟩ := ob1_e h
        refine cRS (wc := []) ⟨hx, hb, hml, hown, hts⟩ hK hP [] rfl (c_X3_after l dC dI ck v1_L4 r_15 r_18 q_18) (va_cwS 2 hts gX3_firstFault_X3_after rfl rfl rfl (by decide +kernel) ⟨Nat.le_of_ble_eq_true rfl, Nat.le_of_ble_eq_true rfl⟩) rfl hl.1 rfl (Nat.le_of_ble_eq_true rfl) dX3_firstFault_18 ⟨Nat.zero_le _, Nat.zero_le _⟩ ?_
        refine lv_istore_n (lv' := [(1, .int r_18), (2, .int v2_L4), (0, .ref a0)]) hx hb dX3_firstFault_21 rfl hl (by decide) rfl (fun ls hl => ?_)
        refine lv_iload_n hx hb dX3_firstFault_22 rfl (lv_at hl 0 rfl) ?_
        refine lv_bipush (v := (10 : Int32)) hx hb dX3_firstFault_23 rfl ?_
        refine lv_icmp_ne (tgt := 30) hx hb dX3_firstFault_25 (by decide) (fun c_25 => ?_) (fun c_25 => ?_)
        · have h := if_f h c_25
          refine lv_iinc (v := (v2_L4 + (1 : Int32))) (lv' := [(2, .int (v2_L4 + (1 : Int32))), (1, .int r_18), (0, .ref a0)]) hx hb dX3_firstFault_30 hl (k := 1) rfl rfl (by decide) rfl (fun ls hl => ?_)
          refine lv_goto (tgt := 4) hx hb dX3_firstFault_33 (by decide) ?_
          exact ih4 _ _ h _ (lv_sub hl [0, 1, 2] rfl)
        · have h := if_t h c_25
          refine lv_iload_n hx hb dX3_firstFault_28 rfl (lv_at hl 1 rfl) ?_
          cases h
          exact eRi hx hb hr hlk rfl dX3_firstFault_29
  exact hL4 _ _ _ h _ (lv_sub hl [0, 1, 2] rfl)
noncomputable def f_X3_beginsOrder (c_text : Nat → Int32) (c_length : Int32) (v1 : Int32) : Option (Int32) :=
  ob1 (f_X3_at c_text c_length (v1 - (1 : Int32))) (fun (r_4 : Int32) => if r_4 = (59 : Int32) then (some (1 : Int32)) else (some (0 : Int32)))
set_option maxHeartbeats 4000000 in
set_option maxRecDepth 100000 in
theorem c_X3_beginsOrder (l : Launch) (dC : Nat → ClassId) (dI : Nat → Nat → Nat) (ck : Nat → ClassId) (a0 a0_text : Nat) (c_text : Nat → Int32) (c_length : Int32) (v1 : Int32) (o0 : Int32) (h : f_X3_beginsOrder c_text c_length v1 = some o0) : RD l yX3_beginsOrder wsX3_beginsOrder ({ frames := 1, cells := 0, slots := 0, locals := 21 }) [.ref a0, .int v1] (dC, dI) ck (wX3 ck a0 a0_text c_text c_length) o0 := by
  refine RD.ofW (cc := cX3_beginsOrder) (maxL := 2) (ret := (some .boolean)) (by decide +kernel) rfl (Nat.le_of_ble_eq_true rfl) ?_
  intro p e s m below meth c hx hb hr hml hts hown hlk hK hP ls hl
  have hown : s.vm.findClass RX3 = some m.cls := hown
  have hl : lv_has ls 2 [(0, .ref a0), (1, .int v1)] := hl
  unfold f_X3_beginsOrder at h
  refine lv_aload_n hx hb dX3_beginsOrder_0 rfl (lv_at hl 0 rfl) ?_
  refine lv_iload_n hx hb dX3_beginsOrder_1 rfl (lv_at hl 1 rfl) ?_
  refine lv_iconst (v := (1 : Int32)) hx hb dX3_beginsOrder_2 rfl ?_
  refine lv_isub hx hb dX3_beginsOrder_3 ?_
  obtain ⟨r_4, q_4, h⟩ := ob1_e h
  refine cRV (wc := wX3 ck a0 a0_text c_text c_length) ⟨hx, hb, hml, hown, hts⟩ hK hP [0, 1] rfl (c_X3_at l dC dI ck a0 a0_text c_text c_length (v1 - (1 : Int32)) r_4 q_4) (cwV 1 hts gX3_beginsOrder_X3_at rfl rfl rfl (by decide +kernel) ⟨Nat.le_of_ble_eq_true rfl, Nat.le_of_ble_eq_true rfl⟩) 0 rfl rfl rfl hl.1 rfl (Nat.le_of_ble_eq_true rfl) dX3_beginsOrder_4 ⟨Nat.zero_le _, Nat.zero_le _⟩ ?_
  refine lv_bipush (v := (59 : Int32)) hx hb dX3_beginsOrder_7 rfl ?_
  refine lv_icmp_ne (tgt := 16) hx hb dX3_beginsOrder_9 (by decide) (fun c_9 => ?_) (fun c_9 => ?_)
  · have h := if_f h c_9
    refine lv_iconst (v := (0 : Int32)) hx hb dX3_beginsOrder_16 rfl ?_
    cases h
    exact eRz hx hb hr hlk rfl rfl dX3_beginsOrder_17
  · have h := if_t h c_9
    refine lv_iconst (v := (1 : Int32)) hx hb dX3_beginsOrder_12 rfl ?_
    refine lv_goto (tgt := 17) hx hb dX3_beginsOrder_13 (by decide) ?_
    cases h
    exact eRz hx hb hr hlk rfl rfl dX3_beginsOrder_17
noncomputable def f_X3_digit (c_text : Nat → Int32) (c_length : Int32) (v1 : Int32) : Option (Int32) :=
  ob1 (f_X3_at c_text c_length v1) (fun (r_2 : Int32) => some (r_2 - (48 : Int32)))
set_option maxHeartbeats 4000000 in
set_option maxRecDepth 100000 in
theorem c_X3_digit (l : Launch) (dC : Nat → ClassId) (dI : Nat → Nat → Nat) (ck : Nat → ClassId) (a0 a0_text : Nat) (c_text : Nat → Int32) (c_length : Int32) (v1 : Int32) (o0 : Int32) (h : f_X3_digit c_text c_length v1 = some o0) : RD l yX3_digit wsX3_digit ({ frames := 1, cells := 0, slots := 0, locals := 21 }) [.ref a0, .int v1] (dC, dI) ck (wX3 ck a0 a0_text c_text c_length) o0 := by
  refine RD.ofW (cc := cX3_digit) (maxL := 2) (ret := (some .int)) (by decide +kernel) rfl (Nat.le_of_ble_eq_true rfl) ?_
  intro p e s m below meth c hx hb hr hml hts hown hlk hK hP ls hl
  have hown : s.vm.findClass RX3 = some m.cls := hown
  have hl : lv_has ls 2 [(0, .ref a0), (1, .int v1)] := hl
  unfold f_X3_digit at h
  refine lv_aload_n hx hb dX3_digit_0 rfl (lv_at hl 0 rfl) ?_
  refine lv_iload_n hx hb dX3_digit_1 rfl (lv_at hl 1 rfl) ?_
  obtain ⟨r_2, q_2, h⟩ := ob1_e h
  refine cRV (wc := wX3 ck a0 a0_text c_text c_length) ⟨hx, hb, hml, hown, hts⟩ hK hP [0, 1] rfl (c_X3_at l dC dI ck a0 a0_text c_text c_length v1 r_2 q_2) (cwV 1 hts gX3_digit_X3_at rfl rfl rfl (by decide +kernel) ⟨Nat.le_of_ble_eq_true rfl, Nat.le_of_ble_eq_true rfl⟩) 0 rfl rfl rfl hl.1 rfl (Nat.le_of_ble_eq_true rfl) dX3_digit_2 ⟨Nat.zero_le _, Nat.zero_le _⟩ ?_
  refine lv_bipush (v := (48 : Int32)) hx hb dX3_digit_5 rfl ?_
  refine lv_isub hx hb dX3_digit_7 ?_
  cases h
  exact eRi hx hb hr hlk rfl dX3_digit_8
noncomputable def f_X3_card (c_text : Nat → Int32) (c_length : Int32) (v1 : Int32) : Option (Int32) :=
  ob1 (f_X3_at c_text c_length v1) (fun (r_3 : Int32) => ob1 (f_X3_digit c_text c_length (v1 + (1 : Int32))) (fun (r_16 : Int32) => some ((1 : Int32) <<< ((((r_3 - (97 : Int32)) * (6 : Int32)) + r_16) &&& 31))))
set_option maxHeartbeats 4000000 in
set_option maxRecDepth 100000 in
theorem c_X3_card (l : Launch) (dC : Nat → ClassId) (dI : Nat → Nat → Nat) (ck : Nat → ClassId) (a0 a0_text : Nat) (c_text : Nat → Int32) (c_length : Int32) (v1 : Int32) (o0 : Int32) (h : f_X3_card c_text c_length v1 = some o0) : RD l yX3_card wsX3_card ({ frames := 2, cells := 0, slots := 0, locals := 42 }) [.ref a0, .int v1] (dC, dI) ck (wX3 ck a0 a0_text c_text c_length) o0 := by
  refine RD.ofW (cc := cX3_card) (maxL := 2) (ret := (some .int)) (by decide +kernel) rfl (Nat.le_of_ble_eq_true rfl) ?_
  intro p e s m below meth c hx hb hr hml hts hown hlk hK hP ls hl
  have hown : s.vm.findClass RX3 = some m.cls := hown
  have hl : lv_has ls 2 [(0, .ref a0), (1, .int v1)] := hl
  unfold f_X3_card at h
  refine lv_iconst (v := (1 : Int32)) hx hb dX3_card_0 rfl ?_
  refine lv_aload_n hx hb dX3_card_1 rfl (lv_at hl 0 rfl) ?_
  refine lv_iload_n hx hb dX3_card_2 rfl (lv_at hl 1 rfl) ?_
  obtain ⟨r_3, q_3, h⟩ := ob1_e h
  refine cRV (wc := wX3 ck a0 a0_text c_text c_length) ⟨hx, hb, hml, hown, hts⟩ hK hP [0, 1] rfl (c_X3_at l dC dI ck a0 a0_text c_text c_length v1 r_3 q_3) (cwV 1 hts gX3_card_X3_at rfl rfl rfl (by decide +kernel) ⟨Nat.le_of_ble_eq_true rfl, Nat.le_of_ble_eq_true rfl⟩) 0 rfl rfl rfl hl.1 rfl (Nat.le_of_ble_eq_true rfl) dX3_card_3 ⟨Nat.zero_le _, Nat.zero_le _⟩ ?_
  refine lv_bipush (v := (97 : Int32)) hx hb dX3_card_6 rfl ?_
  refine lv_isub hx hb dX3_card_8 ?_
  refine lv_bipush (v := (6 : Int32)) hx hb dX3_card_9 rfl ?_
  refine lv_imul hx hb dX3_card_11 ?_
  refine lv_aload_n hx hb dX3_card_12 rfl (lv_at hl 0 rfl) ?_
  refine lv_iload_n hx hb dX3_card_13 rfl (lv_at hl 1 rfl) ?_
  refine lv_iconst (v := (1 : Int32)) hx hb dX3_card_14 rfl ?_
  refine lv_iadd hx hb dX3_card_15 ?_
  obtain ⟨r_16, q_16, h⟩ := ob1_e h
  refine cRV (wc := wX3 ck a0 a0_text c_text c_length) ⟨hx, hb, hml, hown, hts⟩ hK hP [0, 1] rfl (c_X3_digit l dC dI ck a0 a0_text c_text c_length (v1 + (1 : Int32)) r_16 q_16) (cwV 1 hts gX3_card_X3_digit rfl rfl rfl (by decide +kernel) ⟨Nat.le_of_ble_eq_true rfl, Nat.le_of_ble_eq_true rfl⟩) 0 rfl rfl rfl hl.1 rfl (Nat.le_of_ble_eq_true rfl) dX3_card_16 ⟨Nat.zero_le _, Nat.zero_le _⟩ ?_
  refine lv_iadd hx hb dX3_card_19 ?_
  refine lv_ishl hx hb dX3_card_20 ?_
  cases h
  exact eRi hx hb hr hlk rfl dX3_card_21
noncomputable def f_X3_threeCards (c_text : Nat → Int32) (c_length : Int32) (v1 : Int32) : Option (Int32) :=
  ob1 (f_X3_digit c_text c_length v1) (fun (r_2 : Int32) => ob1 (f_X3_digit c_text c_length (v1 + (1 : Int32))) (fun (r_9 : Int32) => ob1 (f_X3_digit c_text c_length (v1 + (2 : Int32))) (fun (r_16 : Int32) => ob1 (f_X5_three r_2 r_9 r_16) (fun (r_19 : Int32) => some r_19))))
set_option maxHeartbeats 4000000 in
set_option maxRecDepth 100000 in
theorem c_X3_threeCards (l : Launch) (dC : Nat → ClassId) (dI : Nat → Nat → Nat) (ck : Nat → ClassId) (a0 a0_text : Nat) (c_text : Nat → Int32) (c_length : Int32) (v1 : Int32) (o0 : Int32) (h : f_X3_threeCards c_text c_length v1 = some o0) : RD l yX3_threeCards wsX3_threeCards ({ frames := 2, cells := 0, slots := 0, locals := 42 }) [.ref a0, .int v1] (dC, dI) ck (wX3 ck a0 a0_text c_text c_length) o0 := by
  refine RD.ofW (cc := cX3_threeCards) (maxL := 2) (ret := (some .int)) (by decide +kernel) rfl (Nat.le_of_ble_eq_true rfl) ?_
  intro p e s m below meth c hx hb hr hml hts hown hlk hK hP ls hl
  have hown : s.vm.findClass RX3 = some m.cls := hown
  have hl : lv_has ls 2 [(0, .ref a0), (1, .int v1)] := hl
  unfold f_X3_threeCards at h
  refine lv_aload_n hx hb dX3_threeCards_0 rfl (lv_at hl 0 rfl) ?_
  refine lv_iload_n hx hb dX3_threeCards_1 rfl (lv_at hl 1 rfl) ?_
  obtain ⟨r_2, q_2, h⟩ := ob1_e h
  refine cRV (wc := wX3 ck a0 a0_text c_text c_length) ⟨hx, hb, hml, hown, hts⟩ hK hP [0, 1] rfl (c_X3_digit l dC dI ck a0 a0_text c_text c_length v1 r_2 q_2) (cwV 1 hts gX3_threeCards_X3_digit rfl rfl rfl (by decide +kernel) ⟨Nat.le_of_ble_eq_true rfl, Nat.le_of_ble_eq_true rfl⟩) 0 rfl rfl rfl hl.1 rfl (Nat.le_of_ble_eq_true rfl) dX3_threeCards_2 ⟨Nat.zero_le _, Nat.zero_le _⟩ ?_
  refine lv_aload_n hx hb dX3_threeCards_5 rfl (lv_at hl 0 rfl) ?_
  refine lv_iload_n hx hb dX3_threeCards_6 rfl (lv_at hl 1 rfl) ?_
  refine lv_iconst (v := (1 : Int32)) hx hb dX3_threeCards_7 rfl ?_
  refine lv_iadd hx hb dX3_threeCards_8 ?_
  obtain ⟨r_9, q_9, h⟩ := ob1_e h
  refine cRV (wc := wX3 ck a0 a0_text c_text c_length) ⟨hx, hb, hml, hown, hts⟩ hK hP [0, 1] rfl (c_X3_digit l dC dI ck a0 a0_text c_text c_length (v1 + (1 : Int32)) r_9 q_9) (cwV 1 hts gX3_threeCards_X3_digit rfl rfl rfl (by decide +kernel) ⟨Nat.le_of_ble_eq_true rfl, Nat.le_of_ble_eq_true rfl⟩) 0 rfl rfl rfl hl.1 rfl (Nat.le_of_ble_eq_true rfl) dX3_threeCards_9 ⟨Nat.zero_le _, Nat.zero_le _⟩ ?_
  refine lv_aload_n hx hb dX3_threeCards_12 rfl (lv_at hl 0 rfl) ?_
  refine lv_iload_n hx hb dX3_threeCards_13 rfl (lv_at hl 1 rfl) ?_
  refine lv_iconst (v := (2 : Int32)) hx hb dX3_threeCards_14 rfl ?_
  refine lv_iadd hx hb dX3_threeCards_15 ?_
  obtain ⟨r_16, q_16, h⟩ := ob1_e h
  refine cRV (wc := wX3 ck a0 a0_text c_text c_length) ⟨hx, hb, hml, hown, hts⟩ hK hP [0, 1] rfl (c_X3_digit l dC dI ck a0 a0_text c_text c_length (v1 + (2 : Int32)) r_16 q_16) (cwV 1 hts gX3_threeCards_X3_digit rfl rfl rfl (by decide +kernel) ⟨Nat.le_of_ble_eq_true rfl, Nat.le_of_ble_eq_true rfl⟩) 0 rfl rfl rfl hl.1 rfl (Nat.le_of_ble_eq_true rfl) dX3_threeCards_16 ⟨Nat.zero_le _, Nat.zero_le _⟩ ?_
  obtain ⟨r_19, q_19, h⟩ := ob1_e h
  refine cRSN (wc := []) ⟨hx, hb, hml, hown, hts⟩ hK hP [] rfl (c_X5_three l dC dI ck r_2 r_9 r_16 r_19 q_19) ⟨va_cnB 3 hts gX3_threeCards_X5_three_n40 rfl rfl rfl (hK.2.m 7 rfl) (hts (.initialized RX5) (List.mem_of_getElem? (i := 13) rfl)) (by decide +kernel) ⟨Nat.le_of_ble_eq_true rfl, Nat.le_of_ble_eq_true rfl⟩, hts (.static yX5_three) (List.mem_of_getElem? (i := 12) rfl), trivial⟩ rfl hl.1 rfl (Nat.le_of_ble_eq_true rfl) dX3_threeCards_19 ⟨Nat.zero_le _, Nat.zero_le _⟩ ?_
  cases h
  exact eRi hx hb hr hlk rfl dX3_threeCards_22
noncomputable def f_X3_number (c_text : Nat → Int32) (c_length : Int32) (v1 : Int32) : Option (Int32) :=
  ob1 (f_X3_digit c_text c_length v1) (fun (r_2 : Int32) => ob1 (f_X3_at c_text c_length (v1 + (1 : Int32))) (fun (r_10 : Int32) => if r_10 = (59 : Int32) then (some r_2) else (ob1 (f_X3_digit c_text c_length (v1 + (1 : Int32))) (fun (r_30 : Int32) => some ((r_2 * (10 : Int32)) + r_30)))))
set_option maxHeartbeats 4000000 in
set_option maxRecDepth 100000 in
theorem c_X3_number (l : Launch) (dC : Nat → ClassId) (dI : Nat → Nat → Nat) (ck : Nat → ClassId) (a0 a0_text : Nat) (c_text : Nat → Int32) (c_length : Int32) (v1 : Int32) (o0 : Int32) (h : f_X3_number c_text c_length v1 = some o0) : RD l yX3_number wsX3_number ({ frames := 2, cells := 0, slots := 0, locals := 42 }) [.ref a0, .int v1] (dC, dI) ck (wX3 ck a0 a0_text c_text c_length) o0 := by
  refine RD.ofW (cc := cX3_number) (maxL := 3) (ret := (some .int)) (by decide +kernel) rfl (Nat.le_of_ble_eq_true rfl) ?_
  intro p e s m below meth c hx hb hr hml hts hown hlk hK hP ls hl
  have hown : s.vm.findClass RX3 = some m.cls := hown
  have hl : lv_has ls 3 [(0, .ref a0), (1, .int v1)] := hl
  unfold f_X3_number at h
  refine lv_aload_n hx hb dX3_number_0 rfl (lv_at hl 0 rfl) ?_
  refine lv_iload_n hx hb dX3_number_1 rfl (lv_at hl 1 rfl) ?_
  obtain ⟨r_2, q_2, h⟩ := ob1_e h
  refine cRV (wc := wX3 ck a0 a0_text c_text c_length) ⟨hx, hb, hml, hown, hts⟩ hK hP [0, 1] rfl (c_X3_digit l dC dI ck a0 a0_text c_text c_length v1 r_2 q_2) (cwV 1 hts gX3_number_X3_digit rfl rfl rfl (by decide +kernel) ⟨Nat.le_of_ble_eq_true rfl, Nat.le_of_ble_eq_true rfl⟩) 0 rfl rfl rfl hl.1 rfl (Nat.le_of_ble_eq_true rfl) dX3_number_2 ⟨Nat.zero_le _, Nat.zero_le _⟩ ?_
  refine lv_istore_n (lv' := [(2, .int r_2), (0, .ref a0), (1, .int v1)]) hx hb dX3_number_5 rfl hl (by decide) rfl (fun ls hl => ?_)
  refine lv_aload_n hx hb dX3_number_6 rfl (lv_at hl 1 rfl) ?_
  refine lv_iload_n hx hb dX3_number_7 rfl (lv_at hl 2 rfl) ?_
  refine lv_iconst (v := (1 : Int32)) hx hb dX3_number_8 rfl ?_
  refine lv_iadd hx hb dX3_number_9 ?_
  obtain ⟨r_10, q_10, h⟩ := ob1_e h
  refine cRV (wc := wX3 ck a0 a0_text c_text c_length) ⟨hx, hb, hml, hown, hts⟩ hK hP [0, 1] rfl (c_X3_at l dC dI ck a0 a0_text c_text c_length (v1 + (1 : Int32)) r_10 q_10) (cwV 1 hts gX3_number_X3_at rfl rfl rfl (by decide +kernel) ⟨Nat.le_of_ble_eq_true rfl, Nat.le_of_ble_eq_true rfl⟩) 0 rfl rfl rfl hl.1 rfl (Nat.le_of_ble_eq_true rfl) dX3_number_10 ⟨Nat.zero_le _, Nat.zero_le _⟩ ?_
  refine lv_bipush (v := (59 : Int32)) hx hb dX3_number_13 rfl ?_
  refine lv_icmp_ne (tgt := 22) hx hb dX3_number_15 (by decide) (fun c_15 => ?_) (fun c_15 => ?_)
  · have h := if_f h c_15
    refine lv_iload_n hx hb dX3_number_22 rfl (lv_at hl 0 rfl) ?_
    refine lv_bipush (v := (10 : Int32)) hx hb dX3_number_23 rfl ?_
    refine lv_imul hx hb dX3_number_25 ?_
    refine lv_aload_n hx hb dX3_number_26 rfl (lv_at hl 1 rfl) ?_
    refine lv_iload_n hx hb dX3_number_27 rfl (lv_at hl 2 rfl) ?_
    refine lv_iconst (v := (1 : Int32)) hx hb dX3_number_28 rfl ?_
    refine lv_iadd hx hb dX3_number_29 ?_
    obtain ⟨r_30, q_30, h⟩ := ob1_e h
    refine cRV (wc := wX3 ck a0 a0_text c_text c_length) ⟨hx, hb, hml, hown, hts⟩ hK hP [0, 1] rfl (c_X3_digit l dC dI ck a0 a0_text c_text c_length (v1 + (1 : Int32)) r_30 q_30) (cwV 1 hts gX3_number_X3_digit rfl rfl rfl (by decide +kernel) ⟨Nat.le_of_ble_eq_true rfl, Nat.le_of_ble_eq_true rfl⟩) 0 rfl rfl rfl hl.1 rfl (Nat.le_of_ble_eq_true rfl) dX3_number_30 ⟨Nat.zero_le _, Nat.zero_le _⟩ ?_
    refine lv_iadd hx hb dX3_number_33 ?_
    cases h
    exact eRi hx hb hr hlk rfl dX3_number_34
  · have h := if_t h c_15
    refine lv_iload_n hx hb dX3_number_18 rfl (lv_at hl 0 rfl) ?_
    refine lv_goto (tgt := 34) hx hb dX3_number_19 (by decide) ?_
    cases h
    exact eRi hx hb hr hlk rfl dX3_number_34
noncomputable def f_X4_addAtOnce (c_sets : Nat → Int32) (v1 : Int32) (v2 : Int32) : Option ((Nat → Int32)) :=
  if v1 < (0 : Int32) then (some c_sets) else (if (6 : Int32) ≤ v1 then (some c_sets) else (gd v1 6 (gd v1 6 (lt' (upd c_sets v1.toNatClampNeg ((c_sets v1.toNatClampNeg) ||| ((1 : Int32) <<< (v2 &&& 31)))) (fun c_sets_21 : Nat → Int32 => some c_sets_21)))))
set_option maxHeartbeats 4000000 in
set_option maxRecDepth 100000 in
theorem c_X4_addAtOnce (l : Launch) (dC : Nat → ClassId) (dI : Nat → Nat → Nat) (ck : Nat → ClassId) (a0 a0_sets a0_coming a0_origins : Nat) (c_sets : Nat → Int32) (c_coming : Nat → Int32) (c_origins : Nat → Int32) (c_round : Int32) (v1 : Int32) (v2 : Int32) (o0 : Nat → Int32) (h : f_X4_addAtOnce c_sets v1 v2 = some o0) : MV l yX4_addAtOnce wsX4_addAtOnce ({ frames := 0, cells := 0, slots := 0, locals := 0 }) [.ref a0, .int v1, .int v2] (dC, dI) ck (wX4 ck a0 a0_sets a0_coming a0_origins c_sets c_coming c_origins c_round) (wX4 ck a0 a0_sets a0_coming a0_origins o0 c_coming c_origins c_round) := by
  refine MV.ofW (cc := cX4_addAtOnce) (maxL := 3) (ret := none) (by decide +kernel) rfl (Nat.le_of_ble_eq_true rfl) ?_
  intro p e s m below meth c hx hb hr hml hts hown hlk hK hP A hA hD ls hl
  have hS : va_S A s.heap s.heap [] := va_S.rf
  have hown : s.vm.findClass RX4 = some m.cls := hown
  have hl : lv_has ls 3 [(0, .ref a0), (1, .int v1), (2, .int v2)] := hl
  have iu_X4 : ∀ w ∈ u_ws RX4 TX4 4, w ∈ wsX4_addAtOnce := fun w h => List.mem_cons_of_mem _ (List.mem_append_right _ h)
  unfold f_X4_addAtOnce at h
  refine lv_iload_n hx hb dX4_addAtOnce_0 rfl (lv_at hl 1 rfl) ?_
  refine lv_if_lt (tgt := 22) hx hb dX4_addAtOnce_1 (by decide) (fun c_1 => ?_) (fun c_1 => ?_)
  · have h := if_t h c_1
    cases h
    exact eMv hx hb hr hlk hP hD hS dX4_addAtOnce_22
  · have h := if_f h c_1
    refine lv_iload_n hx hb dX4_addAtOnce_4 rfl (lv_at hl 1 rfl) ?_
    refine lv_bipush (v := (6 : Int32)) hx hb dX4_addAtOnce_5 rfl ?_
    refine lv_icmp_ge (tgt := 22) hx hb dX4_addAtOnce_7 (by decide) (fun c_7 => ?_) (fun c_7 => ?_)
    · have h := if_t h c_7
      cases h
      exact eMv hx hb hr hlk hP hD hS dX4_addAtOnce_22
    · have h := if_f h c_7
      refine lv_aload_n hx hb dX4_addAtOnce_10 rfl (lv_at hl 0 rfl) ?_
      refine va_get (ci := 4) (v := .ref a0_sets) (C := RX4) (T := TX4) (N := 4) hx hb hts iu_X4 hown hK.1 hP 0 rfl rfl 0 (by decide) (hts (.fieldLink RX4 9 "SheetMarks$Ticks" "sets" "[I") (List.mem_of_getElem? (i := 1) rfl)) (fun _ h9 => h9) rfl dX4_addAtOnce_11 ?_
      refine lv_iload_n hx hb dX4_addAtOnce_14 rfl (lv_at hl 1 rfl) ?_
      refine lv_dup2_11 hx hb dX4_addAtOnce_15 rfl rfl ?_
      obtain ⟨g_16, h⟩ := gd_e h
      refine va_iald hx hb hK.1 hP 1 0 rfl rfl g_16 dX4_addAtOnce_16 ?_
      refine lv_iconst (v := (1 : Int32)) hx hb dX4_addAtOnce_17 rfl ?_
      refine lv_iload_n hx hb dX4_addAtOnce_18 rfl (lv_at hl 2 rfl) ?_
      refine lv_ishl hx hb dX4_addAtOnce_19 ?_
      refine lv_ior hx hb dX4_addAtOnce_20 ?_
      obtain ⟨g_21, h⟩ := gd_e h
      refine va_iast hx hb hK.1 hP hD hS 1 0 rfl rfl g_21 dX4_addAtOnce_21 (fun H locs hP hD hS => ?_)
      obtain ⟨c_sets_21, e_21⟩ : ∃ y : Nat → Int32, y = (upd c_sets v1.toNatClampNeg ((c_sets v1.toNatClampNeg) ||| ((1 : Int32) <<< (v2 &&& 31)))) := ⟨_, rfl⟩
      have h := lt'_e e_21 h
      have hP : va_P (dC, dI) vwCl (wX4 ck a0 a0_sets a0_coming a0_origins c_sets_21 c_coming c_origins c_round) H := by subst e_21; exact hP
      have hD : va_D A (wX4 ck a0 a0_sets a0_coming a0_origins c_sets_21 c_coming c_origins c_round) := by subst e_21; exact hD
      cases h
      exact eMv hx hb hr hlk hP hD hS dX4_addAtOnce_22
noncomputable def f_X4_has (c_sets : Nat → Int32) (v1 : Int32) (v2 : Int32) : Option (Int32) :=
  ob1 (f_X4_of c_sets v1) (fun (r_2 : Int32) => ob1 (f_X5_isIn r_2 v2) (fun (r_6 : Int32) => bo r_6 (some r_6)))
set_option maxHeartbeats 4000000 in
set_option maxRecDepth 100000 in
theorem c_X4_has (l : Launch) (dC : Nat → ClassId) (dI : Nat → Nat → Nat) (ck : Nat → ClassId) (a0 a0_sets a0_coming a0_origins : Nat) (c_sets : Nat → Int32) (c_coming : Nat → Int32) (c_origins : Nat → Int32) (c_round : Int32) (v1 : Int32) (v2 : Int32) (o0 : Int32) (h : f_X4_has c_sets v1 v2 = some o0) : RD l yX4_has wsX4_has ({ frames := 1, cells := 0, slots := 0, locals := 21 }) [.ref a0, .int v1, .int v2] (dC, dI) ck (wX4 ck a0 a0_sets a0_coming a0_origins c_sets c_coming c_origins c_round) o0 := by
  refine RD.ofW (cc := cX4_has) (maxL := 3) (ret := (some .boolean)) (by decide +kernel) rfl (Nat.le_of_ble_eq_true rfl) ?_
  intro p e s m below meth c hx hb hr hml hts hown hlk hK hP ls hl
  have hown : s.vm.findClass RX4 = some m.cls := hown
  have hl : lv_has ls 3 [(0, .ref a0), (1, .int v1), (2, .int v2)] := hl
  unfold f_X4_has at h
  refine lv_aload_n hx hb dX4_has_0 rfl (lv_at hl 0 rfl) ?_
  refine lv_iload_n hx hb dX4_has_1 rfl (lv_at hl 1 rfl) ?_
  obtain ⟨r_2, q_2, h⟩ := ob1_e h
  refine cRV (wc := wX4 ck a0 a0_sets a0_coming a0_origins c_sets c_coming c_origins c_round) ⟨hx, hb, hml, hown, hts⟩ hK hP [0, 1, 2, 3] rfl (c_X4_of l dC dI ck a0 a0_sets a0_coming a0_origins c_sets c_coming c_origins c_round v1 r_2 q_2) (cwV 1 hts gX4_has_X4_of rfl rfl rfl (by decide +kernel) ⟨Nat.le_of_ble_eq_true rfl, Nat.le_of_ble_eq_true rfl⟩) 0 rfl rfl rfl hl.1 rfl (Nat.le_of_ble_eq_true rfl) dX4_has_2 ⟨Nat.zero_le _, Nat.zero_le _⟩ ?_
  refine lv_iload_n hx hb dX4_has_5 rfl (lv_at hl 2 rfl) ?_
  obtain ⟨r_6, q_6, h⟩ := ob1_e h
  refine cRSN (wc := []) ⟨hx, hb, hml, hown, hts⟩ hK hP [] rfl (c_X5_isIn l dC dI ck r_2 v2 r_6 q_6) ⟨va_cnB 2 hts gX4_has_X5_isIn_n37 rfl rfl rfl (hK.2.m 5 rfl) (hts (.initialized RX5) (List.mem_of_getElem? (i := 8) rfl)) (by decide +kernel) ⟨Nat.le_of_ble_eq_true rfl, Nat.le_of_ble_eq_true rfl⟩, hts (.static yX5_isIn) (List.mem_of_getElem? (i := 7) rfl), trivial⟩ rfl hl.1 rfl (Nat.le_of_ble_eq_true rfl) dX4_has_6 ⟨Nat.zero_le _, Nat.zero_le _⟩ ?_
  obtain ⟨n_9, h⟩ := bo_e h
  cases h
  exact eRz hx hb hr hlk rfl n_9.1 dX4_has_9
noncomputable def f_X4_roundOf (c_sets : Nat → Int32) (c_origins : Nat → Int32) (v1 : Int32) (v2 : Int32) : Option (Int32) :=
  ob1 (f_X4_has c_sets v1 v2) (fun (r_3 : Int32) => if r_3 = (0 : Int32) then (some (-6 : Int32)) else (gd ((v1 * (18 : Int32)) + v2) 108 (some ((c_origins ((v1 * (18 : Int32)) + v2).toNatClampNeg) >>> ((3 : Int32) &&& 31)))))
set_option maxHeartbeats 4000000 in
set_option maxRecDepth 100000 in
theorem c_X4_roundOf (l : Launch) (dC : Nat → ClassId) (dI : Nat → Nat → Nat) (ck : Nat → ClassId) (a0 a0_sets a0_coming a0_origins : Nat) (c_sets : Nat → Int32) (c_coming : Nat → Int32) (c_origins : Nat → Int32) (c_round : Int32) (v1 : Int32) (v2 : Int32) (o0 : Int32) (h : f_X4_roundOf c_sets c_origins v1 v2 = some o0) : RD l yX4_roundOf wsX4_roundOf ({ frames := 2, cells := 0, slots := 0, locals := 43 }) [.ref a0, .int v1, .int v2] (dC, dI) ck (wX4 ck a0 a0_sets a0_coming a0_origins c_sets c_coming c_origins c_round) o0 := by
  refine RD.ofW (cc := cX4_roundOf) (maxL := 3) (ret := (some .int)) (by decide +kernel) rfl (Nat.le_of_ble_eq_true rfl) ?_
  intro p e s m below meth c hx hb hr hml hts hown hlk hK hP ls hl
  have hown : s.vm.findClass RX4 = some m.cls := hown
  have hl : lv_has ls 3 [(0, .ref a0), (1, .int v1), (2, .int v2)] := hl
  have iu_X4 : ∀ w ∈ u_ws RX4 TX4 4, w ∈ wsX4_roundOf := fun w h => List.mem_cons_of_mem _ (List.mem_append_right _ h)
  unfold f_X4_roundOf at h
  refine lv_aload_n hx hb dX4_roundOf_0 rfl (lv_at hl 0 rfl) ?_
  refine lv_iload_n hx hb dX4_roundOf_1 rfl (lv_at hl 1 rfl) ?_
  refine lv_iload_n hx hb dX4_roundOf_2 rfl (lv_at hl 2 rfl) ?_
  obtain ⟨r_3, q_3, h⟩ := ob1_e h
  refine cRV (wc := wX4 ck a0 a0_sets a0_coming a0_origins c_sets c_coming c_origins c_round) ⟨hx, hb, hml, hown, hts⟩ hK hP [0, 1, 2, 3] rfl (c_X4_has l dC dI ck a0 a0_sets a0_coming a0_origins c_sets c_coming c_origins c_round v1 v2 r_3 q_3) (cwV 2 hts gX4_roundOf_X4_has rfl rfl rfl (by decide +kernel) ⟨Nat.le_of_ble_eq_true rfl, Nat.le_of_ble_eq_true rfl⟩) 0 rfl rfl rfl hl.1 rfl (Nat.le_of_ble_eq_true rfl) dX4_roundOf_3 ⟨Nat.zero_le _, Nat.zero_le _⟩ ?_
  refine lv_if_eq (tgt := 25) hx hb dX4_roundOf_6 (by decide) (fun c_6 => ?_) (fun c_6 => ?_)
  · have h := if_t h c_6
    refine lv_bipush (v := (-6 : Int32)) hx hb dX4_roundOf_25 rfl ?_
    cases h
    exact eRi hx hb hr hlk rfl dX4_roundOf_27
  · have h := if_f h c_6
    refine lv_aload_n hx hb dX4_roundOf_9 rfl (lv_at hl 0 rfl) ?_
    refine va_get (ci := 4) (v := .ref a0_origins) (C := RX4) (T := TX4) (N := 4) hx hb hts iu_X4 hown hK.1 hP 0 rfl rfl 2 (by decide) (hts (.fieldLink RX4 18 "SheetMarks$Ticks" "origins" "[I") (List.mem_of_getElem? (i := 1) rfl)) (fun _ h9 => h9) rfl dX4_roundOf_10 ?_
    refine lv_iload_n hx hb dX4_roundOf_13 rfl (lv_at hl 1 rfl) ?_
    refine lv_bipush (v := (18 : Int32)) hx hb dX4_roundOf_14 rfl ?_
    refine lv_imul hx hb dX4_roundOf_16 ?_
    refine lv_iload_n hx hb dX4_roundOf_17 rfl (lv_at hl 2 rfl) ?_
    refine lv_iadd hx hb dX4_roundOf_18 ?_
    obtain ⟨g_19, h⟩ := gd_e h
    refine va_iald hx hb hK.1 hP 3 0 rfl rfl g_19 dX4_roundOf_19 ?_
    refine lv_iconst (v := (3 : Int32)) hx hb dX4_roundOf_20 rfl ?_
    refine lv_ishr hx hb dX4_roundOf_21 ?_
    refine lv_goto (tgt := 27) hx hb dX4_roundOf_22 (by decide) ?_
    cases h
    exact eRi hx hb hr hlk rfl dX4_roundOf_27
noncomputable def f_X4_ruleOf (c_sets : Nat → Int32) (c_origins : Nat → Int32) (v1 : Int32) (v2 : Int32) : Option (Int32) :=
  ob1 (f_X4_has c_sets v1 v2) (fun (r_3 : Int32) => if r_3 = (0 : Int32) then (some (-6 : Int32)) else (gd ((v1 * (18 : Int32)) + v2) 108 (some ((c_origins ((v1 * (18 : Int32)) + v2).toNatClampNeg) &&& (7 : Int32)))))
set_option maxHeartbeats 4000000 in
set_option maxRecDepth 100000 in
theorem c_X4_ruleOf (l : Launch) (dC : Nat → ClassId) (dI : Nat → Nat → Nat) (ck : Nat → ClassId) (a0 a0_sets a0_coming a0_origins : Nat) (c_sets : Nat → Int32) (c_coming : Nat → Int32) (c_origins : Nat → Int32) (c_round : Int32) (v1 : Int32) (v2 : Int32) (o0 : Int32) (h : f_X4_ruleOf c_sets c_origins v1 v2 = some o0) : RD l yX4_ruleOf wsX4_ruleOf ({ frames := 2, cells := 0, slots := 0, locals := 43 }) [.ref a0, .int v1, .int v2] (dC, dI) ck (wX4 ck a0 a0_sets a0_coming a0_origins c_sets c_coming c_origins c_round) o0 := by
  refine RD.ofW (cc := cX4_ruleOf) (maxL := 3) (ret := (some .int)) (by decide +kernel) rfl (Nat.le_of_ble_eq_true rfl) ?_
  intro p e s m below meth c hx hb hr hml hts hown hlk hK hP ls hl
  have hown : s.vm.findClass RX4 = some m.cls := hown
  have hl : lv_has ls 3 [(0, .ref a0), (1, .int v1), (2, .int v2)] := hl
  have iu_X4 : ∀ w ∈ u_ws RX4 TX4 4, w ∈ wsX4_ruleOf := fun w h => List.mem_cons_of_mem _ (List.mem_append_right _ h)
  unfold f_X4_ruleOf at h
  refine lv_aload_n hx hb dX4_ruleOf_0 rfl (lv_at hl 0 rfl) ?_
  refine lv_iload_n hx hb dX4_ruleOf_1 rfl (lv_at hl 1 rfl) ?_
  refine lv_iload_n hx hb dX4_ruleOf_2 rfl (lv_at hl 2 rfl) ?_
  obtain ⟨r_3, q_3, h⟩ := ob1_e h
  refine cRV (wc := wX4 ck a0 a0_sets a0_coming a0_origins c_sets c_coming c_origins c_round) ⟨hx, hb, hml, hown, hts⟩ hK hP [0, 1, 2, 3] rfl (c_X4_has l dC dI ck a0 a0_sets a0_coming a0_origins c_sets c_coming c_origins c_round v1 v2 r_3 q_3) (cwV 2 hts gX4_ruleOf_X4_has rfl rfl rfl (by decide +kernel) ⟨Nat.le_of_ble_eq_true rfl, Nat.le_of_ble_eq_true rfl⟩) 0 rfl rfl rfl hl.1 rfl (Nat.le_of_ble_eq_true rfl) dX4_ruleOf_3 ⟨Nat.zero_le _, Nat.zero_le _⟩ ?_
  refine lv_if_eq (tgt := 26) hx hb dX4_ruleOf_6 (by decide) (fun c_6 => ?_) (fun c_6 => ?_)
  · have h := if_t h c_6
    refine lv_bipush (v := (-6 : Int32)) hx hb dX4_ruleOf_26 rfl ?_
    cases h
    exact eRi hx hb hr hlk rfl dX4_ruleOf_28
  · have h := if_f h c_6
    refine lv_aload_n hx hb dX4_ruleOf_9 rfl (lv_at hl 0 rfl) ?_
    refine va_get (ci := 4) (v := .ref a0_origins) (C := RX4) (T := TX4) (N := 4) hx hb hts iu_X4 hown hK.1 hP 0 rfl rfl 2 (by decide) (hts (.fieldLink RX4 18 "SheetMarks$Ticks" "origins" "[I") (List.mem_of_getElem? (i := 1) rfl)) (fun _ h9 => h9) rfl dX4_ruleOf_10 ?_
    refine lv_iload_n hx hb dX4_ruleOf_13 rfl (lv_at hl 1 rfl) ?_
    refine lv_bipush (v := (18 : Int32)) hx hb dX4_ruleOf_14 rfl ?_
    refine lv_imul hx hb dX4_ruleOf_16 ?_
    refine lv_iload_n hx hb dX4_ruleOf_17 rfl (lv_at hl 2 rfl) ?_
    refine lv_iadd hx hb dX4_ruleOf_18 ?_
    obtain ⟨g_19, h⟩ := gd_e h
    refine va_iald hx hb hK.1 hP 3 0 rfl rfl g_19 dX4_ruleOf_19 ?_
    refine lv_bipush (v := (7 : Int32)) hx hb dX4_ruleOf_20 rfl ?_
    refine lv_iand hx hb dX4_ruleOf_22 ?_
    refine lv_goto (tgt := 28) hx hb dX4_ruleOf_23 (by decide) ?_
    cases h
    exact eRi hx hb hr hlk rfl dX4_ruleOf_28
