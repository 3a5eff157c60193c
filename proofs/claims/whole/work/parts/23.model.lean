noncomputable def f_X6_isBroken_J103 (c_z : Nat → Int32) (c_yes : Nat → Int32) (rec56 : Int32 → Int32 → Option (Int32)) (v2_L56 : Int32) (v3_L56 : Int32) (t0_J103 : Int32) : Option (Int32) :=
  if v2_L56 = (0 : Int32) then (if t0_J103 = (0 : Int32) then (ob1 (f_X6_fact c_z v3_L56 (0 : Int32)) (fun (r_117 : Int32) => if r_117 = (3 : Int32) then (ob1 (f_X6_three c_z v3_L56) (fun (r_126 : Int32) => gd (5 : Int32) 6 (if (r_126 &&& ((c_yes (5 : Int32).toNatClampNeg) ^^^ (-1 : Int32))) = (0 : Int32) then (rec56 (1 : Int32) (v3_L56 + (1 : Int32))) else (rec56 (0 : Int32) (v3_L56 + (1 : Int32)))))) else (rec56 (0 : Int32) (v3_L56 + (1 : Int32))))) else (rec56 (1 : Int32) (v3_L56 + (1 : Int32)))) else (rec56 (1 : Int32) (v3_L56 + (1 : Int32)))
noncomputable def f_X6_isBroken_J102 (c_z : Nat → Int32) (c_yes : Nat → Int32) (rec56 : Int32 → Int32 → Option (Int32)) (v2_L56 : Int32) (v3_L56 : Int32) : Option (Int32) :=
  f_X6_isBroken_J103 c_z c_yes rec56 v2_L56 v3_L56 (0 : Int32)
noncomputable def f_X6_isBroken_L56 (c_z : Nat → Int32) (c_yes : Nat → Int32) (c_no : Nat → Int32) (v1_L7 : Int32) (rec56 : Int32 → Int32 → Option (Int32)) (v2_L56 : Int32) (v3_L56 : Int32) : Option (Int32) :=
  gd (1 : Int32) 207 (if (c_z (1 : Int32).toNatClampNeg) ≤ v3_L56 then (if v2_L56 = (0 : Int32) then (if v1_L7 = (0 : Int32) then (some (0 : Int32)) else (some (1 : Int32))) else (some (1 : Int32))) else (ob1 (f_X6_fact c_z v3_L56 (0 : Int32)) (fun (r_69 : Int32) => if r_69 = (2 : Int32) then (ob1 (f_X6_three c_z v3_L56) (fun (r_78 : Int32) => ob1 (f_X6_fact c_z v3_L56 (1 : Int32)) (fun (r_88 : Int32) => gd r_88 6 (if (r_78 &&& ((c_no r_88.toNatClampNeg) ^^^ (-1 : Int32))) = (0 : Int32) then (f_X6_isBroken_J103 c_z c_yes rec56 v2_L56 v3_L56 (1 : Int32)) else (f_X6_isBroken_J102 c_z c_yes rec56 v2_L56 v3_L56))))) else (f_X6_isBroken_J102 c_z c_yes rec56 v2_L56 v3_L56))))
noncomputable def f_X6_isBroken_L7 (c_z : Nat → Int32) (c_yes : Nat → Int32) (c_no : Nat → Int32) (rec7 : Int32 → Int32 → Int32 → Option (Int32)) (v1_L7 : Int32) (v2_L7 : Int32) (v3_L7 : Int32) : Option (Int32) :=
  if (6 : Int32) ≤ v3_L7 then (lo2 (f_X6_isBroken_L56 c_z c_yes c_no v1_L7) FU v2_L7 (0 : Int32)) else (ob1 (f_X6_isOwner c_z v3_L7) (fun (r_15 : Int32) => if r_15 = (0 : Int32) then (rec7 v1_L7 v2_L7 (v3_L7 + (1 : Int32))) else (gd v3_L7 6 (lt' (v1_L7 &&& (c_no v3_L7.toNatClampNeg)) (fun v1_29 : Int32 => if v2_L7 = (0 : Int32) then (ob1 (f_X6_isOwnerBroken c_z c_yes c_no v3_L7) (fun (r_36 : Int32) => if r_36 = (0 : Int32) then (rec7 v1_29 (0 : Int32) (v3_L7 + (1 : Int32))) else (rec7 v1_29 (1 : Int32) (v3_L7 + (1 : Int32))))) else (rec7 v1_29 (1 : Int32) (v3_L7 + (1 : Int32))))))))
noncomputable def f_X6_isBroken (c_z : Nat → Int32) (c_yes : Nat → Int32) (c_no : Nat → Int32) : Option (Int32) :=
  lo3 (f_X6_isBroken_L7 c_z c_yes c_no) FU (262143 : Int32) (0 : Int32) (0 : Int32)
set_option maxHeartbeats 4000000 in
set_option maxRecDepth 100000 in
theorem c_X6_isBroken (l : Launch) (dC : Nat → ClassId) (dI : Nat → Nat → Nat) (ck : Nat → ClassId) (a0 a0_z a0_past a0_slots a0_isSaved a0_pad a0_yes a0_no a0_yesThen a0_noThen a0_yesRound a0_yesRule a0_noRound a0_noRule a0_orders : Nat) (c_z : Nat → Int32) (c_past : Nat → Int32) (c_slots : Nat → Int32) (c_isSaved : Nat → Int32) (c_pastMany : Int32) (c_pad : Nat → Int32) (c_typed : Int32) (c_yes : Nat → Int32) (c_no : Nat → Int32) (c_yesThen : Nat → Int32) (c_noThen : Nat → Int32) (c_yesRound : Nat → Int32) (c_yesRule : Nat → Int32) (c_noRound : Nat → Int32) (c_noRule : Nat → Int32) (c_rounds : Int32) (c_isMore : Int32) (c_orders : Nat → Int32) (c_orderMany : Int32) (c_spot : Int32) (c_bad : Int32) (o0 : Int32) (h : f_X6_isBroken c_z c_yes c_no = some o0) : RD l yX6_isBroken wsX6_isBroken ({ frames := 3, cells := 0, slots := 0, locals := 68 }) [.ref a0] (dC, dI) ck (wX6 ck a0 a0_z a0_past a0_slots a0_isSaved a0_pad a0_yes a0_no a0_yesThen a0_noThen a0_yesRound a0_yesRule a0_noRound a0_noRule a0_orders c_z c_past c_slots c_isSaved c_pastMany c_pad c_typed c_yes c_no c_yesThen c_noThen c_yesRound c_yesRule c_noRound c_noRule c_rounds c_isMore c_orders c_orderMany c_spot c_bad) o0 := by
  refine RD.ofW (cc := cX6_isBroken) (maxL := 5) (ret := (some .boolean)) (by decide +kernel) rfl (Nat.le_of_ble_eq_true rfl) ?_
  intro p e s m below meth c hx hb hr hml hts hown hlk hK hP ls hl
  have hown : s.vm.findClass RX6 = some m.cls := hown
  have hl : lv_has ls 5 [(0, .ref a0)] := hl
  have iu_X6 : ∀ w ∈ u_ws RX6 TX6 21, w ∈ wsX6_isBroken := fun w h => List.mem_cons_of_mem _ (List.mem_append_right _ h)
  unfold f_X6_isBroken at h
  refine lv_ldc hx hb hown (hts (.constant RX6 100 (262143)) (List.mem_of_getElem? (i := 1) rfl)) dX6_isBroken_0 ?_
  refine lv_istore_n (lv' := [(1, .int (262143 : Int32)), (0, .ref a0)]) hx hb dX6_isBroken_2 rfl hl (by decide) rfl (fun ls hl => ?_)
  refine lv_iconst (v := (0 : Int32)) hx hb dX6_isBroken_3 rfl ?_
  refine lv_istore_n (lv' := [(2, .int (0 : Int32)), (1, .int (262143 : Int32)), (0, .ref a0)]) hx hb dX6_isBroken_4 rfl hl (by decide) rfl (fun ls hl => ?_)
  refine lv_iconst (v := (0 : Int32)) hx hb dX6_isBroken_5 rfl ?_
  refine lv_istore_n (lv' := [(3, .int (0 : Int32)), (2, .int (0 : Int32)), (1, .int (262143 : Int32)), (0, .ref a0)]) hx hb dX6_isBroken_6 rfl hl (by decide) rfl (fun ls hl => ?_)
  have hL7 : ∀ (n7 : Nat) (v1_L7 : Int32) (v2_L7 : Int32) (v3_L7 : Int32), lo3 (f_X6_isBroken_L7 c_z c_yes c_no) n7 v1_L7 v2_L7 v3_L7 = some o0 → ∀ ls : Array Slot, lv_has ls 5 [(3, .int v3_L7), (2, .int v2_L7), (1, .int v1_L7), (0, .ref a0)] → W p l e (headSpec wsX6_isBroken ({ frames := 3, cells := 0, slots := 0, locals := 68 })).room s m [.ref a0].toArray below meth c s.heap [] 0 0 (MQ below (QcRead o0) [.ref a0].toArray s 0 0 (fun _ => False)) (F0 m 7 ls []) := by
    intro n7
    induction n7 with
    | zero => intro v1_L7 v2_L7 v3_L7 h; exact lo3_z h
    | succ n7 ih7 =>
      intro v1_L7 v2_L7 v3_L7 h ls hl
      have h := lo3_s h
      unfold f_X6_isBroken_L7 at h
      refine lv_iload_n hx hb dX6_isBroken_7 rfl (lv_at hl 0 rfl) ?_
      refine lv_bipush (v := (6 : Int32)) hx hb dX6_isBroken_8 rfl ?_
      refine lv_icmp_ge (tgt := 54) hx hb dX6_isBroken_10 (by decide) (fun c_10 => ?_) (fun c_10 => ?_)
      · have h := if_t h c_10
        refine lv_iconst (v := (0 : Int32)) hx hb dX6_isBroken_54 rfl ?_
        refine lv_istore_n (lv' := [(3, .int (0 : Int32)), (2, .int v2_L7), (1, .int v1_L7), (0, .ref a0)]) hx hb dX6_isBroken_55 rfl hl (by decide) rfl (fun ls hl => ?_)
        have hL56 : ∀ (n56 : Nat) (v2_L56 : Int32) (v3_L56 : Int32), lo2 (f_X6_isBroken_L56 c_z c_yes c_no v1_L7) n56 v2_L56 v3_L56 = some o0 → ∀ ls : Array Slot, lv_has ls 5 [(3, .int v3_L56), (2, .int v2_L56), (1, .int v1_L7), (0, .ref a0)] → W p l e (headSpec wsX6_isBroken ({ frames := 3, cells := 0, slots := 0, locals := 68 })).room s m [.ref a0].toArray below meth c s.heap [] 0 0 (MQ below (QcRead o0) [.ref a0].toArray s 0 0 (fun _ => False)) (F0 m 56 ls []) := by
          intro n56
          induction n56 with
          | zero => intro v2_L56 v3_L56 h; exact lo2_z h
          | succ n56 ih56 =>
            intro v2_L56 v3_L56 h ls hl
            have h := lo2_s h
            unfold f_X6_isBroken_L56 at h
            refine lv_iload_n hx hb dX6_isBroken_56 rfl (lv_at hl 0 rfl) ?_
            refine lv_aload_n hx hb dX6_isBroken_57 rfl (lv_at hl 3 rfl) ?_
            refine va_get (ci := 6) (v := .ref a0_z) (C := RX6) (T := TX6) (N := 21) hx hb hts iu_X6 hown hK.1 hP 0 rfl rfl 0 (by decide) (hts (.fieldLink RX6 7 "SheetMarksModel" "z" "[I") (List.mem_of_getElem? (i := 3) rfl)) (fun _ h9 => h9) rfl dX6_isBroken_58 ?_
            refine lv_iconst (v := (1 : Int32)) hx hb dX6_isBroken_61 rfl ?_
            obtain ⟨g_62, h⟩ := gd_e h
            refine va_iald hx hb hK.1 hP 1 0 rfl rfl g_62 dX6_isBroken_62 ?_
            refine lv_icmp_ge (tgt := 153) hx hb dX6_isBroken_63 (by decide) (fun c_63 => ?_) (fun c_63 => ?_)
            · have h := if_t h c_63
              refine lv_iload_n hx hb dX6_isBroken_153 rfl (lv_at hl 1 rfl) ?_
              refine lv_if_ne (tgt := 161) hx hb dX6_isBroken_154 (by decide) (fun c_154 => ?_) (fun c_154 => ?_)
              · have h := if_f h c_154
                refine lv_iconst (v := (1 : Int32)) hx hb dX6_isBroken_161 rfl ?_
                refine lv_goto (tgt := 166) hx hb dX6_isBroken_162 (by decide) ?_
                cases h
                exact eRz hx hb hr hlk rfl rfl dX6_isBroken_166
              · have h := if_t h c_154
                refine lv_iload_n hx hb dX6_isBroken_157 rfl (lv_at hl 2 rfl) ?_
                refine lv_if_eq (tgt := 165) hx hb dX6_isBroken_158 (by decide) (fun c_158 => ?_) (fun c_158 => ?_)
                · have h := if_t h c_158
                  refine lv_iconst (v := (0 : Int32)) hx hb dX6_isBroken_165 rfl ?_
                  cases h
                  exact eRz hx hb hr hlk rfl rfl dX6_isBroken_166
                · have h := if_f h c_158
                  refine lv_iconst (v := (1 : Int32)) hx hb dX6_isBroken_161 rfl ?_
                  refine lv_goto (tgt := 166) hx hb dX6_isBroken_162 (by decide) ?_
                  cases h
                  exact eRz hx hb hr hlk rfl rfl dX6_isBroken_166
            · have h := if_f h c_63
              refine lv_aload_n hx hb dX6_isBroken_66 rfl (lv_at hl 3 rfl) ?_
              refine lv_iload_n hx hb dX6_isBroken_67 rfl (lv_at hl 0 rfl) ?_
              refine lv_iconst (v := (0 : Int32)) hx hb dX6_isBroken_68 rfl ?_
              obtain ⟨r_69, q_69, h⟩ := ob1_e h
              refine cRV (wc := wX6 ck a0 a0_z a0_past a0_slots a0_isSaved a0_pad a0_yes a0_no a0_yesThen a0_noThen a0_yesRound a0_yesRule a0_noRound a0_noRule a0_orders c_z c_past c_slots c_isSaved c_pastMany c_pad c_typed c_yes c_no c_yesThen c_noThen c_yesRound c_yesRule c_noRound c_noRule c_rounds c_isMore c_orders c_orderMany c_spot c_bad) ⟨hx, hb, hml, hown, hts⟩ hK hP [0, 1, 2, 3, 4, 5, 6, 7, 8, 9, 10, 11, 12, 13, 14] rfl (c_X6_fact l dC dI ck a0 a0_z a0_past a0_slots a0_isSaved a0_pad a0_yes a0_no a0_yesThen a0_noThen a0_yesRound a0_yesRule a0_noRound a0_noRule a0_orders c_z c_past c_slots c_isSaved c_pastMany c_pad c_typed c_yes c_no c_yesThen c_noThen c_yesRound c_yesRule c_noRound c_noRule c_rounds c_isMore c_orders c_orderMany c_spot c_bad v3_L56 (0 : Int32) r_69 q_69) (cwV 2 hts gX6_isBroken_X6_fact rfl rfl rfl (by decide +kernel) ⟨Nat.le_of_ble_eq_true rfl, Nat.le_of_ble_eq_true rfl⟩) 0 rfl rfl rfl hl.1 rfl (Nat.le_of_ble_eq_true rfl) dX6_isBroken_69 ⟨Nat.zero_le _, Nat.zero_le _⟩ ?_
              refine lv_iconst (v := (2 : Int32)) hx hb dX6_isBroken_72 rfl ?_
              have hJ103 : ∀ (t0_J103 : Int32), f_X6_isBroken_J103 c_z c_yes (lo2 (f_X6_isBroken_L56 c_z c_yes c_no v1_L7) n56) v2_L56 v3_L56 t0_J103 = some o0 → ∀ ls : Array Slot, lv_has ls 5 [(3, .int v3_L56), (2, .int v2_L56), (1, .int v1_L7), (0, .ref a0)] → W p l e (headSpec wsX6_isBroken ({ frames := 3, cells := 0, slots := 0, locals := 68 })).room s m [.ref a0].toArray below meth c s.heap [] 0 0 (MQ below (QcRead o0) [.ref a0].toArray s 0 0 (fun _ => False)) (F0 m 103 ls [.int t0_J103]) := by
                intro t0_J103 h ls hl
                unfold f_X6_isBroken_J103 at h
                refine lv_istore (lv' := [(4, .int t0_J103), (3, .int v3_L56), (2, .int v2_L56), (1, .int v1_L7), (0, .ref a0)]) hx hb dX6_isBroken_103 hl (by decide) rfl (fun ls hl => ?_)
                refine lv_iload_n hx hb dX6_isBroken_105 rfl (lv_at hl 2 rfl) ?_
                refine lv_if_ne (tgt := 141) hx hb dX6_isBroken_106 (by decide) (fun c_106 => ?_) (fun c_106 => ?_)
                · have h := if_f h c_106
                  refine lv_iconst (v := (1 : Int32)) hx hb dX6_isBroken_141 rfl ?_
                  refine lv_goto (tgt := 146) hx hb dX6_isBroken_142 (by decide) ?_
                  refine lv_istore_n (lv' := [(2, .int (1 : Int32)), (4, .int t0_J103), (3, .int v3_L56), (1, .int v1_L7), (0, .ref a0)]) hx hb dX6_isBroken_146 rfl hl (by decide) rfl (fun ls hl => ?_)
                  refine lv_iinc (v := (v3_L56 + (1 : Int32))) (lv' := [(3, .int (v3_L56 + (1 : Int32))), (2, .int (1 : Int32)), (4, .int t0_J103), (1, .int v1_L7), (0, .ref a0)]) hx hb dX6_isBroken_147 hl (k := 2) rfl rfl (by decide) rfl (fun ls hl => ?_)
                  refine lv_goto (tgt := 56) hx hb dX6_isBroken_150 (by decide) ?_
                  exact ih56 _ _ h _ (lv_sub hl [0, 1, 3, 4] rfl)
                · have h := if_t h c_106
                  refine lv_iload hx hb dX6_isBroken_109 (lv_at hl 0 rfl) ?_
                  refine lv_if_ne (tgt := 141) hx hb dX6_isBroken_111 (by decide) (fun c_111 => ?_) (fun c_111 => ?_)
                  · have h := if_f h c_111
                    refine lv_iconst (v := (1 : Int32)) hx hb dX6_isBroken_141 rfl ?_
                    refine lv_goto (tgt := 146) hx hb dX6_isBroken_142 (by decide) ?_
                    refine lv_istore_n (lv' := [(2, .int (1 : Int32)), (4, .int t0_J103), (3, .int v3_L56), (1, .int v1_L7), (0, .ref a0)]) hx hb dX6_isBroken_146 rfl hl (by decide) rfl (fun ls hl => ?_)
                    refine lv_iinc (v := (v3_L56 + (1 : Int32))) (lv' := [(3, .int (v3_L56 + (1 : Int32))), (2, .int (1 : Int32)), (4, .int t0_J103), (1, .int v1_L7), (0, .ref a0)]) hx hb dX6_isBroken_147 hl (k := 2) rfl rfl (by decide) rfl (fun ls hl => ?_)
                    refine lv_goto (tgt := 56) hx hb dX6_isBroken_150 (by decide) ?_
                    exact ih56 _ _ h _ (lv_sub hl [0, 1, 3, 4] rfl)
                  · have h := if_t h c_111
                    refine lv_aload_n hx hb dX6_isBroken_114 rfl (lv_at hl 4 rfl) ?_
                    refine lv_iload_n hx hb dX6_isBroken_115 rfl (lv_at hl 1 rfl) ?_
                    refine lv_iconst (v := (0 : Int32)) hx hb dX6_isBroken_116 rfl ?_
                    obtain ⟨r_117, q_117, h⟩ := ob1_e h
                    refine cRV (wc := wX6 ck a0 a0_z a0_past a0_slots a0_isSaved a0_pad a0_yes a0_no a0_yesThen a0_noThen a0_yesRound a0_yesRule a0_noRound a0_noRule a0_orders c_z c_past c_slots c_isSaved c_pastMany c_pad c_typed c_yes c_no c_yesThen c_noThen c_yesRound c_yesRule c_noRound c_noRule c_rounds c_isMore c_orders c_orderMany c_spot c_bad) ⟨hx, hb, hml, hown, hts⟩ hK hP [0, 1, 2, 3, 4, 5, 6, 7, 8, 9, 10, 11, 12, 13, 14] rfl (c_X6_fact l dC dI ck a0 a0_z a0_past a0_slots a0_isSaved a0_pad a0_yes a0_no a0_yesThen a0_noThen a0_yesRound a0_yesRule a0_noRound a0_noRule a0_orders c_z c_past c_slots c_isSaved c_pastMany c_pad c_typed c_yes c_no c_yesThen c_noThen c_yesRound c_yesRule c_noRound c_noRule c_rounds c_isMore c_orders c_orderMany c_spot c_bad v3_L56 (0 : Int32) r_117 q_117) (cwV 2 hts gX6_isBroken_X6_fact rfl rfl rfl (by decide +kernel) ⟨Nat.le_of_ble_eq_true rfl, Nat.le_of_ble_eq_true rfl⟩) 0 rfl rfl rfl hl.1 rfl (Nat.le_of_ble_eq_true rfl) dX6_isBroken_117 ⟨Nat.zero_le _, Nat.zero_le _⟩ ?_
                    refine lv_iconst (v := (3 : Int32)) hx hb dX6_isBroken_120 rfl ?_
                    refine lv_icmp_ne (tgt := 145) hx hb dX6_isBroken_121 (by decide) (fun c_121 => ?_) (fun c_121 => ?_)
                    · have h := if_f h c_121
                      refine lv_iconst (v := (0 : Int32)) hx hb dX6_isBroken_145 rfl ?_
                      refine lv_istore_n (lv' := [(2, .int (0 : Int32)), (4, .int t0_J103), (3, .int v3_L56), (1, .int v1_L7), (0, .ref a0)]) hx hb dX6_isBroken_146 rfl hl (by decide) rfl (fun ls hl => ?_)
                      refine lv_iinc (v := (v3_L56 + (1 : Int32))) (lv' := [(3, .int (v3_L56 + (1 : Int32))), (2, .int (0 : Int32)), (4, .int t0_J103), (1, .int v1_L7), (0, .ref a0)]) hx hb dX6_isBroken_147 hl (k := 2) rfl rfl (by decide) rfl (fun ls hl => ?_)
                      refine lv_goto (tgt := 56) hx hb dX6_isBroken_150 (by decide) ?_
                      exact ih56 _ _ h _ (lv_sub hl [0, 1, 3, 4] rfl)
                    · have h := if_t h c_121
                      refine lv_aload_n hx hb dX6_isBroken_124 rfl (lv_at hl 4 rfl) ?_
                      refine lv_iload_n hx hb dX6_isBroken_125 rfl (lv_at hl 1 rfl) ?_
                      obtain ⟨r_126, q_126, h⟩ := ob1_e h
                      refine cRV (wc := wX6 ck a0 a0_z a0_past a0_slots a0_isSaved a0_pad a0_yes a0_no a0_yesThen a0_noThen a0_yesRound a0_yesRule a0_noRound a0_noRule a0_orders c_z c_past c_slots c_isSaved c_pastMany c_pad c_typed c_yes c_no c_yesThen c_noThen c_yesRound c_yesRule c_noRound c_noRule c_rounds c_isMore c_orders c_orderMany c_spot c_bad) ⟨hx, hb, hml, hown, hts⟩ hK hP [0, 1, 2, 3, 4, 5, 6, 7, 8, 9, 10, 11, 12, 13, 14] rfl (c_X6_three l dC dI ck a0 a0_z a0_past a0_slots a0_isSaved a0_pad a0_yes a0_no a0_yesThen a0_noThen a0_yesRound a0_yesRule a0_noRound a0_noRule a0_orders c_z c_past c_slots c_isSaved c_pastMany c_pad c_typed c_yes c_no c_yesThen c_noThen c_yesRound c_yesRule c_noRound c_noRule c_rounds c_isMore c_orders c_orderMany c_spot c_bad v3_L56 r_126 q_126) (cwV 1 hts gX6_isBroken_X6_three rfl rfl rfl (by decide +kernel) ⟨Nat.le_of_ble_eq_true rfl, Nat.le_of_ble_eq_true rfl⟩) 0 rfl rfl rfl hl.1 rfl (Nat.le_of_ble_eq_true rfl) dX6_isBroken_126 ⟨Nat.zero_le _, Nat.zero_le _⟩ ?_
                      refine lv_aload_n hx hb dX6_isBroken_129 rfl (lv_at hl 4 rfl) ?_
                      refine va_get (ci := 6) (v := .ref a0_yes) (C := RX6) (T := TX6) (N := 21) hx hb hts iu_X6 hown hK.1 hP 0 rfl rfl 7 (by decide) (hts (.fieldLink RX6 27 "SheetMarksModel" "yes" "[I") (List.mem_of_getElem? (i := 4) rfl)) (fun _ h9 => h9) rfl dX6_isBroken_130 ?_
                      refine lv_iconst (v := (5 : Int32)) hx hb dX6_isBroken_133 rfl ?_
                      obtain ⟨g_134, h⟩ := gd_e h
                      refine va_iald hx hb hK.1 hP 6 0 rfl rfl g_134 dX6_isBroken_134 ?_
                      refine lv_iconst (v := (-1 : Int32)) hx hb dX6_isBroken_135 rfl ?_
                      refine lv_ixor hx hb dX6_isBroken_136 ?_
                      refine lv_iand hx hb dX6_isBroken_137 ?_
                      refine lv_if_ne (tgt := 145) hx hb dX6_isBroken_138 (by decide) (fun c_138 => ?_) (fun c_138 => ?_)
                      · have h := if_f h c_138
                        refine lv_iconst (v := (0 : Int32)) hx hb dX6_isBroken_145 rfl ?_
                        refine lv_istore_n (lv' := [(2, .int (0 : Int32)), (4, .int t0_J103), (3, .int v3_L56), (1, .int v1_L7), (0, .ref a0)]) hx hb dX6_isBroken_146 rfl hl (by decide) rfl (fun ls hl => ?_)
                        refine lv_iinc (v := (v3_L56 + (1 : Int32))) (lv' := [(3, .int (v3_L56 + (1 : Int32))), (2, .int (0 : Int32)), (4, .int t0_J103), (1, .int v1_L7), (0, .ref a0)]) hx hb dX6_isBroken_147 hl (k := 2) rfl rfl (by decide) rfl (fun ls hl => ?_)
                        refine lv_goto (tgt := 56) hx hb dX6_isBroken_150 (by decide) ?_
                        exact ih56 _ _ h _ (lv_sub hl [0, 1, 3, 4] rfl)
                      · have h := if_t h c_138
                        refine lv_iconst (v := (1 : Int32)) hx hb dX6_isBroken_141 rfl ?_
                        refine lv_goto (tgt := 146) hx hb dX6_isBroken_142 (by decide) ?_
                        refine lv_istore_n (lv' := [(2, .int (1 : Int32)), (4, .int t0_J103), (3, .int v3_L56), (1, .int v1_L7), (0, .ref a0)]) hx hb dX6_isBroken_146 rfl hl (by decide) rfl (fun ls hl => ?_)
                        refine lv_iinc (v := (v3_L56 + (1 : Int32))) (lv' := [(3, .int (v3_L56 + (1 : Int32))), (2, .int (1 : Int32)), (4, .int t0_J103), (1, .int v1_L7), (0, .ref a0)]) hx hb dX6_isBroken_147 hl (k := 2) rfl rfl (by decide) rfl (fun ls hl => ?_)
                        refine lv_goto (tgt := 56) hx hb dX6_isBroken_150 (by decide) ?_
                        exact ih56 _ _ h _ (lv_sub hl [0, 1, 3, 4] rfl)
              have hJ102 : f_X6_isBroken_J102 c_z c_yes (lo2 (f_X6_isBroken_L56 c_z c_yes c_no v1_L7) n56) v2_L56 v3_L56 = some o0 → ∀ ls : Array Slot, lv_has ls 5 [(3, .int v3_L56), (2, .int v2_L56), (1, .int v1_L7), (0, .ref a0)] → W p l e (headSpec wsX6_isBroken ({ frames := 3, cells := 0, slots := 0, locals := 68 })).room s m [.ref a0].toArray below meth c s.heap [] 0 0 (MQ below (QcRead o0) [.ref a0].toArray s 0 0 (fun _ => False)) (F0 m 102 ls []) := by
                intro  h ls hl
                unfold f_X6_isBroken_J102 at h
                refine lv_iconst (v := (0 : Int32)) hx hb dX6_isBroken_102 rfl ?_
                exact hJ103 _ h _ (lv_sub hl [0, 1, 2, 3] rfl)
              refine lv_icmp_ne (tgt := 102) hx hb dX6_isBroken_73 (by decide) (fun c_73 => ?_) (fun c_73 => ?_)
              · have h := if_f h c_73
                exact hJ102 h _ (lv_sub hl [0, 1, 2, 3] rfl)
              · have h := if_t h c_73
                refine lv_aload_n hx hb dX6_isBroken_76 rfl (lv_at hl 3 rfl) ?_
                refine lv_iload_n hx hb dX6_isBroken_77 rfl (lv_at hl 0 rfl) ?_
                obtain ⟨r_78, q_78, h⟩ := ob1_e h
                refine cRV (wc := wX6 ck a0 a0_z a0_past a0_slots a0_isSaved a0_pad a0_yes a0_no a0_yesThen a0_noThen a0_yesRound a0_yesRule a0_noRound a0_noRule a0_orders c_z c_past c_slots c_isSaved c_pastMany c_pad c_typed c_yes c_no c_yesThen c_noThen c_yesRound c_yesRule c_noRound c_noRule c_rounds c_isMore c_orders c_orderMany c_spot c_bad) ⟨hx, hb, hml, hown, hts⟩ hK hP [0, 1, 2, 3, 4, 5, 6, 7, 8, 9, 10, 11, 12, 13, 14] rfl (c_X6_three l dC dI ck a0 a0_z a0_past a0_slots a0_isSaved a0_pad a0_yes a0_no a0_yesThen a0_noThen a0_yesRound a0_yesRule a0_noRound a0_noRule a0_orders c_z c_past c_slots c_isSaved c_pastMany c_pad c_typed c_yes c_no c_yesThen c_noThen c_yesRound c_yesRule c_noRound c_noRule c_rounds c_isMore c_orders c_orderMany c_spot c_bad v3_L56 r_78 q_78) (cwV 1 hts gX6_isBroken_X6_three rfl rfl rfl (by decide +kernel) ⟨Nat.le_of_ble_eq_true rfl, Nat.le_of_ble_eq_true rfl⟩) 0 rfl rfl rfl hl.1 rfl (Nat.le_of_ble_eq_true rfl) dX6_isBroken_78 ⟨Nat.zero_le _, Nat.zero_le _⟩ ?_
                refine lv_aload_n hx hb dX6_isBroken_81 rfl (lv_at hl 3 rfl) ?_
                refine va_get (ci := 6) (v := .ref a0_no) (C := RX6) (T := TX6) (N := 21) hx hb hts iu_X6 hown hK.1 hP 0 rfl rfl 8 (by decide) (hts (.fieldLink RX6 30 "SheetMarksModel" "no" "[I") (List.mem_of_getElem? (i := 2) rfl)) (fun _ h9 => h9) rfl dX6_isBroken_82 ?_
                refine lv_aload_n hx hb dX6_isBroken_85 rfl (lv_at hl 3 rfl) ?_
                refine lv_iload_n hx hb dX6_isBroken_86 rfl (lv_at hl 0 rfl) ?_
                refine lv_iconst (v := (1 : Int32)) hx hb dX6_isBroken_87 rfl ?_
                obtain ⟨r_88, q_88, h⟩ := ob1_e h
                refine cRV (wc := wX6 ck a0 a0_z a0_past a0_slots a0_isSaved a0_pad a0_yes a0_no a0_yesThen a0_noThen a0_yesRound a0_yesRule a0_noRound a0_noRule a0_orders c_z c_past c_slots c_isSaved c_pastMany c_pad c_typed c_yes c_no c_yesThen c_noThen c_yesRound c_yesRule c_noRound c_noRule c_rounds c_isMore c_orders c_orderMany c_spot c_bad) ⟨hx, hb, hml, hown, hts⟩ hK hP [0, 1, 2, 3, 4, 5, 6, 7, 8, 9, 10, 11, 12, 13, 14] rfl (c_X6_fact l dC dI ck a0 a0_z a0_past a0_slots a0_isSaved a0_pad a0_yes a0_no a0_yesThen a0_noThen a0_yesRound a0_yesRule a0_noRound a0_noRule a0_orders c_z c_past c_slots c_isSaved c_pastMany c_pad c_typed c_yes c_no c_yesThen c_noThen c_yesRound c_yesRule c_noRound c_noRule c_rounds c_isMore c_orders c_orderMany c_spot c_bad v3_L56 (1 : Int32) r_88 q_88) (cwV 2 hts gX6_isBroken_X6_fact rfl rfl rfl (by decide +kernel) ⟨Nat.le_of_ble_eq_true rfl, Nat.le_of_ble_eq_true rfl⟩) 0 rfl rfl rfl hl.1 rfl (Nat.le_of_ble_eq_true rfl) dX6_isBroken_88 ⟨Nat.zero_le _, Nat.zero_le _⟩ ?_
                obtain ⟨g_91, h⟩ := gd_e h
                refine va_iald hx hb hK.1 hP 7 0 rfl rfl g_91 dX6_isBroken_91 ?_
                refine lv_iconst (v := (-1 : Int32)) hx hb dX6_isBroken_92 rfl ?_
                refine lv_ixor hx hb dX6_isBroken_93 ?_
                refine lv_iand hx hb dX6_isBroken_94 ?_
                refine lv_if_ne (tgt := 102) hx hb dX6_isBroken_95 (by decide) (fun c_95 => ?_) (fun c_95 => ?_)
                · have h := if_f h c_95
                  exact hJ102 h _ (lv_sub hl [0, 1, 2, 3] rfl)
                · have h := if_t h c_95
                  refine lv_iconst (v := (1 : Int32)) hx hb dX6_isBroken_98 rfl ?_
                  refine lv_goto (tgt := 103) hx hb dX6_isBroken_99 (by decide) ?_
                  exact hJ103 _ h _ (lv_sub hl [0, 1, 2, 3] rfl)
        exact hL56 _ _ _ h _ (lv_sub hl [0, 1, 2, 3] rfl)
      · have h := if_f h c_10
        refine lv_aload_n hx hb dX6_isBroken_13 rfl (lv_at hl 3 rfl) ?_
        refine lv_iload_n hx hb dX6_isBroken_14 rfl (lv_at hl 0 rfl) ?_
        obtain ⟨r_15, q_15, h⟩ := ob1_e h
        refine cRV (wc := wX6 ck a0 a0_z a0_past a0_slots a0_isSaved a0_pad a0_yes a0_no a0_yesThen a0_noThen a0_yesRound a0_yesRule a0_noRound a0_noRule a0_orders c_z c_past c_slots c_isSaved c_pastMany c_pad c_typed c_yes c_no c_yesThen c_noThen c_yesRound c_yesRule c_noRound c_noRule c_rounds c_isMore c_orders c_orderMany c_spot c_bad) ⟨hx, hb, hml, hown, hts⟩ hK hP [0, 1, 2, 3, 4, 5, 6, 7, 8, 9, 10, 11, 12, 13, 14] rfl (c_X6_isOwner l dC dI ck a0 a0_z a0_past a0_slots a0_isSaved a0_pad a0_yes a0_no a0_yesThen a0_noThen a0_yesRound a0_yesRule a0_noRound a0_noRule a0_orders c_z c_past c_slots c_isSaved c_pastMany c_pad c_typed c_yes c_no c_yesThen c_noThen c_yesRound c_yesRule c_noRound c_noRule c_rounds c_isMore c_orders c_orderMany c_spot c_bad v3_L7 r_15 q_15) (cwV 1 hts gX6_isBroken_X6_isOwner rfl rfl rfl (by decide +kernel) ⟨Nat.le_of_ble_eq_true rfl, Nat.le_of_ble_eq_true rfl⟩) 0 rfl rfl rfl hl.1 rfl (Nat.le_of_ble_eq_true rfl) dX6_isBroken_15 ⟨Nat.zero_le _, Nat.zero_le _⟩ ?_
        refine lv_if_eq (tgt := 48) hx hb dX6_isBroken_18 (by decide) (fun c_18 => ?_) (fun c_18 => ?_)
        · have h := if_t h c_18
          refine lv_iinc (v := (v3_L7 + (1 : Int32))) (lv' := [(3, .int (v3_L7 + (1 : Int32))), (2, .int v2_L7), (1, .int v1_L7), (0, .ref a0)]) hx hb dX6_isBroken_48 hl (k := 0) rfl rfl (by decide) rfl (fun ls hl => ?_)
          refine lv_goto (tgt := 7) hx hb dX6_isBroken_51 (by decide) ?_
          exact ih7 _ _ _ h _ (lv_sub hl [0, 1, 2, 3] rfl)
        · have h := if_f h c_18
          refine lv_iload_n hx hb dX6_isBroken_21 rfl (lv_at hl 2 rfl) ?_
          refine lv_aload_n hx hb dX6_isBroken_22 rfl (lv_at hl 3 rfl) ?_
          refine va_get (ci := 6) (v := .ref a0_no) (C := RX6) (T := TX6) (N := 21) hx hb hts iu_X6 hown hK.1 hP 0 rfl rfl 8 (by decide) (hts (.fieldLink RX6 30 "SheetMarksModel" "no" "[I") (List.mem_of_getElem? (i := 2) rfl)) (fun _ h9 => h9) rfl dX6_isBroken_23 ?_
          refine lv_iload_n hx hb dX6_isBroken_26 rfl (lv_at hl 0 rfl) ?_
          obtain ⟨g_27, h⟩ := gd_e h
          refine va_iald hx hb hK.1 hP 7 0 rfl rfl g_27 dX6_isBroken_27 ?_
          refine lv_iand hx hb dX6_isBroken_28 ?_
          refine lv_topi (fun v1_29 e_29 => ?_)
          have h := lt'_e e_29 h
          refine lv_istore_n (lv' := [(1, .int v1_29), (3, .int v3_L7), (2, .int v2_L7), (0, .ref a0)]) hx hb dX6_isBroken_29 rfl hl (by decide) rfl (fun ls hl => ?_)
          refine lv_iload_n hx hb dX6_isBroken_30 rfl (lv_at hl 2 rfl) ?_
          refine lv_if_ne (tgt := 42) hx hb dX6_isBroken_31 (by decide) (fun c_31 => ?_) (fun c_31 => ?_)
          · have h := if_f h c_31
            refine lv_iconst (v := (1 : Int32)) hx hb dX6_isBroken_42 rfl ?_
            refine lv_goto (tgt := 47) hx hb dX6_isBroken_43 (by decide) ?_
            refine lv_istore_n (lv' := [(2, .int (1 : Int32)), (1, .int v1_29), (3, .int v3_L7), (0, .ref a0)]) hx hb dX6_isBroken_47 rfl hl (by decide) rfl (fun ls hl => ?_)
            refine lv_iinc (v := (v3_L7 + (1 : Int32))) (lv' := [(3, .int (v3_L7 + (1 : Int32))), (2, .int (1 : Int32)), (1, .int v1_29), (0, .ref a0)]) hx hb dX6_isBroken_48 hl (k := 2) rfl rfl (by decide) rfl (fun ls hl => ?_)
            refine lv_goto (tgt := 7) hx hb dX6_isBroken_51 (by decide) ?_
            exact ih7 _ _ _ h _ (lv_sub hl [0, 1, 2, 3] rfl)
          · have h := if_t h c_31
            refine lv_aload_n hx hb dX6_isBroken_34 rfl (lv_at hl 3 rfl) ?_
            refine lv_iload_n hx hb dX6_isBroken_35 rfl (lv_at hl 1 rfl) ?_
            obtain ⟨r_36, q_36, h⟩ := ob1_e h
            refine cRV (wc := wX6 ck a0 a0_z a0_past a0_slots a0_isSaved a0_pad a0_yes a0_no a0_yesThen a0_noThen a0_yesRound a0_yesRule a0_noRound a0_noRule a0_orders c_z c_past c_slots c_isSaved c_pastMany c_pad c_typed c_yes c_no c_yesThen c_noThen c_yesRound c_yesRule c_noRound c_noRule c_rounds c_isMore c_orders c_orderMany c_spot c_bad) ⟨hx, hb, hml, hown, hts⟩ hK hP [0, 1, 2, 3, 4, 5, 6, 7, 8, 9, 10, 11, 12, 13, 14] rfl (c_X6_isOwnerBroken l dC dI ck a0 a0_z a0_past a0_slots a0_isSaved a0_pad a0_yes a0_no a0_yesThen a0_noThen a0_yesRound a0_yesRule a0_noRound a0_noRule a0_orders c_z c_past c_slots c_isSaved c_pastMany c_pad c_typed c_yes c_no c_yesThen c_noThen c_yesRound c_yesRule c_noRound c_noRule c_rounds c_isMore c_orders c_orderMany c_spot c_bad v3_L7 r_36 q_36) (cwV 1 hts gX6_isBroken_X6_isOwnerBroken rfl rfl rfl (by decide +kernel) ⟨Nat.le_of_ble_eq_true rfl, Nat.le_of_ble_eq_true rfl⟩) 0 rfl rfl rfl hl.1 rfl (Nat.le_of_ble_eq_true rfl) dX6_isBroken_36 ⟨Nat.zero_le _, Nat.zero_le _⟩ ?_
            refine lv_if_eq (tgt := 46) hx hb dX6_isBroken_39 (by decide) (fun c_39 => ?_) (fun c_39 => ?_)
            · have h := if_t h c_39
              refine lv_iconst (v := (0 : Int32)) hx hb dX6_isBroken_46 rfl ?_
              refine lv_istore_n (lv' := [(2, .int (0 : Int32)), (1, .int v1_29), (3, .int v3_L7), (0, .ref a0)]) hx hb dX6_isBroken_47 rfl hl (by decide) rfl (fun ls hl => ?_)
              refine lv_iinc (v := (v3_L7 + (1 : Int32))) (lv' := [(3, .int (v3_L7 + (1 : Int32))), (2, .int (0 : Int32)), (1, .int v1_29), (0, .ref a0)]) hx hb dX6_isBroken_48 hl (k := 2) rfl rfl (by decide) rfl (fun ls hl => ?_)
              refine lv_goto (tgt := 7) hx hb dX6_isBroken_51 (by decide) ?_
              exact ih7 _ _ _ h _ (lv_sub hl [0, 1, 2, 3] rfl)
            · have h := if_f h c_39
              refine lv_iconst (v := (1 : Int32)) hx hb dX6_isBroken_42 rfl ?_
              refine lv_goto (tgt := 47) hx hb dX6_isBroken_43 (by decide) ?_
              refine lv_istore_n (lv' := [(2, .int (1 : Int32)), (1, .int v1_29), (3, .int v3_L7), (0, .ref a0)]) hx hb dX6_isBroken_47 rfl hl (by decide) rfl (fun ls hl => ?_)
              refine lv_iinc (v := (v3_L7 + (1 : Int32))) (lv' := [(3, .int (v3_L7 + (1 : Int32))), (2, .int (1 : Int32)), (1, .int v1_29), (0, .ref a0)]) hx hb dX6_isBroken_48 hl (k := 2) rfl rfl (by decide) rfl (fun ls hl => ?_)
              refine lv_goto (tgt := 7) hx hb dX6_isBroken_51 (by decide) ?_
              exact ih7 _ _ _ h _ (lv_sub hl [0, 1, 2, 3] rfl)
  exact hL7 _ _ _ _ h _ (lv_sub hl [0, 1, 2, 3] rfl)
noncomputable def f_X6_yesMany_L4 (c_yes : Nat → Int32) (rec4 : Int32 → Int32 → Option (Int32)) (v1_L4 : Int32) (v2_L4 : Int32) : Option (Int32) :=
  if (6 : Int32) ≤ v2_L4 then (some v1_L4) else (gd v2_L4 6 (ob1 (f_X6_bits (c_yes v2_L4.toNatClampNeg)) (fun (r_17 : Int32) => lt' (v1_L4 + r_17) (fun v1_21 : Int32 => rec4 v1_21 (v2_L4 + (1 : Int32))))))
noncomputable def f_X6_yesMany (c_yes : Nat → Int32) : Option (Int32) :=
  lo2 (f_X6_yesMany_L4 c_yes) FU (0 : Int32) (0 : Int32)
set_option maxHeartbeats 4000000 in
set_option maxRecDepth 100000 in
theorem c_X6_yesMany (l : Launch) (dC : Nat → ClassId) (dI : Nat → Nat → Nat) (ck : Nat → ClassId) (a0 a0_z a0_past a0_slots a0_isSaved a0_pad a0_yes a0_no a0_yesThen a0_noThen a0_yesRound a0_yesRule a0_noRound a0_noRule a0_orders : Nat) (c_z : Nat → Int32) (c_past : Nat → Int32) (c_slots : Nat → Int32) (c_isSaved : Nat → Int32) (c_pastMany : Int32) (c_pad : Nat → Int32) (c_typed : Int32) (c_yes : Nat → Int32) (c_no : Nat → Int32) (c_yesThen : Nat → Int32) (c_noThen : Nat → Int32) (c_yesRound : Nat → Int32) (c_yesRule : Nat → Int32) (c_noRound : Nat → Int32) (c_noRule : Nat → Int32) (c_rounds : Int32) (c_isMore : Int32) (c_orders : Nat → Int32) (c_orderMany : Int32) (c_spot : Int32) (c_bad : Int32) (o0 : Int32) (h : f_X6_yesMany c_yes = some o0) : RD l yX6_yesMany wsX6_yesMany ({ frames := 1, cells := 0, slots := 0, locals := 22 }) [.ref a0] (dC, dI) ck (wX6 ck a0 a0_z a0_past a0_slots a0_isSaved a0_pad a0_yes a0_no a0_yesThen a0_noThen a0_yesRound a0_yesRule a0_noRound a0_noRule a0_orders c_z c_past c_slots c_isSaved c_pastMany c_pad c_typed c_yes c_no c_yesThen c_noThen c_yesRound c_yesRule c_noRound c_noRule c_rounds c_isMore c_orders c_orderMany c_spot c_bad) o0 := by
  refine RD.ofW (cc := cX6_yesMany) (maxL := 3) (ret := (some .int)) (by decide +kernel) rfl (Nat.le_of_ble_eq_true rfl) ?_
  intro p e s m below meth c hx hb hr hml hts hown hlk hK hP ls hl
  have hown : s.vm.findClass RX6 = some m.cls := hown
  have hl : lv_has ls 3 [(0, .ref a0)] := hl
  have iu_X6 : ∀ w ∈ u_ws RX6 TX6 21, w ∈ wsX6_yesMany := fun w h => List.mem_cons_of_mem _ (List.mem_append_right _ h)
  unfold f_X6_yesMany at h
  refine lv_iconst (v := (0 : Int32)) hx hb dX6_yesMany_0 rfl ?_
  refine lv_istore_n (lv' := [(1, .int (0 : Int32)), (0, .ref a0)]) hx hb dX6_yesMany_1 rfl hl (by decide) rfl (fun ls hl => ?_)
  refine lv_iconst (v := (0 : Int32)) hx hb dX6_yesMany_2 rfl ?_
  refine lv_istore_n (lv' := [(2, .int (0 : Int32)), (1, .int (0 : Int32)), (0, .ref a0)]) hx hb dX6_yesMany_3 rfl hl (by decide) rfl (fun ls hl => ?_)
  have hL4 : ∀ (n4 : Nat) (v1_L4 : Int32) (v2_L4 : Int32), lo2 (f_X6_yesMany_L4 c_yes) n4 v1_L4 v2_L4 = some o0 → ∀ ls : Array Slot, lv_has ls 3 [(2, .int v2_L4), (1, .int v1_L4), (0, .ref a0)] → W p l e (headSpec wsX6_yesMany ({ frames := 1, cells := 0, slots := 0, locals := 22 })).room s m [.ref a0].toArray below meth c s.heap [] 0 0 (MQ below (QcRead o0) [.ref a0].toArray s 0 0 (fun _ => False)) (F0 m 4 ls []) := by
    intro n4
    induction n4 with
    | zero => intro v1_L4 v2_L4 h; exact lo2_z h
    | succ n4 ih4 =>
      intro v1_L4 v2_L4 h ls hl
      have h := lo2_s h
      unfold f_X6_yesMany_L4 at h
      refine lv_iload_n hx hb dX6_yesMany_4 rfl (lv_at hl 0 rfl) ?_
      refine lv_bipush (v := (6 : Int32)) hx hb dX6_yesMany_5 rfl ?_
      refine lv_icmp_ge (tgt := 28) hx hb dX6_yesMany_7 (by decide) (fun c_7 => ?_) (fun c_7 => ?_)
      · have h := if_t h c_7
        refine lv_iload_n hx hb dX6_yesMany_28 rfl (lv_at hl 1 rfl) ?_
        cases h
        exact eRi hx hb hr hlk rfl dX6_yesMany_29
      · have h := if_f h c_7
        refine lv_iload_n hx hb dX6_yesMany_10 rfl (lv_at hl 1 rfl) ?_
        refine lv_aload_n hx hb dX6_yesMany_11 rfl (lv_at hl 2 rfl) ?_
        refine va_get (ci := 6) (v := .ref a0_yes) (C := RX6) (T := TX6) (N := 21) hx hb hts iu_X6 hown hK.1 hP 0 rfl rfl 7 (by decide) (hts (.fieldLink RX6 27 "SheetMarksModel" "yes" "[I") (List.mem_of_getElem? (i := 1) rfl)) (fun _ h9 => h9) rfl dX6_yesMany_12 ?_
        refine lv_iload_n hx hb dX6_yesMany_15 rfl (lv_at hl 0 rfl) ?_
        obtain ⟨g_16, h⟩ := gd_e h
        refine va_iald hx hb hK.1 hP 6 0 rfl rfl g_16 dX6_yesMany_16 ?_
        obtain ⟨r_17, q_17, h⟩ := ob1_e h
        refine cRS (wc := []) ⟨hx, hb, hml, hown, hts⟩ hK hP [] rfl (c_X6_bits l dC dI ck (c_yes v2_L4.toNatClampNeg) r_17 q_17) (va_cwS 1 hts gX6_yesMany_X6_bits rfl rfl rfl (by decide +kernel) ⟨Nat.le_of_ble_eq_true rfl, Nat.le_of_ble_eq_true rfl⟩) rfl hl.1 rfl (Nat.le_of_ble_eq_true rfl) dX6_yesMany_17 ⟨Nat.zero_le _, Nat.zero_le _⟩ ?_
        refine lv_iadd hx hb dX6_yesMany_20 ?_
        refine lv_topi (fun v1_21 e_21 => ?_)
        have h := lt'_e e_21 h
        refine lv_istore_n (lv' := [(1, .int v1_21), (2, .int v2_L4), (0, .ref a0)]) hx hb dX6_yesMany_21 rfl hl (by decide) rfl (fun ls hl => ?_)
        refine lv_iinc (v := (v2_L4 + (1 : Int32))) (lv' := [(2, .int (v2_L4 + (1 : Int32))), (1, .int v1_21), (0, .ref a0)]) hx hb dX6_yesMany_22 hl (k := 1) rfl rfl (by decide) rfl (fun ls hl => ?_)
        refine lv_goto (tgt := 4) hx hb dX6_yesMany_25 (by decide) ?_
        exact ih4 _ _ h _ (lv_sub hl [0, 1, 2] rfl)
  exact hL4 _ _ _ h _ (lv_sub hl [0, 1, 2] rfl)
noncomputable def f_X6_noMany_L4 (c_no : Nat → Int32) (rec4 : Int32 → Int32 → Option (Int32)) (v1_L4 : Int32) (v2_L4 : Int32) : Option (Int32) :=
  if (6 : Int32) ≤ v2_L4 then (some v1_L4) else (gd v2_L4 6 (ob1 (f_X6_bits (c_no v2_L4.toNatClampNeg)) (fun (r_17 : Int32) => lt' (v1_L4 + r_17) (fun v1_21 : Int32 => rec4 v1_21 (v2_L4 + (1 : Int32))))))
noncomputable def f_X6_noMany (c_no : Nat → Int32) : Option (Int32) :=
  lo2 (f_X6_noMany_L4 c_no) FU (0 : Int32) (0 : Int32)
set_option maxHeartbeats 4000000 in
set_option maxRecDepth 100000 in
theorem c_X6_noMany (l : Launch) (dC : Nat → ClassId) (dI : Nat → Nat → Nat) (ck : Nat → ClassId) (a0 a0_z a0_past a0_slots a0_isSaved a0_pad a0_yes a0_no a0_yesThen a0_noThen a0_yesRound a0_yesRule a0_noRound a0_noRule a0_orders : Nat) (c_z : Nat → Int32) (c_past : Nat → Int32) (c_slots : Nat → Int32) (c_isSaved : Nat → Int32) (c_pastMany : Int32) (c_pad : Nat → Int32) (c_typed : Int32) (c_yes : Nat → Int32) (c_no : Nat → Int32) (c_yesThen : Nat → Int32) (c_noThen : Nat → Int32) (c_yesRound : Nat → Int32) (c_yesRule : Nat → Int32) (c_noRound : Nat → Int32) (c_noRule : Nat → Int32) (c_rounds : Int32) (c_isMore : Int32) (c_orders : Nat → Int32) (c_orderMany : Int32) (c_spot : Int32) (c_bad : Int32) (o0 : Int32) (h : f_X6_noMany c_no = some o0) : RD l yX6_noMany wsX6_noMany ({ frames := 1, cells := 0, slots := 0, locals := 22 }) [.ref a0] (dC, dI) ck (wX6 ck a0 a0_z a0_past a0_slots a0_isSaved a0_pad a0_yes a0_no a0_yesThen a0_noThen a0_yesRound a0_yesRule a0_noRound a0_noRule a0_orders c_z c_past c_slots c_isSaved c_pastMany c_pad c_typed c_yes c_no c_yesThen c_noThen c_yesRound c_yesRule c_noRound c_noRule c_rounds c_isMore c_orders c_orderMany c_spot c_bad) o0 := by
  refine RD.ofW (cc := cX6_noMany) (maxL := 3) (ret := (some .int)) (by decide +kernel) rfl (Nat.le_of_ble_eq_true rfl) ?_
  intro p e s m below meth c hx hb hr hml hts hown hlk hK hP ls hl
  have hown : s.vm.findClass RX6 = some m.cls := hown
  have hl : lv_has ls 3 [(0, .ref a0)] := hl
  have iu_X6 : ∀ w ∈ u_ws RX6 TX6 21, w ∈ wsX6_noMany := fun w h => List.mem_cons_of_mem _ (List.mem_append_right _ h)
  unfold f_X6_noMany at h
  refine lv_iconst (v := (0 : Int32)) hx hb dX6_noMany_0 rfl ?_
  refine lv_istore_n (lv' := [(1, .int (0 : Int32)), (0, .ref a0)]) hx hb dX6_noMany_1 rfl hl (by decide) rfl (fun ls hl => ?_)
  refine lv_iconst (v := (0 : Int32)) hx hb dX6_noMany_2 rfl ?_
  refine lv_istore_n (lv' := [(2, .int (0 : Int32)), (1, .int (0 : Int32)), (0, .ref a0)]) hx hb dX6_noMany_3 rfl hl (by decide) rfl (fun ls hl => ?_)
  have hL4 : ∀ (n4 : Nat) (v1_L4 : Int32) (v2_L4 : Int32), lo2 (f_X6_noMany_L4 c_no) n4 v1_L4 v2_L4 = some o0 → ∀ ls : Array Slot, lv_has ls 3 [(2, .int v2_L4), (1, .int v1_L4), (0, .ref a0)] → W p l e (headSpec wsX6_noMany ({ frames := 1, cells := 0, slots := 0, locals := 22 })).room s m [.ref a0].toArray below meth c s.heap [] 0 0 (MQ below (QcRead o0) [.ref a0].toArray s 0 0 (fun _ => False)) (F0 m 4 ls []) := by
    intro n4
    induction n4 with
    | zero => intro v1_L4 v2_L4 h; exact lo2_z h
    | succ n4 ih4 =>
      intro v1_L4 v2_L4 h ls hl
      have h := lo2_s h
      unfold f_X6_noMany_L4 at h
      refine lv_iload_n hx hb dX6_noMany_4 rfl (lv_at hl 0 rfl) ?_
      refine lv_bipush (v := (6 : Int32)) hx hb dX6_noMany_5 rfl ?_
      refine lv_icmp_ge (tgt := 28) hx hb dX6_noMany_7 (by decide) (fun c_7 => ?_) (fun c_7 => ?_)
      · have h := if_t h c_7
        refine lv_iload_n hx hb dX6_noMany_28 rfl (lv_at hl 1 rfl) ?_
        cases h
        exact eRi hx hb hr hlk rfl dX6_noMany_29
      · have h := if_f h c_7
        refine lv_iload_n hx hb dX6_noMany_10 rfl (lv_at hl 1 rfl) ?_
        refine lv_aload_n hx hb dX6_noMany_11 rfl (lv_at hl 2 rfl) ?_
        refine va_get (ci := 6) (v := .ref a0_no) (C := RX6) (T := TX6) (N := 21) hx hb hts iu_X6 hown hK.1 hP 0 rfl rfl 8 (by decide) (hts (.fieldLink RX6 30 "SheetMarksModel" "no" "[I") (List.mem_of_getElem? (i := 1) rfl)) (fun _ h9 => h9) rfl dX6_noMany_12 ?_
        refine lv_iload_n hx hb dX6_noMany_15 rfl (lv_at hl 0 rfl) ?_
        obtain ⟨g_16, h⟩ := gd_e h
        refine va_iald hx hb hK.1 hP 7 0 rfl rfl g_16 dX6_noMany_16 ?_
        obtain ⟨r_17, q_17, h⟩ := ob1_e h
        refine cRS (wc := []) ⟨hx, hb, hml, hown, hts⟩ hK hP [] rfl (c_X6_bits l dC dI ck (c_no v2_L4.toNatClampNeg) r_17 q_17) (va_cwS 1 hts gX6_noMany_X6_bits rfl rfl rfl (by decide +kernel) ⟨Nat.le_of_ble_eq_true rfl, Nat.le_of_ble_eq_true rfl⟩) rfl hl.1 rfl (Nat.le_of_ble_eq_true rfl) dX6_noMany_17 ⟨Nat.zero_le _, Nat.zero_le _⟩ ?_
        refine lv_iadd hx hb dX6_noMany_20 ?_
        refine lv_topi (fun v1_21 e_21 => ?_)
        have h := lt'_e e_21 h
        refine lv_istore_n (lv' := [(1, .int v1_21), (2, .int v2_L4), (0, .ref a0)]) hx hb dX6_noMany_21 rfl hl (by decide) rfl (fun ls hl => ?_)
        refine lv_iinc (v := (v2_L4 + (1 : Int32))) (lv' := [(2, .int (v2_L4 + (1 : Int32))), (1, .int v1_21), (0, .ref a0)]) hx hb dX6_noMany_22 hl (k := 1) rfl rfl (by decide) rfl (fun ls hl => ?_)
        refine lv_goto (tgt := 4) hx hb dX6_noMany_25 (by decide) ?_
        exact ih4 _ _ h _ (lv_sub hl [0, 1, 2] rfl)
  exact hL4 _ _ _ h _ (lv_sub hl [0, 1, 2] rfl)
noncomputable def f_X6_marks (c_z : Nat → Int32) (c_yes : Nat → Int32) (c_no : Nat → Int32) (c_yesThen : Nat → Int32) (c_noThen : Nat → Int32) (c_yesRound : Nat → Int32) (c_yesRule : Nat → Int32) (c_noRound : Nat → Int32) (c_noRule : Nat → Int32) (c_rounds : Int32) (c_isMore : Int32) : Option (Int32 × (Nat → Int32) × (Nat → Int32) × (Nat → Int32) × (Nat → Int32) × (Nat → Int32) × (Nat → Int32) × (Nat → Int32) × (Nat → Int32) × Int32 × Int32) :=
  ob10 (f_X6_lay c_z c_yes c_no c_yesThen c_noThen c_yesRound c_yesRule c_noRound c_noRule c_rounds c_isMore) (fun (c_yes_1 : Nat → Int32) (c_no_1 : Nat → Int32) (c_yesThen_1 : Nat → Int32) (c_noThen_1 : Nat → Int32) (c_yesRound_1 : Nat → Int32) (c_yesRule_1 : Nat → Int32) (c_noRound_1 : Nat → Int32) (c_noRule_1 : Nat → Int32) (c_rounds_1 : Int32) (c_isMore_1 : Int32) => ob1 (f_X6_yesMany c_yes_1) (fun (r_5 : Int32) => ob1 (f_X6_noMany c_no_1) (fun (r_9 : Int32) => some ((r_5 + r_9), c_yes_1, c_no_1, c_yesThen_1, c_noThen_1, c_yesRound_1, c_yesRule_1, c_noRound_1, c_noRule_1, c_rounds_1, c_isMore_1))))
set_option maxHeartbeats 4000000 in
set_option maxRecDepth 100000 in
theorem c_X6_marks (l : Launch) (dC : Nat → ClassId) (dI : Nat → Nat → Nat) (ck : Nat → ClassId) (a0 a0_z a0_past a0_slots a0_isSaved a0_pad a0_yes a0_no a0_yesThen a0_noThen a0_yesRound a0_yesRule a0_noRound a0_noRule a0_orders : Nat) (c_z : Nat → Int32) (c_past : Nat → Int32) (c_slots : Nat → Int32) (c_isSaved : Nat → Int32) (c_pastMany : Int32) (c_pad : Nat → Int32) (c_typed : Int32) (c_yes : Nat → Int32) (c_no : Nat → Int32) (c_yesThen : Nat → Int32) (c_noThen : Nat → Int32) (c_yesRound : Nat → Int32) (c_yesRule : Nat → Int32) (c_noRound : Nat → Int32) (c_noRule : Nat → Int32) (c_rounds : Int32) (c_isMore : Int32) (c_orders : Nat → Int32) (c_orderMany : Int32) (c_spot : Int32) (c_bad : Int32) (o0 : Int32) (o1 : Nat → Int32) (o2 : Nat → Int32) (o3 : Nat → Int32) (o4 : Nat → Int32) (o5 : Nat → Int32) (o6 : Nat → Int32) (o7 : Nat → Int32) (o8 : Nat → Int32) (o9 : Int32) (o10 : Int32) (h : f_X6_marks c_z c_yes c_no c_yesThen c_noThen c_yesRound c_yesRule c_noRound c_noRule c_rounds c_isMore = some (o0, o1, o2, o3, o4, o5, o6, o7, o8, o9, o10)) : MI l yX6_marks wsX6_marks ({ frames := 6, cells := 0, slots := 0, locals := 139 }) [.ref a0] (dC, dI) ck (wX6 ck a0 a0_z a0_past a0_slots a0_isSaved a0_pad a0_yes a0_no a0_yesThen a0_noThen a0_yesRound a0_yesRule a0_noRound a0_noRule a0_orders c_z c_past c_slots c_isSaved c_pastMany c_pad c_typed c_yes c_no c_yesThen c_noThen c_yesRound c_yesRule c_noRound c_noRule c_rounds c_isMore c_orders c_orderMany c_spot c_bad) (wX6 ck a0 a0_z a0_past a0_slots a0_isSaved a0_pad a0_yes a0_no a0_yesThen a0_noThen a0_yesRound a0_yesRule a0_noRound a0_noRule a0_orders c_z c_past c_slots c_isSaved c_pastMany c_pad c_typed o1 o2 o3 o4 o5 o6 o7 o8 o9 o10 c_orders c_orderMany c_spot c_bad) o0 := by
  refine MI.ofW (cc := cX6_marks) (maxL := 1) (ret := (some .int)) (by decide +kernel) rfl (Nat.le_of_ble_eq_true rfl) ?_
  intro p e s m below meth c hx hb hr hml hts hown hlk hK hP A hA hD ls hl
  have hS : va_S A s.heap s.heap [] := va_S.rf
  have hown : s.vm.findClass RX6 = some m.cls := hown
  have hl : lv_has ls 1 [(0, .ref a0)] := hl
  unfold f_X6_marks at h
  refine lv_aload_n hx hb dX6_marks_0 rfl (lv_at hl 0 rfl) ?_
  obtain ⟨c_yes_1, c_no_1, c_yesThen_1, c_noThen_1, c_yesRound_1, c_yesRule_1, c_noRound_1, c_noRule_1, c_rounds_1, c_isMore_1, q_1, h⟩ := ob10_e h
  refine cMV (wc := wX6 ck a0 a0_z a0_past a0_slots a0_isSaved a0_pad a0_yes a0_no a0_yesThen a0_noThen a0_yesRound a0_yesRule a0_noRound a0_noRule a0_orders c_z c_past c_slots c_isSaved c_pastMany c_pad c_typed c_yes c_no c_yesThen c_noThen c_yesRound c_yesRule c_noRound c_noRule c_rounds c_isMore c_orders c_orderMany c_spot c_bad) (wr := []) (w1 := wX6 ck a0 a0_z a0_past a0_slots a0_isSaved a0_pad a0_yes a0_no a0_yesThen a0_noThen a0_yesRound a0_yesRule a0_noRound a0_noRule a0_orders c_z c_past c_slots c_isSaved c_pastMany c_pad c_typed c_yes_1 c_no_1 c_yesThen_1 c_noThen_1 c_yesRound_1 c_yesRule_1 c_noRound_1 c_noRule_1 c_rounds_1 c_isMore_1 c_orders c_orderMany c_spot c_bad) (wn := wX6 ck a0 a0_z a0_past a0_slots a0_isSaved a0_pad a0_yes a0_no a0_yesThen a0_noThen a0_yesRound a0_yesRule a0_noRound a0_noRule a0_orders c_z c_past c_slots c_isSaved c_pastMany c_pad c_typed c_yes_1 c_no_1 c_yesThen_1 c_noThen_1 c_yesRound_1 c_yesRule_1 c_noRound_1 c_noRule_1 c_rounds_1 c_isMore_1 c_orders c_orderMany c_spot c_bad) ⟨hx, hb, hml, hown, hts⟩ hK hP hD hS hA [0, 1, 2, 3, 4, 5, 6, 7, 8, 9, 10, 11, 12, 13, 14] [] [0, 1, 2, 3, 4, 5, 6, 7, 8, 9, 10, 11, 12, 13, 14] rfl (by decide) rfl (by decide) (by decide) rfl (by decide) (c_X6_lay l dC dI ck a0 a0_z a0_past a0_slots a0_isSaved a0_pad a0_yes a0_no a0_yesThen a0_noThen a0_yesRound a0_yesRule a0_noRound a0_noRule a0_orders c_z c_past c_slots c_isSaved c_pastMany c_pad c_typed c_yes c_no c_yesThen c_noThen c_yesRound c_yesRule c_noRound c_noRule c_rounds c_isMore c_orders c_orderMany c_spot c_bad c_yes_1 c_no_1 c_yesThen_1 c_noThen_1 c_yesRound_1 c_yesRule_1 c_noRound_1 c_noRule_1 c_rounds_1 c_isMore_1 q_1) (cwV 0 hts gX6_marks_X6_lay rfl rfl rfl (by decide +kernel) ⟨Nat.le_of_ble_eq_true rfl, Nat.le_of_ble_eq_true rfl⟩) 0 rfl rfl rfl hl.1 rfl (Nat.le_of_ble_eq_true rfl) dX6_marks_1 ⟨Nat.zero_le _, Nat.zero_le _⟩ (fun H locs hP hD hS => ?_)
  refine lv_aload_n hx hb dX6_marks_4 rfl (lv_at hl 0 rfl) ?_
  obtain ⟨r_5, q_5, h⟩ := ob1_e h
  refine cRV (wc := wX6 ck a0 a0_z a0_past a0_slots a0_isSaved a0_pad a0_yes a0_no a0_yesThen a0_noThen a0_yesRound a0_yesRule a0_noRound a0_noRule a0_orders c_z c_past c_slots c_isSaved c_pastMany c_pad c_typed c_yes_1 c_no_1 c_yesThen_1 c_noThen_1 c_yesRound_1 c_yesRule_1 c_noRound_1 c_noRule_1 c_rounds_1 c_isMore_1 c_orders c_orderMany c_spot c_bad) ⟨hx, hb, hml, hown, hts⟩ hK hP [0, 1, 2, 3, 4, 5, 6, 7, 8, 9, 10, 11, 12, 13, 14] rfl (c_X6_yesMany l dC dI ck a0 a0_z a0_past a0_slots a0_isSaved a0_pad a0_yes a0_no a0_yesThen a0_noThen a0_yesRound a0_yesRule a0_noRound a0_noRule a0_orders c_z c_past c_slots c_isSaved c_pastMany c_pad c_typed c_yes_1 c_no_1 c_yesThen_1 c_noThen_1 c_yesRound_1 c_yesRule_1 c_noRound_1 c_noRule_1 c_rounds_1 c_isMore_1 c_orders c_orderMany c_spot c_bad r_5 q_5) (cwV 0 hts gX6_marks_X6_yesMany rfl rfl rfl (by decide +kernel) ⟨Nat.le_of_ble_eq_true rfl, Nat.le_of_ble_eq_true rfl⟩) 0 rfl rfl rfl hl.1 rfl (Nat.le_of_ble_eq_true rfl) dX6_marks_5 ⟨Nat.zero_le _, Nat.zero_le _⟩ ?_
  refine lv_aload_n hx hb dX6_marks_8 rfl (lv_at hl 0 rfl) ?_
  obtain ⟨r_9, q_9, h⟩ := ob1_e h
  refine cRV (wc := wX6 ck a0 a0_z a0_past a0_slots a0_isSaved a0_pad a0_yes a0_no a0_yesThen a0_noThen a0_yesRound a0_yesRule a0_noRound a0_noRule a0_orders c_z c_past c_slots c_isSaved c_pastMany c_pad c_typed c_yes_1 c_no_1 c_yesThen_1 c_noThen_1 c_yesRound_1 c_yesRule_1 c_noRound_1 c_noRule_1 c_rounds_1 c_isMore_1 c_orders c_orderMany c_spot c_bad) ⟨hx, hb, hml, hown, hts⟩ hK hP [0, 1, 2, 3, 4, 5, 6, 7, 8, 9, 10, 11, 12, 13, 14] rfl (c_X6_noMany l dC dI ck a0 a0_z a0_past a0_slots a0_isSaved a0_pad a0_yes a0_no a0_yesThen a0_noThen a0_yesRound a0_yesRule a0_noRound a0_noRule a0_orders c_z c_past c_slots c_isSaved c_pastMany c_pad c_typed c_yes_1 c_no_1 c_yesThen_1 c_noThen_1 c_yesRound_1 c_yesRule_1 c_noRound_1 c_noRule_1 c_rounds_1 c_isMore_1 c_orders c_orderMany c_spot c_bad r_9 q_9) (cwV 0 hts gX6_marks_X6_noMany rfl rfl rfl (by decide +kernel) ⟨Nat.le_of_ble_eq_true rfl, Nat.le_of_ble_eq_true rfl⟩) 0 rfl rfl rfl hl.1 rfl (Nat.le_of_ble_eq_true rfl) dX6_marks_9 ⟨Nat.zero_le _, Nat.zero_le _⟩ ?_
  refine lv_iadd hx hb dX6_marks_12 ?_
  cases h
  exact eMi hx hb hr hlk hP hD hS rfl dX6_marks_13
noncomputable def f_X6_add (c_z : Nat → Int32) (v1 : Int32) (v2 : Int32) (v3 : Int32) (v4 : Int32) (v5 : Int32) : Option ((Nat → Int32)) :=
  gd (1 : Int32) 207 (lt' ((2 : Int32) + ((5 : Int32) * (c_z (1 : Int32).toNatClampNeg))) (fun v6_10 : Int32 => gd v6_10 207 (lt' (upd c_z v6_10.toNatClampNeg v1) (fun c_z_19 : Nat → Int32 => gd (v6_10 + (1 : Int32)) 207 (lt' (upd c_z_19 (v6_10 + (1 : Int32)).toNatClampNeg v2) (fun c_z_29 : Nat → Int32 => gd (v6_10 + (2 : Int32)) 207 (lt' (upd c_z_29 (v6_10 + (2 : Int32)).toNatClampNeg v3) (fun c_z_39 : Nat → Int32 => gd (v6_10 + (3 : Int32)) 207 (lt' (upd c_z_39 (v6_10 + (3 : Int32)).toNatClampNeg v4) (fun c_z_50 : Nat → Int32 => gd (v6_10 + (4 : Int32)) 207 (lt' (upd c_z_50 (v6_10 + (4 : Int32)).toNatClampNeg v5) (fun c_z_61 : Nat → Int32 => gd (1 : Int32) 207 (gd (1 : Int32) 207 (lt' (upd c_z_61 (1 : Int32).toNatClampNeg ((c_z_61 (1 : Int32).toNatClampNeg) + (1 : Int32))) (fun c_z_71 : Nat → Int32 => some c_z_71)))))))))))))))
set_option maxHeartbeats 4000000 in
set_option maxRecDepth 100000 in
theorem c_X6_add (l : Launch) (dC : Nat → ClassId) (dI : Nat → Nat → Nat) (ck : Nat → ClassId) (a0 a0_z a0_past a0_slots a0_isSaved a0_pad a0_yes a0_no a0_yesThen a0_noThen a0_yesRound a0_yesRule a0_noRound a0_noRule a0_orders : Nat) (c_z : Nat → Int32) (c_past : Nat → Int32) (c_slots : Nat → Int32) (c_isSaved : Nat → Int32) (c_pastMany : Int32) (c_pad : Nat → Int32) (c_typed : Int32) (c_yes : Nat → Int32) (c_no : Nat → Int32) (c_yesThen : Nat → Int32) (c_noThen : Nat → Int32) (c_yesRound : Nat → Int32) (c_yesRule : Nat → Int32) (c_noRound : Nat → Int32) (c_noRule : Nat → Int32) (c_rounds : Int32) (c_isMore : Int32) (c_orders : Nat → Int32) (c_orderMany : Int32) (c_spot : Int32) (c_bad : Int32) (v1 : Int32) (v2 : Int32) (v3 : Int32) (v4 : Int32) (v5 : Int32) (o0 : Nat → Int32) (h : f_X6_add c_z v1 v2 v3 v4 v5 = some o0) : MV l yX6_add wsX6_add ({ frames := 0, cells := 0, slots := 0, locals := 0 }) [.ref a0, .int v1, .int v2, .int v3, .int v4, .int v5] (dC, dI) ck (wX6 ck a0 a0_z a0_past a0_slots a0_isSaved a0_pad a0_yes a0_no a0_yesThen a0_noThen a0_yesRound a0_yesRule a0_noRound a0_noRule a0_orders c_z c_past c_slots c_isSaved c_pastMany c_pad c_typed c_yes c_no c_yesThen c_noThen c_yesRound c_yesRule c_noRound c_noRule c_rounds c_isMore c_orders c_orderMany c_spot c_bad) (wX6 ck a0 a0_z a0_past a0_slots a0_isSaved a0_pad a0_yes a0_no a0_yesThen a0_noThen a0_yesRound a0_yesRule a0_noRound a0_noRule a0_orders o0 c_past c_slots c_isSaved c_pastMany c_pad c_typed c_yes c_no c_yesThen c_noThen c_yesRound c_yesRule c_noRound c_noRule c_rounds c_isMore c_orders c_orderMany c_spot c_bad) := by
  refine MV.ofW (cc := cX6_add) (maxL := 7) (ret := none) (by decide +kernel) rfl (Nat.le_of_ble_eq_true rfl) ?_
  intro p e s m below meth c hx hb hr hml hts hown hlk hK hP A hA hD ls hl
  have hS : va_S A s.heap s.heap [] := va_S.rf
  have hown : s.vm.findClass RX6 = some m.cls := hown
  have hl : lv_has ls 7 [(0, .ref a0), (1, .int v1), (2, .int v2), (3, .int v3), (4, .int v4), (5, .int v5)] := hl
  have iu_X6 : ∀ w ∈ u_ws RX6 TX6 21, w ∈ wsX6_add := fun w h => List.mem_cons_of_mem _ (List.mem_append_right _ h)
  unfold f_X6_add at h
  refine lv_iconst (v := (2 : Int32)) hx hb dX6_add_0 rfl ?_
  refine lv_iconst (v := (5 : Int32)) hx hb dX6_add_1 rfl ?_
  refine lv_aload_n hx hb dX6_add_2 rfl (lv_at hl 0 rfl) ?_
  refine va_get (ci := 6) (v := .ref a0_z) (C := RX6) (T := TX6) (N := 21) hx hb hts iu_X6 hown hK.1 hP 0 rfl rfl 0 (by decide) (hts (.fieldLink RX6 7 "SheetMarksModel" "z" "[I") (List.mem_of_getElem? (i := 1) rfl)) (fun _ h9 => h9) rfl dX6_add_3 ?_
  refine lv_iconst (v := (1 : Int32)) hx hb dX6_add_6 rfl ?_
  obtain ⟨g_7, h⟩ := gd_e h
  refine va_iald hx hb hK.1 hP 1 0 rfl rfl g_7 dX6_add_7 ?_
  refine lv_imul hx hb dX6_add_8 ?_
  refine lv_iadd hx hb dX6_add_9 ?_
  refine lv_topi (fun v6_10 e_10 => ?_)
  have h := lt'_e e_10 h
  refine lv_istore (lv' := [(6, .int v6_10), (0, .ref a0), (1, .int v1), (2, .int v2), (3, .int v3), (4, .int v4), (5, .int v5)]) hx hb dX6_add_10 hl (by decide) rfl (fun ls hl => ?_)
  refine lv_aload_n hx hb dX6_add_12 rfl (lv_at hl 1 rfl) ?_
  refine va_get (ci := 6) (v := .ref a0_z) (C := RX6) (T := TX6) (N := 21) hx hb hts iu_X6 hown hK.1 hP 0 rfl rfl 0 (by decide) (hts (.fieldLink RX6 7 "SheetMarksModel" "z" "[I") (List.mem_of_getElem? (i := 1) rfl)) (fun _ h9 => h9) rfl dX6_add_13 ?_
  refine lv_iload hx hb dX6_add_16 (lv_at hl 0 rfl) ?_
  refine lv_iload_n hx hb dX6_add_18 rfl (lv_at hl 2 rfl) ?_
  obtain ⟨g_19, h⟩ := gd_e h
  refine va_iast hx hb hK.1 hP hD hS 1 0 rfl rfl g_19 dX6_add_19 (fun H locs hP hD hS => ?_)
  obtain ⟨c_z_19, e_19⟩ : ∃ y : Nat → Int32, y = (upd c_z v6_10.toNatClampNeg v1) := ⟨_, rfl⟩
  have h := lt'_e e_19 h
  have hP : va_P (dC, dI) vwCl (wX6 ck a0 a0_z a0_past a0_slots a0_isSaved a0_pad a0_yes a0_no a0_yesThen a0_noThen a0_yesRound a0_yesRule a0_noRound a0_noRule a0_orders c_z_19 c_past c_slots c_isSaved c_pastMany c_pad c_typed c_yes c_no c_yesThen c_noThen c_yesRound c_yesRule c_noRound c_noRule c_rounds c_isMore c_orders c_orderMany c_spot c_bad) H := by subst e_19; exact hP
  have hD : va_D A (wX6 ck a0 a0_z a0_past a0_slots a0_isSaved a0_pad a0_yes a0_no a0_yesThen a0_noThen a0_yesRound a0_yesRule a0_noRound a0_noRule a0_orders c_z_19 c_past c_slots c_isSaved c_pastMany c_pad c_typed c_yes c_no c_yesThen c_noThen c_yesRound c_yesRule c_noRound c_noRule c_rounds c_isMore c_orders c_orderMany c_spot c_bad) := by subst e_19; exact hD
  refine lv_aload_n hx hb dX6_add_20 rfl (lv_at hl 1 rfl) ?_
  refine va_get (ci := 6) (v := .ref a0_z) (C := RX6) (T := TX6) (N := 21) hx hb hts iu_X6 hown hK.1 hP 0 rfl rfl 0 (by decide) (hts (.fieldLink RX6 7 "SheetMarksModel" "z" "[I") (List.mem_of_getElem? (i := 1) rfl)) (fun _ h9 => h9) rfl dX6_add_21 ?_
  refine lv_iload hx hb dX6_add_24 (lv_at hl 0 rfl) ?_
  refine lv_iconst (v := (1 : Int32)) hx hb dX6_add_26 rfl ?_
  refine lv_iadd hx hb dX6_add_27 ?_
  refine lv_iload_n hx hb dX6_add_28 rfl (lv_at hl 3 rfl) ?_
  obtain ⟨g_29, h⟩ := gd_e h
  refine va_iast hx hb hK.1 hP hD hS 1 0 rfl rfl g_29 dX6_add_29 (fun H locs hP hD hS => ?_)
  obtain ⟨c_z_29, e_29⟩ : ∃ y : Nat → Int32, y = (upd c_z_19 (v6_10 + (1 : Int32)).toNatClampNeg v2) := ⟨_, rfl⟩
  have h := lt'_e e_29 h
  have hP : va_P (dC, dI) vwCl (wX6 ck a0 a0_z a0_past a0_slots a0_isSaved a0_pad a0_yes a0_no a0_yesThen a0_noThen a0_yesRound a0_yesRule a0_noRound a0_noRule a0_orders c_z_29 c_past c_slots c_isSaved c_pastMany c_pad c_typed c_yes c_no c_yesThen c_noThen c_yesRound c_yesRule c_noRound c_noRule c_rounds c_isMore c_orders c_orderMany c_spot c_bad) H := by subst e_29; exact hP
  have hD : va_D A (wX6 ck a0 a0_z a0_past a0_slots a0_isSaved a0_pad a0_yes a0_no a0_yesThen a0_noThen a0_yesRound a0_yesRule a0_noRound a0_noRule a0_orders c_z_29 c_past c_slots c_isSaved c_pastMany c_pad c_typed c_yes c_no c_yesThen c_noThen c_yesRound c_yesRule c_noRound c_noRule c_rounds c_isMore c_orders c_orderMany c_spot c_bad) := by subst e_29; exact hD
  refine lv_aload_n hx hb dX6_add_30 rfl (lv_at hl 1 rfl) ?_
  refine va_get (ci := 6) (v := .ref a0_z) (C := RX6) (T := TX6) (N := 21) hx hb hts iu_X6 hown hK.1 hP 0 rfl rfl 0 (by decide) (hts (.fieldLink RX6 7 "SheetMarksModel" "z" "[I") (List.mem_of_getElem? (i := 1) rfl)) (fun _ h9 => h9) rfl dX6_add_31 ?_
  refine lv_iload hx hb dX6_add_34 (lv_at hl 0 rfl) ?_
  refine lv_iconst (v := (2 : Int32)) hx hb dX6_add_36 rfl ?_
  refine lv_iadd hx hb dX6_add_37 ?_
  refine lv_iload_n hx hb dX6_add_38 rfl (lv_at hl 4 rfl) ?_
  obtain ⟨g_39, h⟩ := gd_e h
  refine va_iast hx hb hK.1 hP hD hS 1 0 rfl rfl g_39 dX6_add_39 (fun H locs hP hD hS => ?_)
  obtain ⟨c_z_39, e_39⟩ : ∃ y : Nat → Int32, y = (upd c_z_29 (v6_10 + (2 : Int32)).toNatClampNeg v3) := ⟨_, rfl⟩
  have h := lt'_e e_39 h
  have hP : va_P (dC, dI) vwCl (wX6 ck a0 a0_z a0_past a0_slots a0_isSaved a0_pad a0_yes a0_no a0_yesThen a0_noThen a0_yesRound a0_yesRule a0_noRound a0_noRule a0_orders c_z_39 c_past c_slots c_isSaved c_pastMany c_pad c_typed c_yes c_no c_yesThen c_noThen c_yesRound c_yesRule c_noRound c_noRule c_rounds c_isMore c_orders c_orderMany c_spot c_bad) H := by subst e_39; exact hP
  have hD : va_D A (wX6 ck a0 a0_z a0_past a0_slots a0_isSaved a0_pad a0_yes a0_no a0_yesThen a0_noThen a0_yesRound a0_yesRule a0_noRound a0_noRule a0_orders c_z_39 c_past c_slots c_isSaved c_pastMany c_pad c_typed c_yes c_no c_yesThen c_noThen c_yesRound c_yesRule c_noRound c_noRule c_rounds c_isMore c_orders c_orderMany c_spot c_bad) := by subst e_39; exact hD
  refine lv_aload_n hx hb dX6_add_40 rfl (lv_at hl 1 rfl) ?_
  refine va_get (ci := 6) (v := .ref a0_z) (C := RX6) (T := TX6) (N := 21) hx hb hts iu_X6 hown hK.1 hP 0 rfl rfl 0 (by decide) (hts (.fieldLink RX6 7 "SheetMarksModel" "z" "[I") (List.mem_of_getElem? (i := 1) rfl)) (fun _ h9 => h9) rfl dX6_add_41 ?_
  refine lv_iload hx hb dX6_add_44 (lv_at hl 0 rfl) ?_
  refine lv_iconst (v := (3 : Int32)) hx hb dX6_add_46 rfl ?_
  refine lv_iadd hx hb dX6_add_47 ?_
  refine lv_iload hx hb dX6_add_48 (lv_at hl 5 rfl) ?_
  obtain ⟨g_50, h⟩ := gd_e h
  refine va_iast hx hb hK.1 hP hD hS 1 0 rfl rfl g_50 dX6_add_50 (fun H locs hP hD hS => ?_)
  obtain ⟨c_z_50, e_50⟩ : ∃ y : Nat → Int32, y = (upd c_z_39 (v6_10 + (3 : Int32)).toNatClampNeg v4) := ⟨_, rfl⟩
  have h := lt'_e e_50 h
  have hP : va_P (dC, dI) vwCl (wX6 ck a0 a0_z a0_past a0_slots a0_isSaved a0_pad a0_yes a0_no a0_yesThen a0_noThen a0_yesRound a0_yesRule a0_noRound a0_noRule a0_orders c_z_50 c_past c_slots c_isSaved c_pastMany c_pad c_typed c_yes c_no c_yesThen c_noThen c_yesRound c_yesRule c_noRound c_noRule c_rounds c_isMore c_orders c_orderMany c_spot c_bad) H := by subst e_50; exact hP
  have hD : va_D A (wX6 ck a0 a0_z a0_past a0_slots a0_isSaved a0_pad a0_yes a0_no a0_yesThen a0_noThen a0_yesRound a0_yesRule a0_noRound a0_noRule a0_orders c_z_50 c_past c_slots c_isSaved c_pastMany c_pad c_typed c_yes c_no c_yesThen c_noThen c_yesRound c_yesRule c_noRound c_noRule c_rounds c_isMore c_orders c_orderMany c_spot c_bad) := by subst e_50; exact hD
  refine lv_aload_n hx hb dX6_add_51 rfl (lv_at hl 1 rfl) ?_
  refine va_get (ci := 6) (v := .ref a0_z) (C := RX6) (T := TX6) (N := 21) hx hb hts iu_X6 hown hK.1 hP 0 rfl rfl 0 (by decide) (hts (.fieldLink RX6 7 "SheetMarksModel" "z" "[I") (List.mem_of_getElem? (i := 1) rfl)) (fun _ h9 => h9) rfl dX6_add_52 ?_
  refine lv_iload hx hb dX6_add_55 (lv_at hl 0 rfl) ?_
  refine lv_iconst (v := (4 : Int32)) hx hb dX6_add_57 rfl ?_
  refine lv_iadd hx hb dX6_add_58 ?_
  refine lv_iload hx hb dX6_add_59 (lv_at hl 6 rfl) ?_
  obtain ⟨g_61, h⟩ := gd_e h
  refine va_iast hx hb hK.1 hP hD hS 1 0 rfl rfl g_61 dX6_add_61 (fun H locs hP hD hS => ?_)
  obtain ⟨c_z_61, e_61⟩ : ∃ y : Nat → Int32, y = (upd c_z_50 (v6_10 + (4 : Int32)).toNatClampNeg v5) := ⟨_, rfl⟩
  have h := lt'_e e_61 h
  have hP : va_P (dC, dI) vwCl (wX6 ck a0 a0_z a0_past a0_slots a0_isSaved a0_pad a0_yes a0_no a0_yesThen a0_noThen a0_yesRound a0_yesRule a0_noRound a0_noRule a0_orders c_z_61 c_past c_slots c_isSaved c_pastMany c_pad c_typed c_yes c_no c_yesThen c_noThen c_yesRound c_yesRule c_noRound c_noRule c_rounds c_isMore c_orders c_orderMany c_spot c_bad) H := by subst e_61; exact hP
  have hD : va_D A (wX6 ck a0 a0_z a0_past a0_slots a0_isSaved a0_pad a0_yes a0_no a0_yesThen a0_noThen a0_yesRound a0_yesRule a0_noRound a0_noRule a0_orders c_z_61 c_past c_slots c_isSaved c_pastMany c_pad c_typed c_yes c_no c_yesThen c_noThen c_yesRound c_yesRule c_noRound c_noRule c_rounds c_isMore c_orders c_orderMany c_spot c_bad) := by subst e_61; exact hD
  refine lv_aload_n hx hb dX6_add_62 rfl (lv_at hl 1 rfl) ?_
  refine va_get (ci := 6) (v := .ref a0_z) (C := RX6) (T := TX6) (N := 21) hx hb hts iu_X6 hown hK.1 hP 0 rfl rfl 0 (by decide) (hts (.fieldLink RX6 7 "SheetMarksModel" "z" "[I") (List.mem_of_getElem? (i := 1) rfl)) (fun _ h9 => h9) rfl dX6_add_63 ?_
  refine lv_iconst (v := (1 : Int32)) hx hb dX6_add_66 rfl ?_
  refine lv_dup2_11 hx hb dX6_add_67 rfl rfl ?_
  obtain ⟨g_68, h⟩ := gd_e h
  refine va_iald hx hb hK.1 hP 1 0 rfl rfl g_68 dX6_add_68 ?_
  refine lv_iconst (v := (1 : Int32)) hx hb dX6_add_69 rfl ?_
  refine lv_iadd hx hb dX6_add_70 ?_
  obtain ⟨g_71, h⟩ := gd_e h
  refine va_iast hx hb hK.1 hP hD hS 1 0 rfl rfl g_71 dX6_add_71 (fun H locs hP hD hS => ?_)
  obtain ⟨c_z_71, e_71⟩ : ∃ y : Nat → Int32, y = (upd c_z_61 (1 : Int32).toNatClampNeg ((c_z_61 (1 : Int32).toNatClampNeg) + (1 : Int32))) := ⟨_, rfl⟩
  have h := lt'_e e_71 h
  have hP : va_P (dC, dI) vwCl (wX6 ck a0 a0_z a0_past a0_slots a0_isSaved a0_pad a0_yes a0_no a0_yesThen a0_noThen a0_yesRound a0_yesRule a0_noRound a0_noRule a0_orders c_z_71 c_past c_slots c_isSaved c_pastMany c_pad c_typed c_yes c_no c_yesThen c_noThen c_yesRound c_yesRule c_noRound c_noRule c_rounds c_isMore c_orders c_orderMany c_spot c_bad) H := by subst e_71; exact hP
  have hD : va_D A (wX6 ck a0 a0_z a0_past a0_slots a0_isSaved a0_pad a0_yes a0_no a0_yesThen a0_noThen a0_yesRound a0_yesRule a0_noRound a0_noRule a0_orders c_z_71 c_past c_slots c_isSaved c_pastMany c_pad c_typed c_yes c_no c_yesThen c_noThen c_yesRound c_yesRule c_noRound c_noRule c_rounds c_isMore c_orders c_orderMany c_spot c_bad) := by subst e_71; exact hD
  cases h
  exact eMv hx hb hr hlk hP hD hS dX6_add_72
noncomputable def f_X6_addThree (c_z : Nat → Int32) (v1 : Int32) (v2 : Int32) (v3 : Int32) (v4 : Int32) (v5 : Int32) : Option ((Nat → Int32)) :=
  ob1 (f_X6_add c_z v1 v2 v3 ((6 : Int32) + v4) ((12 : Int32) + v5)) (fun (c_z_14 : Nat → Int32) => some c_z_14)
set_option maxHeartbeats 4000000 in
set_option maxRecDepth 100000 in
theorem c_X6_addThree (l : Launch) (dC : Nat → ClassId) (dI : Nat → Nat → Nat) (ck : Nat → ClassId) (a0 a0_z a0_past a0_slots a0_isSaved a0_pad a0_yes a0_no a0_yesThen a0_noThen a0_yesRound a0_yesRule a0_noRound a0_noRule a0_orders : Nat) (c_z : Nat → Int32) (c_past : Nat → Int32) (c_slots : Nat → Int32) (c_isSaved : Nat → Int32) (c_pastMany : Int32) (c_pad : Nat → Int32) (c_typed : Int32) (c_yes : Nat → Int32) (c_no : Nat → Int32) (c_yesThen : Nat → Int32) (c_noThen : Nat → Int32) (c_yesRound : Nat → Int32) (c_yesRule : Nat → Int32) (c_noRound : Nat → Int32) (c_noRule : Nat → Int32) (c_rounds : Int32) (c_isMore : Int32) (c_orders : Nat → Int32) (c_orderMany : Int32) (c_spot : Int32) (c_bad : Int32) (v1 : Int32) (v2 : Int32) (v3 : Int32) (v4 : Int32) (v5 : Int32) (o0 : Nat → Int32) (h : f_X6_addThree c_z v1 v2 v3 v4 v5 = some o0) : MV l yX6_addThree wsX6_addThree ({ frames := 1, cells := 0, slots := 0, locals := 26 }) [.ref a0, .int v1, .int v2, .int v3, .int v4, .int v5] (dC, dI) ck (wX6 ck a0 a0_z a0_past a0_slots a0_isSaved a0_pad a0_yes a0_no a0_yesThen a0_noThen a0_yesRound a0_yesRule a0_noRound a0_noRule a0_orders c_z c_past c_slots c_isSaved c_pastMany c_pad c_typed c_yes c_no c_yesThen c_noThen c_yesRound c_yesRule c_noRound c_noRule c_rounds c_isMore c_orders c_orderMany c_spot c_bad) (wX6 ck a0 a0_z a0_past a0_slots a0_isSaved a0_pad a0_yes a0_no a0_yesThen a0_noThen a0_yesRound a0_yesRule a0_noRound a0_noRule a0_orders o0 c_past c_slots c_isSaved c_pastMany c_pad c_typed c_yes c_no c_yesThen c_noThen c_yesRound c_yesRule c_noRound c_noRule c_rounds c_isMore c_orders c_orderMany c_spot c_bad) := by
  refine MV.ofW (cc := cX6_addThree) (maxL := 6) (ret := none) (by decide +kernel) rfl (Nat.le_of_ble_eq_true rfl) ?_
  intro p e s m below meth c hx hb hr hml hts hown hlk hK hP A hA hD ls hl
  have hS : va_S A s.heap s.heap [] := va_S.rf
  have hown : s.vm.findClass RX6 = some m.cls := hown
  have hl : lv_has ls 6 [(0, .ref a0), (1, .int v1), (2, .int v2), (3, .int v3), (4, .int v4), (5, .int v5)] := hl
  unfold f_X6_addThree at h
  refine lv_aload_n hx hb dX6_addThree_0 rfl (lv_at hl 0 rfl) ?_
  refine lv_iload_n hx hb dX6_addThree_1 rfl (lv_at hl 1 rfl) ?_
  refine lv_iload_n hx hb dX6_addThree_2 rfl (lv_at hl 2 rfl) ?_
  refine lv_iload_n hx hb dX6_addThree_3 rfl (lv_at hl 3 rfl) ?_
  refine lv_bipush (v := (6 : Int32)) hx hb dX6_addThree_4 rfl ?_
  refine lv_iload hx hb dX6_addThree_6 (lv_at hl 4 rfl) ?_
  refine lv_iadd hx hb dX6_addThree_8 ?_
  refine lv_bipush (v := (12 : Int32)) hx hb dX6_addThree_9 rfl ?_
  refine lv_iload hx hb dX6_addThree_11 (lv_at hl 5 rfl) ?_
  refine lv_iadd hx hb dX6_addThree_13 ?_
  obtain ⟨c_z_14, q_14, h⟩ := ob1_e h
  refine cMV (wc := wX6 ck a0 a0_z a0_past a0_slots a0_isSaved a0_pad a0_yes a0_no a0_yesThen a0_noThen a0_yesRound a0_yesRule a0_noRound a0_noRule a0_orders c_z c_past c_slots c_isSaved c_pastMany c_pad c_typed c_yes c_no c_yesThen c_noThen c_yesRound c_yesRule c_noRound c_noRule c_rounds c_isMore c_orders c_orderMany c_spot c_bad) (wr := []) (w1 := wX6 ck a0 a0_z a0_past a0_slots a0_isSaved a0_pad a0_yes a0_no a0_yesThen a0_noThen a0_yesRound a0_yesRule a0_noRound a0_noRule a0_orders c_z_14 c_past c_slots c_isSaved c_pastMany c_pad c_typed c_yes c_no c_yesThen c_noThen c_yesRound c_yesRule c_noRound c_noRule c_rounds c_isMore c_orders c_orderMany c_spot c_bad) (wn := wX6 ck a0 a0_z a0_past a0_slots a0_isSaved a0_pad a0_yes a0_no a0_yesThen a0_noThen a0_yesRound a0_yesRule a0_noRound a0_noRule a0_orders c_z_14 c_past c_slots c_isSaved c_pastMany c_pad c_typed c_yes c_no c_yesThen c_noThen c_yesRound c_yesRule c_noRound c_noRule c_rounds c_isMore c_orders c_orderMany c_spot c_bad) ⟨hx, hb, hml, hown, hts⟩ hK hP hD hS hA [0, 1, 2, 3, 4, 5, 6, 7, 8, 9, 10, 11, 12, 13, 14] [] [0, 1, 2, 3, 4, 5, 6, 7, 8, 9, 10, 11, 12, 13, 14] rfl (by decide) rfl (by decide) (by decide) rfl (by decide) (c_X6_add l dC dI ck a0 a0_z a0_past a0_slots a0_isSaved a0_pad a0_yes a0_no a0_yesThen a0_noThen a0_yesRound a0_yesRule a0_noRound a0_noRule a0_orders c_z c_past c_slots c_isSaved c_pastMany c_pad c_typed c_yes c_no c_yesThen c_noThen c_yesRound c_yesRule c_noRound c_noRule c_rounds c_isMore c_orders c_orderMany c_spot c_bad v1 v2 v3 ((6 : Int32) + v4) ((12 : Int32) + v5) c_z_14 q_14) (cwV 5 hts gX6_addThree_X6_add rfl rfl rfl (by decide +kernel) ⟨Nat.le_of_ble_eq_true rfl, Nat.le_of_ble_eq_true rfl⟩) 0 rfl rfl rfl hl.1 rfl (Nat.le_of_ble_eq_true rfl) dX6_addThree_14 ⟨Nat.zero_le _, Nat.zero_le _⟩ (fun H locs hP hD hS => ?_)
  cases h
  exact eMv hx hb hr hlk hP hD hS dX6_addThree_17
noncomputable def f_X6_drop_L54 (v2_20 : Int32) (rec54 : Int32 → (Nat → Int32) → Option ((Nat → Int32))) (v3_L54 : Int32) (c_z_L54 : Nat → Int32) : Option ((Nat → Int32)) :=
  if (v2_20 + (5 : Int32)) ≤ v3_L54 then (some c_z_L54) else (gd v3_L54 207 (lt' (upd c_z_L54 v3_L54.toNatClampNeg (0 : Int32)) (fun c_z_67 : Nat → Int32 => rec54 (v3_L54 + (1 : Int32)) c_z_67)))
noncomputable def f_X6_drop_L27 (v2_20 : Int32) (rec27 : Int32 → (Nat → Int32) → Option ((Nat → Int32))) (v3_L27 : Int32) (c_z_L27 : Nat → Int32) : Option ((Nat → Int32)) :=
  if v2_20 ≤ v3_L27 then (lo2 (f_X6_drop_L54 v2_20) FU v2_20 c_z_L27) else (gd (v3_L27 + (5 : Int32)) 207 (gd v3_L27 207 (lt' (upd c_z_L27 v3_L27.toNatClampNeg (c_z_L27 (v3_L27 + (5 : Int32)).toNatClampNeg)) (fun c_z_45 : Nat → Int32 => rec27 (v3_L27 + (1 : Int32)) c_z_45))))
noncomputable def f_X6_drop (c_z : Nat → Int32) (v1 : Int32) : Option ((Nat → Int32)) :=
  gd (1 : Int32) 207 (gd (1 : Int32) 207 (lt' (upd c_z (1 : Int32).toNatClampNeg ((c_z (1 : Int32).toNatClampNeg) - (1 : Int32))) (fun c_z_9 : Nat → Int32 => gd (1 : Int32) 207 (lt' ((2 : Int32) + ((5 : Int32) * (c_z_9 (1 : Int32).toNatClampNeg))) (fun v2_20 : Int32 => lt' ((2 : Int32) + ((5 : Int32) * v1)) (fun v3_26 : Int32 => lo2 (f_X6_drop_L27 v2_20) FU v3_26 c_z_9))))))
set_option maxHeartbeats 4000000 in
set_option maxRecDepth 100000 in
theorem c_X6_drop (l : Launch) (dC : Nat → ClassId) (dI : Nat → Nat → Nat) (ck : Nat → ClassId) (a0 a0_z a0_past a0_slots a0_isSaved a0_pad a0_yes a0_no a0_yesThen a0_noThen a0_yesRound a0_yesRule a0_noRound a0_noRule a0_orders : Nat) (c_z : Nat → Int32) (c_past : Nat → Int32) (c_slots : Nat → Int32) (c_isSaved : Nat → Int32) (c_pastMany : Int32) (c_pad : Nat → Int32) (c_typed : Int32) (c_yes : Nat → Int32) (c_no : Nat → Int32) (c_yesThen : Nat → Int32) (c_noThen : Nat → Int32) (c_yesRound : Nat → Int32) (c_yesRule : Nat → Int32) (c_noRound : Nat → Int32) (c_noRule : Nat → Int32) (c_rounds : Int32) (c_isMore : Int32) (c_orders : Nat → Int32) (c_orderMany : Int32) (c_spot : Int32) (c_bad : Int32) (v1 : Int32) (o0 : Nat → Int32) (h : f_X6_drop c_z v1 = some o0) : MV l yX6_drop wsX6_drop ({ frames := 0, cells := 0, slots := 0, locals := 0 }) [.ref a0, .int v1] (dC, dI) ck (wX6 ck a0 a0_z a0_past a0_slots a0_isSaved a0_pad a0_yes a0_no a0_yesThen a0_noThen a0_yesRound a0_yesRule a0_noRound a0_noRule a0_orders c_z c_past c_slots c_isSaved c_pastMany c_pad c_typed c_yes c_no c_yesThen c_noThen c_yesRound c_yesRule c_noRound c_noRule c_rounds c_isMore c_orders c_orderMany c_spot c_bad) (wX6 ck a0 a0_z a0_past a0_slots a0_isSaved a0_pad a0_yes a0_no a0_yesThen a0_noThen a0_yesRound a0_yesRule a0_noRound a0_noRule a0_orders o0 c_past c_slots c_isSaved c_pastMany c_pad c_typed c_yes c_no c_yesThen c_noThen c_yesRound c_yesRule c_noRound c_noRule c_rounds c_isMore c_orders c_orderMany c_spot c_bad) := by
  refine MV.ofW (cc := cX6_drop) (maxL := 4) (ret := none) (by decide +kernel) rfl (Nat.le_of_ble_eq_true rfl) ?_
  intro p e s m below meth c hx hb hr hml hts hown hlk hK hP A hA hD ls hl
  have hS : va_S A s.heap s.heap [] := va_S.rf
  have hown : s.vm.findClass RX6 = some m.cls := hown
  have hl : lv_has ls 4 [(0, .ref a0), (1, .int v1)] := hl
  have iu_X6 : ∀ w ∈ u_ws RX6 TX6 21, w ∈ wsX6_drop := fun w h => List.mem_cons_of_mem _ (List.mem_append_right _ h)
  unfold f_X6_drop at h
  refine lv_aload_n hx hb dX6_drop_0 rfl (lv_at hl 0 rfl) ?_
  refine va_get (ci := 6) (v := .ref a0_z) (C := RX6) (T := TX6) (N := 21) hx hb hts iu_X6 hown hK.1 hP 0 rfl rfl 0 (by decide) (hts (.fieldLink RX6 7 "SheetMarksModel" "z" "[I") (List.mem_of_getElem? (i := 1) rfl)) (fun _ h9 => h9) rfl dX6_drop_1 ?_
  refine lv_iconst (v := (1 : Int32)) hx hb dX6_drop_4 rfl ?_
  refine lv_dup2_11 hx hb dX6_drop_5 rfl rfl ?_
  obtain ⟨g_6, h⟩ := gd_e h
  refine va_iald hx hb hK.1 hP 1 0 rfl rfl g_6 dX6_drop_6 ?_
  refine lv_iconst (v := (1 : Int32)) hx hb dX6_drop_7 rfl ?_
  refine lv_isub hx hb dX6_drop_8 ?_
  obtain ⟨g_9, h⟩ := gd_e h
  refine va_iast hx hb hK.1 hP hD hS 1 0 rfl rfl g_9 dX6_drop_9 (fun H locs hP hD hS => ?_)
  obtain ⟨c_z_9, e_9⟩ : ∃ y : Nat → Int32, y = (upd c_z (1 : Int32).toNatClampNeg ((c_z (1 : Int32).toNatClampNeg) - (1 : Int32))) := ⟨_, rfl⟩
  have h := lt'_e e_9 h
  have hP : va_P (dC, dI) vwCl (wX6 ck a0 a0_z a0_past a0_slots a0_isSaved a0_pad a0_yes a0_no a0_yesThen a0_noThen a0_yesRound a0_yesRule a0_noRound a0_noRule a0_orders c_z_9 c_past c_slots c_isSaved c_pastMany c_pad c_typed c_yes c_no c_yesThen c_noThen c_yesRound c_yesRule c_noRound c_noRule c_rounds c_isMore c_orders c_orderMany c_spot c_bad) H := by subst e_9; exact hP
  have hD : va_D A (wX6 ck a0 a0_z a0_past a0_slots a0_isSaved a0_pad a0_yes a0_no a0_yesThen a0_noThen a0_yesRound a0_yesRule a0_noRound a0_noRule a0_orders c_z_9 c_past c_slots c_isSaved c_pastMany c_pad c_typed c_yes c_no c_yesThen c_noThen c_yesRound c_yesRule c_noRound c_noRule c_rounds c_isMore c_orders c_orderMany c_spot c_bad) := by subst e_9; exact hD
  refine lv_iconst (v := (2 : Int32)) hx hb dX6_drop_10 rfl ?_
  refine lv_iconst (v := (5 : Int32)) hx hb dX6_drop_11 rfl ?_
  refine lv_aload_n hx hb dX6_drop_12 rfl (lv_at hl 0 rfl) ?_
  refine va_get (ci := 6) (v := .ref a0_z) (C := RX6) (T := TX6) (N := 21) hx hb hts iu_X6 hown hK.1 hP 0 rfl rfl 0 (by decide) (hts (.fieldLink RX6 7 "SheetMarksModel" "z" "[I") (List.mem_of_getElem? (i := 1) rfl)) (fun _ h9 => h9) rfl dX6_drop_13 ?_
  refine lv_iconst (v := (1 : Int32)) hx hb dX6_drop_16 rfl ?_
  obtain ⟨g_17, h⟩ := gd_e h
  refine va_iald hx hb hK.1 hP 1 0 rfl rfl g_17 dX6_drop_17 ?_
  refine lv_imul hx hb dX6_drop_18 ?_
  refine lv_iadd hx hb dX6_drop_19 ?_
  refine lv_topi (fun v2_20 e_20 => ?_)
  have h := lt'_e e_20 h
  refine lv_istore_n (lv' := [(2, .int v2_20), (0, .ref a0), (1, .int v1)]) hx hb dX6_drop_20 rfl hl (by decide) rfl (fun ls hl => ?_)
  refine lv_iconst (v := (2 : Int32)) hx hb dX6_drop_21 rfl ?_
  refine lv_iconst (v := (5 : Int32)) hx hb dX6_drop_22 rfl ?_
  refine lv_iload_n hx hb dX6_drop_23 rfl (lv_at hl 2 rfl) ?_
  refine lv_imul hx hb dX6_drop_24 ?_
  refine lv_iadd hx hb dX6_drop_25 ?_
  refine lv_topi (fun v3_26 e_26 => ?_)
  have h := lt'_e e_26 h
  refine lv_istore_n (lv' := [(3, .int v3_26), (2, .int v2_20), (0, .ref a0), (1, .int v1)]) hx hb dX6_drop_26 rfl hl (by decide) rfl (fun ls hl => ?_)
  have hL27 : ∀ (n27 : Nat) (v3_L27 : Int32) (c_z_L27 : Nat → Int32), lo2 (f_X6_drop_L27 v2_20) n27 v3_L27 c_z_L27 = some o0 → ∀ (H : Heap) (locs : List Loc), va_P (dC, dI) vwCl (wX6 ck a0 a0_z a0_past a0_slots a0_isSaved a0_pad a0_yes a0_no a0_yesThen a0_noThen a0_yesRound a0_yesRule a0_noRound a0_noRule a0_orders c_z_L27 c_past c_slots c_isSaved c_pastMany c_pad c_typed c_yes c_no c_yesThen c_noThen c_yesRound c_yesRule c_noRound c_noRule c_rounds c_isMore c_orders c_orderMany c_spot c_bad) H → va_D A (wX6 ck a0 a0_z a0_past a0_slots a0_isSaved a0_pad a0_yes a0_no a0_yesThen a0_noThen a0_yesRound a0_yesRule a0_noRound a0_noRule a0_orders c_z_L27 c_past c_slots c_isSaved c_pastMany c_pad c_typed c_yes c_no c_yesThen c_noThen c_yesRound c_yesRule c_noRound c_noRule c_rounds c_isMore c_orders c_orderMany c_spot c_bad) → va_S A s.heap H locs → ∀ ls : Array Slot, lv_has ls 4 [(3, .int v3_L27), (2, .int v2_20), (0, .ref a0)] → W p l e (headSpec wsX6_drop ({ frames := 0, cells := 0, slots := 0, locals := 0 })).room s m [.ref a0, .int v1].toArray below meth c H locs 0 0 (MQ below (QV (dC, dI) (wX6 ck a0 a0_z a0_past a0_slots a0_isSaved a0_pad a0_yes a0_no a0_yesThen a0_noThen a0_yesRound a0_yesRule a0_noRound a0_noRule a0_orders o0 c_past c_slots c_isSaved c_pastMany c_pad c_typed c_yes c_no c_yesThen c_noThen c_yesRound c_yesRule c_noRound c_noRule c_rounds c_isMore c_orders c_orderMany c_spot c_bad) A) [.ref a0, .int v1].toArray s 0 0 A) (F0 m 27 ls []) := by
    intro n27
    induction n27 with
    | zero => intro v3_L27 c_z_L27 h; exact lo2_z h
    | succ n27 ih27 =>
      intro v3_L27 c_z_L27 h H locs hP hD hS ls hl
      have h := lo2_s h
      unfold f_X6_drop_L27 at h
      refine lv_iload_n hx hb dX6_drop_27 rfl (lv_at hl 0 rfl) ?_
      refine lv_iload_n hx hb dX6_drop_28 rfl (lv_at hl 1 rfl) ?_
      refine lv_icmp_ge (tgt := 52) hx hb dX6_drop_29 (by decide) (fun c_29 => ?_) (fun c_29 => ?_)
      · have h := if_t h c_29
        refine lv_iload_n hx hb dX6_drop_52 rfl (lv_at hl 1 rfl) ?_
        refine lv_istore_n (lv' := [(3, .int v2_20), (2, .int v2_20), (0, .ref a0)]) hx hb dX6_drop_53 rfl hl (by decide) rfl (fun ls hl => ?_)
        have hL54 : ∀ (n54 : Nat) (v3_L54 : Int32) (c_z_L54 : Nat → Int32), lo2 (f_X6_drop_L54 v2_20) n54 v3_L54 c_z_L54 = some o0 → ∀ (H : Heap) (locs : List Loc), va_P (dC, dI) vwCl (wX6 ck a0 a0_z a0_past a0_slots a0_isSaved a0_pad a0_yes a0_no a0_yesThen a0_noThen a0_yesRound a0_yesRule a0_noRound a0_noRule a0_orders c_z_L54 c_past c_slots c_isSaved c_pastMany c_pad c_typed c_yes c_no c_yesThen c_noThen c_yesRound c_yesRule c_noRound c_noRule c_rounds c_isMore c_orders c_orderMany c_spot c_bad) H → va_D A (wX6 ck a0 a0_z a0_past a0_slots a0_isSaved a0_pad a0_yes a0_no a0_yesThen a0_noThen a0_yesRound a0_yesRule a0_noRound a0_noRule a0_orders c_z_L54 c_past c_slots c_isSaved c_pastMany c_pad c_typed c_yes c_no c_yesThen c_noThen c_yesRound c_yesRule c_noRound c_noRule c_rounds c_isMore c_orders c_orderMany c_spot c_bad) → va_S A s.heap H locs → ∀ ls : Array Slot, lv_has ls 4 [(3, .int v3_L54), (2, .int v2_20), (0, .ref a0)] → W p l e (headSpec wsX6_drop ({ frames := 0, cells := 0, slots := 0, locals := 0 })).room s m [.ref a0, .int v1].toArray below meth c H locs 0 0 (MQ below (QV (dC, dI) (wX6 ck a0 a0_z a0_past a0_slots a0_isSaved a0_pad a0_yes a0_no a0_yesThen a0_noThen a0_yesRound a0_yesRule a0_noRound a0_noRule a0_orders o0 c_past c_slots c_isSaved c_pastMany c_pad c_typed c_yes c_no c_yesThen c_noThen c_yesRound c_yesRule c_noRound c_noRule c_rounds c_isMore c_orders c_orderMany c_spot c_bad) A) [.ref a0, .int v1].toArray s 0 0 A) (F0 m 54 ls []) := by
          intro n54
          induction n54 with
          | zero => intro v3_L54 c_z_L54 h; exact lo2_z h
          | succ n54 ih54 =>
            intro v3_L54 c_z_L54 h H locs hP hD hS ls hl
            have h := lo2_s h
            unfold f_X6_drop_L54 at h
            refine lv_iload_n hx hb dX6_drop_54 rfl (lv_at hl 0 rfl) ?_
            refine lv_iload_n hx hb dX6_drop_55 rfl (lv_at hl 1 rfl) ?_
            refine lv_iconst (v := (5 : Int32)) hx hb dX6_drop_56 rfl ?_
            refine lv_iadd hx hb dX6_drop_57 ?_
            refine lv_icmp_ge (tgt := 74) hx hb dX6_drop_58 (by decide) (fun c_58 => ?_) (fun c_58 => ?_)
            · have h := if_t h c_58
              cases h
              exact eMv hx hb hr hlk hP hD hS dX6_drop_74
            · have h := if_f h c_58
              refine lv_aload_n hx hb dX6_drop_61 rfl (lv_at hl 2 rfl) ?_
              refine va_get (ci := 6) (v := .ref a0_z) (C := RX6) (T := TX6) (N := 21) hx hb hts iu_X6 hown hK.1 hP 0 rfl rfl 0 (by decide) (hts (.fieldLink RX6 7 "SheetMarksModel" "z" "[I") (List.mem_of_getElem? (i := 1) rfl)) (fun _ h9 => h9) rfl dX6_drop_62 ?_
              refine lv_iload_n hx hb dX6_drop_65 rfl (lv_at hl 0 rfl) ?_
              refine lv_iconst (v := (0 : Int32)) hx hb dX6_drop_66 rfl ?_
              obtain ⟨g_67, h⟩ := gd_e h
              refine va_iast hx hb hK.1 hP hD hS 1 0 rfl rfl g_67 dX6_drop_67 (fun H locs hP hD hS => ?_)
              obtain ⟨c_z_67, e_67⟩ : ∃ y : Nat → Int32, y = (upd c_z_L54 v3_L54.toNatClampNeg (0 : Int32)) := ⟨_, rfl⟩
              have h := lt'_e e_67 h
              have hP : va_P (dC, dI) vwCl (wX6 ck a0 a0_z a0_past a0_slots a0_isSaved a0_pad a0_yes a0_no a0_yesThen a0_noThen a0_yesRound a0_yesRule a0_noRound a0_noRule a0_orders c_z_67 c_past c_slots c_isSaved c_pastMany c_pad c_typed c_yes c_no c_yesThen c_noThen c_yesRound c_yesRule c_noRound c_noRule c_rounds c_isMore c_orders c_orderMany c_spot c_bad) H := by subst e_67; exact hP
              have hD : va_D A (wX6 ck a0 a0_z a0_past a0_slots a0_isSaved a0_pad a0_yes a0_no a0_yesThen a0_noThen a0_yesRound a0_yesRule a0_noRound a0_noRule a0_orders c_z_67 c_past c_slots c_isSaved c_pastMany c_pad c_typed c_yes c_no c_yesThen c_noThen c_yesRound c_yesRule c_noRound c_noRule c_rounds c_isMore c_orders c_orderMany c_spot c_bad) := by subst e_67; exact hD
              refine lv_iinc (v := (v3_L54 + (1 : Int32))) (lv' := [(3, .int (v3_L54 + (1 : Int32))), (2, .int v2_20), (0, .ref a0)]) hx hb dX6_drop_68 hl (k := 0) rfl rfl (by decide) rfl (fun ls hl => ?_)
              refine lv_goto (tgt := 54) hx hb dX6_drop_71 (by decide) ?_
              exact ih54 _ _ h _ _ hP hD hS _ (lv_sub hl [0, 1, 2] rfl)
        exact hL54 _ _ _ h _ _ hP hD hS _ (lv_sub hl [0, 1, 2] rfl)
      · have h := if_f h c_29
        refine lv_aload_n hx hb dX6_drop_32 rfl (lv_at hl 2 rfl) ?_
        refine va_get (ci := 6) (v := .ref a0_z) (C := RX6) (T := TX6) (N := 21) hx hb hts iu_X6 hown hK.1 hP 0 rfl rfl 0 (by decide) (hts (.fieldLink RX6 7 "SheetMarksModel" "z" "[I") (List.mem_of_getElem? (i := 1) rfl)) (fun _ h9 => h9) rfl dX6_drop_33 ?_
        refine lv_iload_n hx hb dX6_drop_36 rfl (lv_at hl 0 rfl) ?_
        refine lv_aload_n hx hb dX6_drop_37 rfl (lv_at hl 2 rfl) ?_
        refine va_get (ci := 6) (v := .ref a0_z) (C := RX6) (T := TX6) (N := 21) hx hb hts iu_X6 hown hK.1 hP 0 rfl rfl 0 (by decide) (hts (.fieldLink RX6 7 "SheetMarksModel" "z" "[I") (List.mem_of_getElem? (i := 1) rfl)) (fun _ h9 => h9) rfl dX6_drop_38 ?_
        refine lv_iload_n hx hb dX6_drop_41 rfl (lv_at hl 0 rfl) ?_
        refine lv_iconst (v := (5 : Int32)) hx hb dX6_drop_42 rfl ?_
        refine lv_iadd hx hb dX6_drop_43 ?_
        obtain ⟨g_44, h⟩ := gd_e h
        refine va_iald hx hb hK.1 hP 1 0 rfl rfl g_44 dX6_drop_44 ?_
        obtain ⟨g_45, h⟩ := gd_e h
        refine va_iast hx hb hK.1 hP hD hS 1 0 rfl rfl g_45 dX6_drop_45 (fun H locs hP hD hS => ?_)
        obtain ⟨c_z_45, e_45⟩ : ∃ y : Nat → Int32, y = (upd c_z_L27 v3_L27.toNatClampNeg (c_z_L27 (v3_L27 + (5 : Int32)).toNatClampNeg)) := ⟨_, rfl⟩
        have h := lt'_e e_45 h
        have hP : va_P (dC, dI) vwCl (wX6 ck a0 a0_z a0_past a0_slots a0_isSaved a0_pad a0_yes a0_no a0_yesThen a0_noThen a0_yesRound a0_yesRule a0_noRound a0_noRule a0_orders c_z_45 c_past c_slots c_isSaved c_pastMany c_pad c_typed c_yes c_no c_yesThen c_noThen c_yesRound c_yesRule c_noRound c_noRule c_rounds c_isMore c_orders c_orderMany c_spot c_bad) H := by subst e_45; exact hP
        have hD : va_D A (wX6 ck a0 a0_z a0_past a0_slots a0_isSaved a0_pad a0_yes a0_no a0_yesThen a0_noThen a0_yesRound a0_yesRule a0_noRound a0_noRule a0_orders c_z_45 c_past c_slots c_isSaved c_pastMany c_pad c_typed c_yes c_no c_yesThen c_noThen c_yesRound c_yesRule c_noRound c_noRule c_rounds c_isMore c_orders c_orderMany c_spot c_bad) := by subst e_45; exact hD
        refine lv_iinc (v := (v3_L27 + (1 : Int32))) (lv' := [(3, .int (v3_L27 + (1 : Int32))), (2, .int v2_20), (0, .ref a0)]) hx hb dX6_drop_46 hl (k := 0) rfl rfl (by decide) rfl (fun ls hl => ?_)
        refine lv_goto (tgt := 27) hx hb dX6_drop_49 (by decide) ?_
        exact ih27 _ _ h _ _ hP hD hS _ (lv_sub hl [0, 1, 2] rfl)
  exact hL27 _ _ _ h _ _ hP hD hS _ (lv_sub hl [0, 1, 2] rfl)
noncomputable def f_X6_begin_L25 (v1 : Int32) (c_past_13 : Nat → Int32) (c_pastMany_13 : Int32) (v2_22 : Int32) (rec25 : Int32 → (Nat → Int32) → Option (Int32 × (Nat → Int32) × (Nat → Int32) × Int32)) (v3_L25 : Int32) (c_z_L25 : Nat → Int32) : Option (Int32 × (Nat → Int32) × (Nat → Int32) × Int32) :=
  if (207 : Int32) ≤ v3_L25 then (gd (0 : Int32) 207 (lt' (upd c_z_L25 (0 : Int32).toNatClampNeg v1) (fun c_z_51 : Nat → Int32 => some (v2_22, c_z_51, c_past_13, c_pastMany_13)))) else (gd v3_L25 207 (lt' (upd c_z_L25 v3_L25.toNatClampNeg (0 : Int32)) (fun c_z_38 : Nat → Int32 => rec25 (v3_L25 + (1 : Int32)) c_z_38)))
noncomputable def f_X6_begin (c_z : Nat → Int32) (c_past : Nat → Int32) (c_pastMany : Int32) (v1 : Int32) : Option (Int32 × (Nat → Int32) × (Nat → Int32) × Int32) :=
  ob1 (f_X6_in v1 (2 : Int32) (5 : Int32)) (fun (r_3 : Int32) => if r_3 = (0 : Int32) then (some ((-2 : Int32), c_z, c_past, c_pastMany)) else (ob2 (f_X6_record c_z c_past c_pastMany) (fun (c_past_13 : Nat → Int32) (c_pastMany_13 : Int32) => gd (1 : Int32) 207 (lt' (c_z (1 : Int32).toNatClampNeg) (fun v2_22 : Int32 => lo2 (f_X6_begin_L25 v1 c_past_13 c_pastMany_13 v2_22) FU (0 : Int32) c_z)))))
set_option maxHeartbeats 4000000 in
set_option maxRecDepth 100000 in
theorem c_X6_begin (l : Launch) (dC : Nat → ClassId) (dI : Nat → Nat → Nat) (ck : Nat → ClassId) (a0 a0_z a0_past a0_slots a0_isSaved a0_pad a0_yes a0_no a0_yesThen a0_noThen a0_yesRound a0_yesRule a0_noRound a0_noRule a0_orders : Nat) (c_z : Nat → Int32) (c_past : Nat → Int32) (c_slots : Nat → Int32) (c_isSaved : Nat → Int32) (c_pastMany : Int32) (c_pad : Nat → Int32) (c_typed : Int32) (c_yes : Nat → Int32) (c_no : Nat → Int32) (c_yesThen : Nat → Int32) (c_noThen : Nat → Int32) (c_yesRound : Nat → Int32) (c_yesRule : Nat → Int32) (c_noRound : Nat → Int32) (c_noRule : Nat → Int32) (c_rounds : Int32) (c_isMore : Int32) (c_orders : Nat → Int32) (c_orderMany : Int32) (c_spot : Int32) (c_bad : Int32) (v1 : Int32) (o0 : Int32) (o1 : Nat → Int32) (o2 : Nat → Int32) (o3 : Int32) (h : f_X6_begin c_z c_past c_pastMany v1 = some (o0, o1, o2, o3)) : MI l yX6_begin wsX6_begin ({ frames := 1, cells := 0, slots := 0, locals := 22 }) [.ref a0, .int v1] (dC, dI) ck (wX6 ck a0 a0_z a0_past a0_slots a0_isSaved a0_pad a0_yes a0_no a0_yesThen a0_noThen a0_yesRound a0_yesRule a0_noRound a0_noRule a0_orders c_z c_past c_slots c_isSaved c_pastMany c_pad c_typed c_yes c_no c_yesThen c_noThen c_yesRound c_yesRule c_noRound c_noRule c_rounds c_isMore c_orders c_orderMany c_spot c_bad) (wX6 ck a0 a0_z a0_past a0_slots a0_isSaved a0_pad a0_yes a0_no a0_yesThen a0_noThen a0_yesRound a0_yesRule a0_noRound a0_noRule a0_orders o1 o2 c_slots c_isSaved o3 c_pad c_typed c_yes c_no c_yesThen c_noThen c_yesRound c_yesRule c_noRound c_noRule c_rounds c_isMore c_orders c_orderMany c_spot c_bad) o0 := by
  refine MI.ofW (cc := cX6_begin) (maxL := 4) (ret := (some .int)) (by decide +kernel) rfl (Nat.le_of_ble_eq_true rfl) ?_
  intro p e s m below meth c hx hb hr hml hts hown hlk hK hP A hA hD ls hl
  have hS : va_S A s.heap s.heap [] := va_S.rf
  have hown : s.vm.findClass RX6 = some m.cls := hown
  have hl : lv_has ls 4 [(0, .ref a0), (1, .int v1)] := hl
  have iu_X6 : ∀ w ∈ u_ws RX6 TX6 21, w ∈ wsX6_begin := fun w h => List.mem_cons_of_mem _ (List.mem_append_right _ h)
  unfold f_X6_begin at h
  refine lv_iload_n hx hb dX6_begin_0 rfl (lv_at hl 1 rfl) ?_
  refine lv_iconst (v := (2 : Int32)) hx hb dX6_begin_1 rfl ?_
  refine lv_iconst (v := (5 : Int32)) hx hb dX6_begin_2 rfl ?_
  obtain ⟨r_3, q_3, h⟩ := ob1_e h
  refine cRS (wc := []) ⟨hx, hb, hml, hown, hts⟩ hK hP [] rfl (c_X6_in l dC dI ck v1 (2 : Int32) (5 : Int32) r_3 q_3) (va_cwS 3 hts gX6_begin_X6_in rfl rfl rfl (by decide +kernel) ⟨Nat.le_of_ble_eq_true rfl, Nat.le_of_ble_eq_true rfl⟩) rfl hl.1 rfl (Nat.le_of_ble_eq_true rfl) dX6_begin_3 ⟨Nat.zero_le _, Nat.zero_le _⟩ ?_
  refine lv_if_ne (tgt := 12) hx hb dX6_begin_6 (by decide) (fun c_6 => ?_) (fun c_6 => ?_)
  · have h := if_f h c_6
    refine lv_aload_n hx hb dX6_begin_12 rfl (lv_at hl 0 rfl) ?_
    obtain ⟨c_past_13, c_pastMany_13, q_13, h⟩ := ob2_e h
    refine cMV (wc := wX6 ck a0 a0_z a0_past a0_slots a0_isSaved a0_pad a0_yes a0_no a0_yesThen a0_noThen a0_yesRound a0_yesRule a0_noRound a0_noRule a0_orders c_z c_past c_slots c_isSaved c_pastMany c_pad c_typed c_yes c_no c_yesThen c_noThen c_yesRound c_yesRule c_noRound c_noRule c_rounds c_isMore c_orders c_orderMany c_spot c_bad) (wr := []) (w1 := wX6 ck a0 a0_z a0_past a0_slots a0_isSaved a0_pad a0_yes a0_no a0_yesThen a0_noThen a0_yesRound a0_yesRule a0_noRound a0_noRule a0_orders c_z c_past_13 c_slots c_isSaved c_pastMany_13 c_pad c_typed c_yes c_no c_yesThen c_noThen c_yesRound c_yesRule c_noRound c_noRule c_rounds c_isMore c_orders c_orderMany c_spot c_bad) (wn := wX6 ck a0 a0_z a0_past a0_slots a0_isSaved a0_pad a0_yes a0_no a0_yesThen a0_noThen a0_yesRound a0_yesRule a0_noRound a0_noRule a0_orders c_z c_past_13 c_slots c_isSaved c_pastMany_13 c_pad c_typed c_yes c_no c_yesThen c_noThen c_yesRound c_yesRule c_noRound c_noRule c_rounds c_isMore c_orders c_orderMany c_spot c_bad) ⟨hx, hb, hml, hown, hts⟩ hK hP hD hS hA [0, 1, 2, 3, 4, 5, 6, 7, 8, 9, 10, 11, 12, 13, 14] [] [0, 1, 2, 3, 4, 5, 6, 7, 8, 9, 10, 11, 12, 13, 14] rfl (by decide) rfl (by decide) (by decide) rfl (by decide) (c_X6_record l dC dI ck a0 a0_z a0_past a0_slots a0_isSaved a0_pad a0_yes a0_no a0_yesThen a0_noThen a0_yesRound a0_yesRule a0_noRound a0_noRule a0_orders c_z c_past c_slots c_isSaved c_pastMany c_pad c_typed c_yes c_no c_yesThen c_noThen c_yesRound c_yesRule c_noRound c_noRule c_rounds c_isMore c_orders c_orderMany c_spot c_bad c_past_13 c_pastMany_13 q_13) (cwV 0 hts gX6_begin_X6_record rfl rfl rfl (by decide +kernel) ⟨Nat.le_of_ble_eq_true rfl, Nat.le_of_ble_eq_true rfl⟩) 0 rfl rfl rfl hl.1 rfl (Nat.le_of_ble_eq_true rfl) dX6_begin_13 ⟨Nat.zero_le _, Nat.zero_le _⟩ (fun H locs hP hD hS => ?_)
    refine lv_aload_n hx hb dX6_begin_16 rfl (lv_at hl 0 rfl) ?_
    refine va_get (ci := 6) (v := .ref a0_z) (C := RX6) (T := TX6) (N := 21) hx hb hts iu_X6 hown hK.1 hP 0 rfl rfl 0 (by decide) (hts (.fieldLink RX6 7 "SheetMarksModel" "z" "[I") (List.mem_of_getElem? (i := 1) rfl)) (fun _ h9 => h9) rfl dX6_begin_17 ?_
    refine lv_iconst (v := (1 : Int32)) hx hb dX6_begin_20 rfl ?_
    obtain ⟨g_21, h⟩ := gd_e h
    refine va_iald hx hb hK.1 hP 1 0 rfl rfl g_21 dX6_begin_21 ?_
    refine lv_topi (fun v2_22 e_22 => ?_)
    have h := lt'_e e_22 h
    refine lv_istore_n (lv' := [(2, .int v2_22), (0, .ref a0), (1, .int v1)]) hx hb dX6_begin_22 rfl hl (by decide) rfl (fun ls hl => ?_)
    refine lv_iconst (v := (0 : Int32)) hx hb dX6_begin_23 rfl ?_
    refine lv_istore_n (lv' := [(3, .int (0 : Int32)), (2, .int v2_22), (0, .ref a0), (1, .int v1)]) hx hb dX6_begin_24 rfl hl (by decide) rfl (fun ls hl => ?_)
    have hL25 : ∀ (n25 : Nat) (v3_L25 : Int32) (c_z_L25 : Nat → Int32), lo2 (f_X6_begin_L25 v1 c_past_13 c_pastMany_13 v2_22) n25 v3_L25 c_z_L25 = some (o0, o1, o2, o3) → ∀ (H : Heap) (locs : List Loc), va_P (dC, dI) vwCl (wX6 ck a0 a0_z a0_past a0_slots a0_isSaved a0_pad a0_yes a0_no a0_yesThen a0_noThen a0_yesRound a0_yesRule a0_noRound a0_noRule a0_orders c_z_L25 c_past_13 c_slots c_isSaved c_pastMany_13 c_pad c_typed c_yes c_no c_yesThen c_noThen c_yesRound c_yesRule c_noRound c_noRule c_rounds c_isMore c_orders c_orderMany c_spot c_bad) H → va_D A (wX6 ck a0 a0_z a0_past a0_slots a0_isSaved a0_pad a0_yes a0_no a0_yesThen a0_noThen a0_yesRound a0_yesRule a0_noRound a0_noRule a0_orders c_z_L25 c_past_13 c_slots c_isSaved c_pastMany_13 c_pad c_typed c_yes c_no c_yesThen c_noThen c_yesRound c_yesRule c_noRound c_noRule c_rounds c_isMore c_orders c_orderMany c_spot c_bad) → va_S A s.heap H locs → ∀ ls : Array Slot, lv_has ls 4 [(3, .int v3_L25), (2, .int v2_22), (0, .ref a0), (1, .int v1)] → W p l e (headSpec wsX6_begin ({ frames := 1, cells := 0, slots := 0, locals := 22 })).room s m [.ref a0, .int v1].toArray below meth c H locs 0 0 (MQ below (QI (dC, dI) (wX6 ck a0 a0_z a0_past a0_slots a0_isSaved a0_pad a0_yes a0_no a0_yesThen a0_noThen a0_yesRound a0_yesRule a0_noRound a0_noRule a0_orders o1 o2 c_slots c_isSaved o3 c_pad c_typed c_yes c_no c_yesThen c_noThen c_yesRound c_yesRule c_noRound c_noRule c_rounds c_isMore c_orders c_orderMany c_spot c_bad) o0 A) [.ref a0, .int v1].toArray s 0 0 A) (F0 m 25 ls []) := by
      intro n25
      induction n25 with
      | zero => intro v3_L25 c_z_L25 h; exact lo2_z h
      | succ n25 ih25 =>
        intro v3_L25 c_z_L25 h H locs hP hD hS ls hl
        have h := lo2_s h
        unfold f_X6_begin_L25 at h
        refine lv_iload_n hx hb dX6_begin_25 rfl (lv_at hl 0 rfl) ?_
        refine lv_sipush (v := (207 : Int32)) hx hb dX6_begin_26 rfl ?_
        refine lv_icmp_ge (tgt := 45) hx hb dX6_begin_29 (by decide) (fun c_29 => ?_) (fun c_29 => ?_)
        · have h := if_t h c_29
          refine lv_aload_n hx hb dX6_begin_45 rfl (lv_at hl 2 rfl) ?_
          refine va_get (ci := 6) (v := .ref a0_z) (C := RX6) (T := TX6) (N := 21) hx hb hts iu_X6 hown hK.1 hP 0 rfl rfl 0 (by decide) (hts (.fieldLink RX6 7 "SheetMarksModel" "z" "[I") (List.mem_of_getElem? (i := 1) rfl)) (fun _ h9 => h9) rfl dX6_begin_46 ?_
          refine lv_iconst (v := (0 : Int32)) hx hb dX6_begin_49 rfl ?_
          refine lv_iload_n hx hb dX6_begin_50 rfl (lv_at hl 3 rfl) ?_
          obtain ⟨g_51, h⟩ := gd_e h
          refine va_iast hx hb hK.1 hP hD hS 1 0 rfl rfl g_51 dX6_begin_51 (fun H locs hP hD hS => ?_)
          obtain ⟨c_z_51, e_51⟩ : ∃ y : Nat → Int32, y = (upd c_z_L25 (0 : Int32).toNatClampNeg v1) := ⟨_, rfl⟩
          have h := lt'_e e_51 h
          have hP : va_P (dC, dI) vwCl (wX6 ck a0 a0_z a0_past a0_slots a0_isSaved a0_pad a0_yes a0_no a0_yesThen a0_noThen a0_yesRound a0_yesRule a0_noRound a0_noRule a0_orders c_z_51 c_past_13 c_slots c_isSaved c_pastMany_13 c_pad c_typed c_yes c_no c_yesThen c_noThen c_yesRound c_yesRule c_noRound c_noRule c_rounds c_isMore c_orders c_orderMany c_spot c_bad) H := by subst e_51; exact hP
          have hD : va_D A (wX6 ck a0 a0_z a0_past a0_slots a0_isSaved a0_pad a0_yes a0_no a0_yesThen a0_noThen a0_yesRound a0_yesRule a0_noRound a0_noRule a0_orders c_z_51 c_past_13 c_slots c_isSaved c_pastMany_13 c_pad c_typed c_yes c_no c_yesThen c_noThen c_yesRound c_yesRule c_noRound c_noRule c_rounds c_isMore c_orders c_orderMany c_spot c_bad) := by subst e_51; exact hD
          refine lv_iload_n hx hb dX6_begin_52 rfl (lv_at hl 1 rfl) ?_
          cases h
          exact eMi hx hb hr hlk hP hD hS rfl dX6_begin_53
        · have h := if_f h c_29
          refine lv_aload_n hx hb dX6_begin_32 rfl (lv_at hl 2 rfl) ?_
          refine va_get (ci := 6) (v := .ref a0_z) (C := RX6) (T := TX6) (N := 21) hx hb hts iu_X6 hown hK.1 hP 0 rfl rfl 0 (by decide) (hts (.fieldLink RX6 7 "SheetMarksModel" "z" "[I") (List.mem_of_getElem? (i := 1) rfl)) (fun _ h9 => h9) rfl dX6_begin_33 ?_
          refine lv_iload_n hx hb dX6_begin_36 rfl (lv_at hl 0 rfl) ?_
          refine lv_iconst (v := (0 : Int32)) hx hb dX6_begin_37 rfl ?_
          obtain ⟨g_38, h⟩ := gd_e h
          refine va_iast hx hb hK.1 hP hD hS 1 0 rfl rfl g_38 dX6_begin_38 (fun H locs hP hD hS => ?_)
          obtain ⟨c_z_38, e_38⟩ : ∃ y : Nat → Int32, y = (upd c_z_L25 v3_L25.toNatClampNeg (0 : Int32)) := ⟨_, rfl⟩
          have h := lt'_e e_38 h
          have hP : va_P (dC, dI) vwCl (wX6 ck a0 a0_z a0_past a0_slots a0_isSaved a0_pad a0_yes a0_no a0_yesThen a0_noThen a0_yesRound a0_yesRule a0_noRound a0_noRule a0_orders c_z_38 c_past_13 c_slots c_isSaved c_pastMany_13 c_pad c_typed c_yes c_no c_yesThen c_noThen c_yesRound c_yesRule c_noRound c_noRule c_rounds c_isMore c_orders c_orderMany c_spot c_bad) H := by subst e_38; exact hP
          have hD : va_D A (wX6 ck a0 a0_z a0_past a0_slots a0_isSaved a0_pad a0_yes a0_no a0_yesThen a0_noThen a0_yesRound a0_yesRule a0_noRound a0_noRule a0_orders c_z_38 c_past_13 c_slots c_isSaved c_pastMany_13 c_pad c_typed c_yes c_no c_yesThen c_noThen c_yesRound c_yesRule c_noRound c_noRule c_rounds c_isMore c_orders c_orderMany c_spot c_bad) := by subst e_38; exact hD
          refine lv_iinc (v := (v3_L25 + (1 : Int32))) (lv' := [(3, .int (v3_L25 + (1 : Int32))), (2, .int v2_22), (0, .ref a0), (1, .int v1)]) hx hb dX6_begin_39 hl (k := 0) rfl rfl (by decide) rfl (fun ls hl => ?_)
          refine lv_goto (tgt := 25) hx hb dX6_begin_42 (by decide) ?_
          exact ih25 _ _ h _ _ hP hD hS _ (lv_sub hl [0, 1, 2, 3] rfl)
    exact hL25 _ _ _ h _ _ hP hD hS _ (lv_sub hl [0, 1, 2, 3] rfl)
  · have h := if_t h c_6
    refine lv_bipush (v := (-2 : Int32)) hx hb dX6_begin_9 rfl ?_
    cases h
    exact eMi hx hb hr hlk hP hD hS rfl dX6_begin_11
noncomputable def f_X6_whyNotHolds (c_z : Nat → Int32) (v1 : Int32) (v2 : Int32) : Option (Int32) :=
  ob1 (f_X6_isPlayer c_z v1) (fun (r_2 : Int32) => if r_2 = (0 : Int32) then (some (-1 : Int32)) else (ob1 (f_X6_isCard v2) (fun (r_9 : Int32) => if r_9 = (0 : Int32) then (some (-1 : Int32)) else (gd (1 : Int32) 207 (if (c_z (1 : Int32).toNatClampNeg) = (40 : Int32) then (some (-4 : Int32)) else (some (0 : Int32)))))))
set_option maxHeartbeats 4000000 in
set_option maxRecDepth 100000 in
theorem c_X6_whyNotHolds (l : Launch) (dC : Nat → ClassId) (dI : Nat → Nat → Nat) (ck : Nat → ClassId) (a0 a0_z a0_past a0_slots a0_isSaved a0_pad a0_yes a0_no a0_yesThen a0_noThen a0_yesRound a0_yesRule a0_noRound a0_noRule a0_orders : Nat) (c_z : Nat → Int32) (c_past : Nat → Int32) (c_slots : Nat → Int32) (c_isSaved : Nat → Int32) (c_pastMany : Int32) (c_pad : Nat → Int32) (c_typed : Int32) (c_yes : Nat → Int32) (c_no : Nat → Int32) (c_yesThen : Nat → Int32) (c_noThen : Nat → Int32) (c_yesRound : Nat → Int32) (c_yesRule : Nat → Int32) (c_noRound : Nat → Int32) (c_noRule : Nat → Int32) (c_rounds : Int32) (c_isMore : Int32) (c_orders : Nat → Int32) (c_orderMany : Int32) (c_spot : Int32) (c_bad : Int32) (v1 : Int32) (v2 : Int32) (o0 : Int32) (h : f_X6_whyNotHolds c_z v1 v2 = some o0) : RD l yX6_whyNotHolds wsX6_whyNotHolds ({ frames := 2, cells := 0, slots := 0, locals := 42 }) [.ref a0, .int v1, .int v2] (dC, dI) ck (wX6 ck a0 a0_z a0_past a0_slots a0_isSaved a0_pad a0_yes a0_no a0_yesThen a0_noThen a0_yesRound a0_yesRule a0_noRound a0_noRule a0_orders c_z c_past c_slots c_isSaved c_pastMany c_pad c_typed c_yes c_no c_yesThen c_noThen c_yesRound c_yesRule c_noRound c_noRule c_rounds c_isMore c_orders c_orderMany c_spot c_bad) o0 := by
  refine RD.ofW (cc := cX6_whyNotHolds) (maxL := 3) (ret := (some .int)) (by decide +kernel) rfl (Nat.le_of_ble_eq_true rfl) ?_
  intro p e s m below meth c hx hb hr hml hts hown hlk hK hP ls hl
  have hown : s.vm.findClass RX6 = some m.cls := hown
  have hl : lv_has ls 3 [(0, .ref a0), (1, .int v1), (2, .int v2)] := hl
  have iu_X6 : ∀ w ∈ u_ws RX6 TX6 21, w ∈ wsX6_whyNotHolds := fun w h => List.mem_cons_of_mem _ (List.mem_append_right _ h)
  unfold f_X6_whyNotHolds at h
  refine lv_aload_n hx hb dX6_whyNotHolds_0 rfl (lv_at hl 0 rfl) ?_
  refine lv_iload_n hx hb dX6_whyNotHolds_1 rfl (lv_at hl 1 rfl) ?_
  obtain ⟨r_2, q_2, h⟩ := ob1_e h
  refine cRV (wc := wX6 ck a0 a0_z a0_past a0_slots a0_isSaved a0_pad a0_yes a0_no a0_yesThen a0_noThen a0_yesRound a0_yesRule a0_noRound a0_noRule a0_orders c_z c_past c_slots c_isSaved c_pastMany c_pad c_typed c_yes c_no c_yesThen c_noThen c_yesRound c_yesRule c_noRound c_noRule c_rounds c_isMore c_orders c_orderMany c_spot c_bad) ⟨hx, hb, hml, hown, hts⟩ hK hP [0, 1, 2, 3, 4, 5, 6, 7, 8, 9, 10, 11, 12, 13, 14] rfl (c_X6_isPlayer l dC dI ck a0 a0_z a0_past a0_slots a0_isSaved a0_pad a0_yes a0_no a0_yesThen a0_noThen a0_yesRound a0_yesRule a0_noRound a0_noRule a0_orders c_z c_past c_slots c_isSaved c_pastMany c_pad c_typed c_yes c_no c_yesThen c_noThen c_yesRound c_yesRule c_noRound c_noRule c_rounds c_isMore c_orders c_orderMany c_spot c_bad v1 r_2 q_2) (cwV 1 hts gX6_whyNotHolds_X6_isPlayer rfl rfl rfl (by decide +kernel) ⟨Nat.le_of_ble_eq_true rfl, Nat.le_of_ble_eq_true rfl⟩) 0 rfl rfl rfl hl.1 rfl (Nat.le_of_ble_eq_true rfl) dX6_whyNotHolds_2 ⟨Nat.zero_le _, Nat.zero_le _⟩ ?_
  refine lv_if_eq (tgt := 15) hx hb dX6_whyNotHolds_5 (by decide) (fun c_5 => ?_) (fun c_5 => ?_)
  · have h := if_t h c_5
    refine lv_iconst (v := (-1 : Int32)) hx hb dX6_whyNotHolds_15 rfl ?_
    refine lv_goto (tgt := 36) hx hb dX6_whyNotHolds_16 (by decide) ?_
    cases h
    exact eRi hx hb hr hlk rfl dX6_whyNotHolds_36
  · have h := if_f h c_5
    refine lv_iload_n hx hb dX6_whyNotHolds_8 rfl (lv_at hl 2 rfl) ?_
    obtain ⟨r_9, q_9, h⟩ := ob1_e h
    refine cRS (wc := []) ⟨hx, hb, hml, hown, hts⟩ hK hP [] rfl (c_X6_isCard l dC dI ck v2 r_9 q_9) (va_cwS 1 hts gX6_whyNotHolds_X6_isCard rfl rfl rfl (by decide +kernel) ⟨Nat.le_of_ble_eq_true rfl, Nat.le_of_ble_eq_true rfl⟩) rfl hl.1 rfl (Nat.le_of_ble_eq_true rfl) dX6_whyNotHolds_9 ⟨Nat.zero_le _, Nat.zero_le _⟩ ?_
    refine lv_if_ne (tgt := 19) hx hb dX6_whyNotHolds_12 (by decide) (fun c_12 => ?_) (fun c_12 => ?_)
    · have h := if_f h c_12
      refine lv_aload_n hx hb dX6_whyNotHolds_19 rfl (lv_at hl 0 rfl) ?_
      refine va_get (ci := 6) (v := .ref a0_z) (C := RX6) (T := TX6) (N := 21) hx hb hts iu_X6 hown hK.1 hP 0 rfl rfl 0 (by decide) (hts (.fieldLink RX6 7 "SheetMarksModel" "z" "[I") (List.mem_of_getElem? (i := 1) rfl)) (fun _ h9 => h9) rfl dX6_whyNotHolds_20 ?_
      refine lv_iconst (v := (1 : Int32)) hx hb dX6_whyNotHolds_23 rfl ?_
      obtain ⟨g_24, h⟩ := gd_e h
      refine va_iald hx hb hK.1 hP 1 0 rfl rfl g_24 dX6_whyNotHolds_24 ?_
      refine lv_bipush (v := (40 : Int32)) hx hb dX6_whyNotHolds_25 rfl ?_
      refine lv_icmp_ne (tgt := 35) hx hb dX6_whyNotHolds_27 (by decide) (fun c_27 => ?_) (fun c_27 => ?_)
      · have h := if_f h c_27
        refine lv_iconst (v := (0 : Int32)) hx hb dX6_whyNotHolds_35 rfl ?_
        cases h
        exact eRi hx hb hr hlk rfl dX6_whyNotHolds_36
      · have h := if_t h c_27
        refine lv_bipush (v := (-4 : Int32)) hx hb dX6_whyNotHolds_30 rfl ?_
        refine lv_goto (tgt := 36) hx hb dX6_whyNotHolds_32 (by decide) ?_
        cases h
        exact eRi hx hb hr hlk rfl dX6_whyNotHolds_36
    · have h := if_t h c_12
      refine lv_iconst (v := (-1 : Int32)) hx hb dX6_whyNotHolds_15 rfl ?_
      refine lv_goto (tgt := 36) hx hb dX6_whyNotHolds_16 (by decide) ?_
      cases h
      exact eRi hx hb hr hlk rfl dX6_whyNotHolds_36
noncomputable def f_X6_holds (c_z : Nat → Int32) (c_past : Nat → Int32) (c_pastMany : Int32) (c_yes : Nat → Int32) (c_no : Nat → Int32) (c_yesThen : Nat → Int32) (c_noThen : Nat → Int32) (c_yesRound : Nat → Int32) (c_yesRule : Nat → Int32) (c_noRound : Nat → Int32) (c_noRule : Nat → Int32) (c_rounds : Int32) (c_isMore : Int32) (v1 : Int32) (v2 : Int32) : Option (Int32 × (Nat → Int32) × (Nat → Int32) × Int32 × (Nat → Int32) × (Nat → Int32) × (Nat → Int32) × (Nat → Int32) × (Nat → Int32) × (Nat → Int32) × (Nat → Int32) × (Nat → Int32) × Int32 × Int32) :=
  ob1 (f_X6_whyNotHolds c_z v1 v2) (fun (r_3 : Int32) => if (0 : Int32) ≤ r_3 then (ob2 (f_X6_record c_z c_past c_pastMany) (fun (c_past_14 : Nat → Int32) (c_pastMany_14 : Int32) => ob1 (f_X6_add c_z (0 : Int32) v1 v2 (-6 : Int32) (-6 : Int32)) (fun (c_z_25 : Nat → Int32) => ob11 (f_X6_marks c_z_25 c_yes c_no c_yesThen c_noThen c_yesRound c_yesRule c_noRound c_noRule c_rounds c_isMore) (fun (r_29 : Int32) (c_yes_29 : Nat → Int32) (c_no_29 : Nat → Int32) (c_yesThen_29 : Nat → Int32) (c_noThen_29 : Nat → Int32) (c_yesRound_29 : Nat → Int32) (c_yesRule_29 : Nat → Int32) (c_noRound_29 : Nat → Int32) (c_noRule_29 : Nat → Int32) (c_rounds_29 : Int32) (c_isMore_29 : Int32) => some (r_29, c_z_25, c_past_14, c_pastMany_14, c_yes_29, c_no_29, c_yesThen_29, c_noThen_29, c_yesRound_29, c_yesRule_29, c_noRound_29, c_noRule_29, c_rounds_29, c_isMore_29))))) else (some (r_3, c_z, c_past, c_pastMany, c_yes, c_no, c_yesThen, c_noThen, c_yesRound, c_yesRule, c_noRound, c_noRule, c_rounds, c_isMore)))
set_option maxHeartbeats 4000000 in
set_option maxRecDepth 100000 in
theorem c_X6_holds (l : Launch) (dC : Nat → ClassId) (dI : Nat → Nat → Nat) (ck : Nat → ClassId) (a0 a0_z a0_past a0_slots a0_isSaved a0_pad a0_yes a0_no a0_yesThen a0_noThen a0_yesRound a0_yesRule a0_noRound a0_noRule a0_orders : Nat) (c_z : Nat → Int32) (c_past : Nat → Int32) (c_slots : Nat → Int32) (c_isSaved : Nat → Int32) (c_pastMany : Int32) (c_pad : Nat → Int32) (c_typed : Int32) (c_yes : Nat → Int32) (c_no : Nat → Int32) (c_yesThen : Nat → Int32) (c_noThen : Nat → Int32) (c_yesRound : Nat → Int32) (c_yesRule : Nat → Int32) (c_noRound : Nat → Int32) (c_noRule : Nat → Int32) (c_rounds : Int32) (c_isMore : Int32) (c_orders : Nat → Int32) (c_orderMany : Int32) (c_spot : Int32) (c_bad : Int32) (v1 : Int32) (v2 : Int32) (o0 : Int32) (o1 : Nat → Int32) (o2 : Nat → Int32) (o3 : Int32) (o4 : Nat → Int32) (o5 : Nat → Int32) (o6 : Nat → Int32) (o7 : Nat → Int32) (o8 : Nat → Int32) (o9 : Nat → Int32) (o10 : Nat → Int32) (o11 : Nat → Int32) (o12 : Int32) (o13 : Int32) (h : f_X6_holds c_z c_past c_pastMany c_yes c_no c_yesThen c_noThen c_yesRound c_yesRule c_noRound c_noRule c_rounds c_isMore v1 v2 = some (o0, o1, o2, o3, o4, o5, o6, o7, o8, o9, o10, o11, o12, o13)) : MI l yX6_holds wsX6_holds ({ frames := 7, cells := 0, slots := 0, locals := 159 }) [.ref a0, .int v1, .int v2] (dC, dI) ck (wX6 ck a0 a0_z a0_past a0_slots a0_isSaved a0_pad a0_yes a0_no a0_yesThen a0_noThen a0_yesRound a0_yesRule a0_noRound a0_noRule a0_orders c_z c_past c_slots c_isSaved c_pastMany c_pad c_typed c_yes c_no c_yesThen c_noThen c_yesRound c_yesRule c_noRound c_noRule c_rounds c_isMore c_orders c_orderMany c_spot c_bad) (wX6 ck a0 a0_z a0_past a0_slots a0_isSaved a0_pad a0_yes a0_no a0_yesThen a0_noThen a0_yesRound a0_yesRule a0_noRound a0_noRule a0_orders o1 o2 c_slots c_isSaved o3 c_pad c_typed o4 o5 o6 o7 o8 o9 o10 o11 o12 o13 c_orders c_orderMany c_spot c_bad) o0 := by
  refine MI.ofW (cc := cX6_holds) (maxL := 4) (ret := (some .int)) (by decide +kernel) rfl (Nat.le_of_ble_eq_true rfl) ?_
  intro p e s m below meth c hx hb hr hml hts hown hlk hK hP A hA hD ls hl
  have hS : va_S A s.heap s.heap [] := va_S.rf
  have hown : s.vm.findClass RX6 = some m.cls := hown
  have hl : lv_has ls 4 [(0, .ref a0), (1, .int v1), (2, .int v2)] := hl
  unfold f_X6_holds at h
  refine lv_aload_n hx hb dX6_holds_0 rfl (lv_at hl 0 rfl) ?_
  refine lv_iload_n hx hb dX6_holds_1 rfl (lv_at hl 1 rfl) ?_
  refine lv_iload_n hx hb dX6_holds_2 rfl (lv_at hl 2 rfl) ?_
  obtain ⟨r_3, q_3, h⟩ := ob1_e h
  refine cRV (wc := wX6 ck a0 a0_z a0_past a0_slots a0_isSaved a0_pad a0_yes a0_no a0_yesThen a0_noThen a0_yesRound a0_yesRule a0_noRound a0_noRule a0_orders c_z c_past c_slots c_isSaved c_pastMany c_pad c_typed c_yes c_no c_yesThen c_noThen c_yesRound c_yesRule c_noRound c_noRule c_rounds c_isMore c_orders c_orderMany c_spot c_bad) ⟨hx, hb, hml, hown, hts⟩ hK hP [0, 1, 2, 3, 4, 5, 6, 7, 8, 9, 10, 11, 12, 13, 14] rfl (c_X6_whyNotHolds l dC dI ck a0 a0_z a0_past a0_slots a0_isSaved a0_pad a0_yes a0_no a0_yesThen a0_noThen a0_yesRound a0_yesRule a0_noRound a0_noRule a0_orders c_z c_past c_slots c_isSaved c_pastMany c_pad c_typed c_yes c_no c_yesThen c_noThen c_yesRound c_yesRule c_noRound c_noRule c_rounds c_isMore c_orders c_orderMany c_spot c_bad v1 v2 r_3 q_3) (cwV 2 hts gX6_holds_X6_whyNotHolds rfl rfl rfl (by decide +kernel) ⟨Nat.le_of_ble_eq_true rfl, Nat.le_of_ble_eq_true rfl⟩) 0 rfl rfl rfl hl.1 rfl (Nat.le_of_ble_eq_true rfl) dX6_holds_3 ⟨Nat.zero_le _, Nat.zero_le _⟩ ?_
  refine lv_istore_n (lv' := [(3, .int r_3), (0, .ref a0), (1, .int v1), (2, .int v2)]) hx hb dX6_holds_6 rfl hl (by decide) rfl (fun ls hl => ?_)
  refine lv_iload_n hx hb dX6_holds_7 rfl (lv_at hl 0 rfl) ?_
  refine lv_if_ge (tgt := 13) hx hb dX6_holds_8 (by decide) (fun c_8 => ?_) (fun c_8 => ?_)
  · have h := if_t h c_8
    refine lv_aload_n hx hb dX6_holds_13 rfl (lv_at hl 1 rfl) ?_
    obtain ⟨c_past_14, c_pastMany_14, q_14, h⟩ := ob2_e h
    refine cMV (wc := wX6 ck a0 a0_z a0_past a0_slots a0_isSaved a0_pad a0_yes a0_no a0_yesThen a0_noThen a0_yesRound a0_yesRule a0_noRound a0_noRule a0_orders c_z c_past c_slots c_isSaved c_pastMany c_pad c_typed c_yes c_no c_yesThen c_noThen c_yesRound c_yesRule c_noRound c_noRule c_rounds c_isMore c_orders c_orderMany c_spot c_bad) (wr := []) (w1 := wX6 ck a0 a0_z a0_past a0_slots a0_isSaved a0_pad a0_yes a0_no a0_yesThen a0_noThen a0_yesRound a0_yesRule a0_noRound a0_noRule a0_orders c_z c_past_14 c_slots c_isSaved c_pastMany_14 c_pad c_typed c_yes c_no c_yesThen c_noThen c_yesRound c_yesRule c_noRound c_noRule c_rounds c_isMore c_orders c_orderMany c_spot c_bad) (wn := wX6 ck a0 a0_z a0_past a0_slots a0_isSaved a0_pad a0_yes a0_no a0_yesThen a0_noThen a0_yesRound a0_yesRule a0_noRound a0_noRule a0_orders c_z c_past_14 c_slots c_isSaved c_pastMany_14 c_pad c_typed c_yes c_no c_yesThen c_noThen c_yesRound c_yesRule c_noRound c_noRule c_rounds c_isMore c_orders c_orderMany c_spot c_bad) ⟨hx, hb, hml, hown, hts⟩ hK hP hD hS hA [0, 1, 2, 3, 4, 5, 6, 7, 8, 9, 10, 11, 12, 13, 14] [] [0, 1, 2, 3, 4, 5, 6, 7, 8, 9, 10, 11, 12, 13, 14] rfl (by decide) rfl (by decide) (by decide) rfl (by decide) (c_X6_record l dC dI ck a0 a0_z a0_past a0_slots a0_isSaved a0_pad a0_yes a0_no a0_yesThen a0_noThen a0_yesRound a0_yesRule a0_noRound a0_noRule a0_orders c_z c_past c_slots c_isSaved c_pastMany c_pad c_typed c_yes c_no c_yesThen c_noThen c_yesRound c_yesRule c_noRound c_noRule c_rounds c_isMore c_orders c_orderMany c_spot c_bad c_past_14 c_pastMany_14 q_14) (cwV 0 hts gX6_holds_X6_record rfl rfl rfl (by decide +kernel) ⟨Nat.le_of_ble_eq_true rfl, Nat.le_of_ble_eq_true rfl⟩) 0 rfl rfl rfl hl.1 rfl (Nat.le_of_ble_eq_true rfl) dX6_holds_14 ⟨Nat.zero_le _, Nat.zero_le _⟩ (fun H locs hP hD hS => ?_)
    refine lv_aload_n hx hb dX6_holds_17 rfl (lv_at hl 1 rfl) ?_
    refine lv_iconst (v := (0 : Int32)) hx hb dX6_holds_18 rfl ?_
    refine lv_iload_n hx hb dX6_holds_19 rfl (lv_at hl 2 rfl) ?_
    refine lv_iload_n hx hb dX6_holds_20 rfl (lv_at hl 3 rfl) ?_
    refine lv_bipush (v := (-6 : Int32)) hx hb dX6_holds_21 rfl ?_
    refine lv_bipush (v := (-6 : Int32)) hx hb dX6_holds_23 rfl ?_
    obtain ⟨c_z_25, q_25, h⟩ := ob1_e h
    refine cMV (wc := wX6 ck a0 a0_z a0_past a0_slots a0_isSaved a0_pad a0_yes a0_no a0_yesThen a0_noThen a0_yesRound a0_yesRule a0_noRound a0_noRule a0_orders c_z c_past_14 c_slots c_isSaved c_pastMany_14 c_pad c_typed c_yes c_no c_yesThen c_noThen c_yesRound c_yesRule c_noRound c_noRule c_rounds c_isMore c_orders c_orderMany c_spot c_bad) (wr := []) (w1 := wX6 ck a0 a0_z a0_past a0_slots a0_isSaved a0_pad a0_yes a0_no a0_yesThen a0_noThen a0_yesRound a0_yesRule a0_noRound a0_noRule a0_orders c_z_25 c_past_14 c_slots c_isSaved c_pastMany_14 c_pad c_typed c_yes c_no c_yesThen c_noThen c_yesRound c_yesRule c_noRound c_noRule c_rounds c_isMore c_orders c_orderMany c_spot c_bad) (wn := wX6 ck a0 a0_z a0_past a0_slots a0_isSaved a0_pad a0_yes a0_no a0_yesThen a0_noThen a0_yesRound a0_yesRule a0_noRound a0_noRule a0_orders c_z_25 c_past_14 c_slots c_isSaved c_pastMany_14 c_pad c_typed c_yes c_no c_yesThen c_noThen c_yesRound c_yesRule c_noRound c_noRule c_rounds c_isMore c_orders c_orderMany c_spot c_bad) ⟨hx, hb, hml, hown, hts⟩ hK hP hD hS hA [0, 1, 2, 3, 4, 5, 6, 7, 8, 9, 10, 11, 12, 13, 14] [] [0, 1, 2, 3, 4, 5, 6, 7, 8, 9, 10, 11, 12, 13, 14] rfl (by decide) rfl (by decide) (by decide) rfl (by decide) (c_X6_add l dC dI ck a0 a0_z a0_past a0_slots a0_isSaved a0_pad a0_yes a0_no a0_yesThen a0_noThen a0_yesRound a0_yesRule a0_noRound a0_noRule a0_orders c_z c_past_14 c_slots c_isSaved c_pastMany_14 c_pad c_typed c_yes c_no c_yesThen c_noThen c_yesRound c_yesRule c_noRound c_noRule c_rounds c_isMore c_orders c_orderMany c_spot c_bad (0 : Int32) v1 v2 (-6 : Int32) (-6 : Int32) c_z_25 q_25) (cwV 5 hts gX6_holds_X6_add rfl rfl rfl (by decide +kernel) ⟨Nat.le_of_ble_eq_true rfl, Nat.le_of_ble_eq_true rfl⟩) 0 rfl rfl rfl hl.1 rfl (Nat.le_of_ble_eq_true rfl) dX6_holds_25 ⟨Nat.zero_le _, Nat.zero_le _⟩ (fun H locs hP hD hS => ?_)
    refine lv_aload_n hx hb dX6_holds_28 rfl (lv_at hl 1 rfl) ?_
    obtain ⟨r_29, c_yes_29, c_no_29, c_yesThen_29, c_noThen_29, c_yesRound_29, c_yesRule_29, c_noRound_29, c_noRule_29, c_rounds_29, c_isMore_29, q_29, h⟩ := ob11_e h
    refine cMI (wc := wX6 ck a0 a0_z a0_past a0_slots a0_isSaved a0_pad a0_yes a0_no a0_yesThen a0_noThen a0_yesRound a0_yesRule a0_noRound a0_noRule a0_orders c_z_25 c_past_14 c_slots c_isSaved c_pastMany_14 c_pad c_typed c_yes c_no c_yesThen c_noThen c_yesRound c_yesRule c_noRound c_noRule c_rounds c_isMore c_orders c_orderMany c_spot c_bad) (wr := []) (w1 := wX6 ck a0 a0_z a0_past a0_slots a0_isSaved a0_pad a0_yes a0_no a0_yesThen a0_noThen a0_yesRound a0_yesRule a0_noRound a0_noRule a0_orders c_z_25 c_past_14 c_slots c_isSaved c_pastMany_14 c_pad c_typed c_yes_29 c_no_29 c_yesThen_29 c_noThen_29 c_yesRound_29 c_yesRule_29 c_noRound_29 c_noRule_29 c_rounds_29 c_isMore_29 c_orders c_orderMany c_spot c_bad) (wn := wX6 ck a0 a0_z a0_past a0_slots a0_isSaved a0_pad a0_yes a0_no a0_yesThen a0_noThen a0_yesRound a0_yesRule a0_noRound a0_noRule a0_orders c_z_25 c_past_14 c_slots c_isSaved c_pastMany_14 c_pad c_typed c_yes_29 c_no_29 c_yesThen_29 c_noThen_29 c_yesRound_29 c_yesRule_29 c_noRound_29 c_noRule_29 c_rounds_29 c_isMore_29 c_orders c_orderMany c_spot c_bad) ⟨hx, hb, hml, hown, hts⟩ hK hP hD hS hA [0, 1, 2, 3, 4, 5, 6, 7, 8, 9, 10, 11, 12, 13, 14] [] [0, 1, 2, 3, 4, 5, 6, 7, 8, 9, 10, 11, 12, 13, 14] rfl (by decide) rfl (by decide) (by decide) rfl (by decide) (c_X6_marks l dC dI ck a0 a0_z a0_past a0_slots a0_isSaved a0_pad a0_yes a0_no a0_yesThen a0_noThen a0_yesRound a0_yesRule a0_noRound a0_noRule a0_orders c_z_25 c_past_14 c_slots c_isSaved c_pastMany_14 c_pad c_typed c_yes c_no c_yesThen c_noThen c_yesRound c_yesRule c_noRound c_noRule c_rounds c_isMore c_orders c_orderMany c_spot c_bad r_29 c_yes_29 c_no_29 c_yesThen_29 c_noThen_29 c_yesRound_29 c_yesRule_29 c_noRound_29 c_noRule_29 c_rounds_29 c_isMore_29 q_29) (cwV 0 hts gX6_holds_X6_marks rfl rfl rfl (by decide +kernel) ⟨Nat.le_of_ble_eq_true rfl, Nat.le_of_ble_eq_true rfl⟩) 0 rfl rfl rfl hl.1 rfl (Nat.le_of_ble_eq_true rfl) dX6_holds_29 ⟨Nat.zero_le _, Nat.zero_le _⟩ (fun H locs hP hD hS => ?_)
    cases h
    exact eMi hx hb hr hlk hP hD hS rfl dX6_holds_32
  · have h := if_f h c_8
    refine lv_iload_n hx hb dX6_holds_11 rfl (lv_at hl 0 rfl) ?_
    cases h
    exact eMi hx hb hr hlk hP hD hS rfl dX6_holds_12
noncomputable def f_X6_whyNotAnswer (c_z : Nat → Int32) (v1 : Int32) (v2 : Int32) (v3 : Int32) (v4 : Int32) (v5 : Int32) : Option (Int32) :=
  ob1 (f_X6_isPlayer c_z v1) (fun (r_2 : Int32) => if r_2 = (0 : Int32) then (some (-1 : Int32)) else (ob1 (f_X6_areThree v3 v4 v5) (fun (r_13 : Int32) => if r_13 = (0 : Int32) then (some (-1 : Int32)) else (ob1 (f_X6_in v2 (0 : Int32) (1 : Int32)) (fun (r_24 : Int32) => if r_24 = (0 : Int32) then (some (-2 : Int32)) else (some (0 : Int32)))))))
set_option maxHeartbeats 4000000 in
set_option maxRecDepth 100000 in
theorem c_X6_whyNotAnswer (l : Launch) (dC : Nat → ClassId) (dI : Nat → Nat → Nat) (ck : Nat → ClassId) (a0 a0_z a0_past a0_slots a0_isSaved a0_pad a0_yes a0_no a0_yesThen a0_noThen a0_yesRound a0_yesRule a0_noRound a0_noRule a0_orders : Nat) (c_z : Nat → Int32) (c_past : Nat → Int32) (c_slots : Nat → Int32) (c_isSaved : Nat → Int32) (c_pastMany : Int32) (c_pad : Nat → Int32) (c_typed : Int32) (c_yes : Nat → Int32) (c_no : Nat → Int32) (c_yesThen : Nat → Int32) (c_noThen : Nat → Int32) (c_yesRound : Nat → Int32) (c_yesRule : Nat → Int32) (c_noRound : Nat → Int32) (c_noRule : Nat → Int32) (c_rounds : Int32) (c_isMore : Int32) (c_orders : Nat → Int32) (c_orderMany : Int32) (c_spot : Int32) (c_bad : Int32) (v1 : Int32) (v2 : Int32) (v3 : Int32) (v4 : Int32) (v5 : Int32) (o0 : Int32) (h : f_X6_whyNotAnswer c_z v1 v2 v3 v4 v5 = some o0) : RD l yX6_whyNotAnswer wsX6_whyNotAnswer ({ frames := 2, cells := 0, slots := 0, locals := 44 }) [.ref a0, .int v1, .int v2, .int v3, .int v4, .int v5] (dC, dI) ck (wX6 ck a0 a0_z a0_past a0_slots a0_isSaved a0_pad a0_yes a0_no a0_yesThen a0_noThen a0_yesRound a0_yesRule a0_noRound a0_noRule a0_orders c_z c_past c_slots c_isSaved c_pastMany c_pad c_typed c_yes c_no c_yesThen c_noThen c_yesRound c_yesRule c_noRound c_noRule c_rounds c_isMore c_orders c_orderMany c_spot c_bad) o0 := by
  refine RD.ofW (cc := cX6_whyNotAnswer) (maxL := 6) (ret := (some .int)) (by decide +kernel) rfl (Nat.le_of_ble_eq_true rfl) ?_
  intro p e s m below meth c hx hb hr hml hts hown hlk hK hP ls hl
  have hown : s.vm.findClass RX6 = some m.cls := hown
  have hl : lv_has ls 6 [(0, .ref a0), (1, .int v1), (2, .int v2), (3, .int v3), (4, .int v4), (5, .int v5)] := hl
  unfold f_X6_whyNotAnswer at h
  refine lv_aload_n hx hb dX6_whyNotAnswer_0 rfl (lv_at hl 0 rfl) ?_
  refine lv_iload_n hx hb dX6_whyNotAnswer_1 rfl (lv_at hl 1 rfl) ?_
  obtain ⟨r_2, q_2, h⟩ := ob1_e h
  refine cRV (wc := wX6 ck a0 a0_z a0_past a0_slots a0_isSaved a0_pad a0_yes a0_no a0_yesThen a0_noThen a0_yesRound a0_yesRule a0_noRound a0_noRule a0_orders c_z c_past c_slots c_isSaved c_pastMany c_pad c_typed c_yes c_no c_yesThen c_noThen c_yesRound c_yesRule c_noRound c_noRule c_rounds c_isMore c_orders c_orderMany c_spot c_bad) ⟨hx, hb, hml, hown, hts⟩ hK hP [0, 1, 2, 3, 4, 5, 6, 7, 8, 9, 10, 11, 12, 13, 14] rfl (c_X6_isPlayer l dC dI ck a0 a0_z a0_past a0_slots a0_isSaved a0_pad a0_yes a0_no a0_yesThen a0_noThen a0_yesRound a0_yesRule a0_noRound a0_noRule a0_orders c_z c_past c_slots c_isSaved c_pastMany c_pad c_typed c_yes c_no c_yesThen c_noThen c_yesRound c_yesRule c_noRound c_noRule c_rounds c_isMore c_orders c_orderMany c_spot c_bad v1 r_2 q_2) (cwV 1 hts gX6_whyNotAnswer_X6_isPlayer rfl rfl rfl (by decide +kernel) ⟨Nat.le_of_ble_eq_true rfl, Nat.le_of_ble_eq_true rfl⟩) 0 rfl rfl rfl hl.1 rfl (Nat.le_of_ble_eq_true rfl) dX6_whyNotAnswer_2 ⟨Nat.zero_le _, Nat.zero_le _⟩ ?_
  refine lv_if_eq (tgt := 19) hx hb dX6_whyNotAnswer_5 (by decide) (fun c_5 => ?_) (fun c_5 => ?_)
  · have h := if_t h c_5
    refine lv_iconst (v := (-1 : Int32)) hx hb dX6_whyNotAnswer_19 rfl ?_
    cases h
    exact eRi hx hb hr hlk rfl dX6_whyNotAnswer_20
  · have h := if_f h c_5
    refine lv_iload_n hx hb dX6_whyNotAnswer_8 rfl (lv_at hl 3 rfl) ?_
    refine lv_iload hx hb dX6_whyNotAnswer_9 (lv_at hl 4 rfl) ?_
    refine lv_iload hx hb dX6_whyNotAnswer_11 (lv_at hl 5 rfl) ?_
    obtain ⟨r_13, q_13, h⟩ := ob1_e h
    refine cRS (wc := []) ⟨hx, hb, hml, hown, hts⟩ hK hP [] rfl (c_X6_areThree l dC dI ck v3 v4 v5 r_13 q_13) (va_cwS 3 hts gX6_whyNotAnswer_X6_areThree rfl rfl rfl (by decide +kernel) ⟨Nat.le_of_ble_eq_true rfl, Nat.le_of_ble_eq_true rfl⟩) rfl hl.1 rfl (Nat.le_of_ble_eq_true rfl) dX6_whyNotAnswer_13 ⟨Nat.zero_le _, Nat.zero_le _⟩ ?_
    refine lv_if_ne (tgt := 21) hx hb dX6_whyNotAnswer_16 (by decide) (fun c_16 => ?_) (fun c_16 => ?_)
    · have h := if_f h c_16
      refine lv_iload_n hx hb dX6_whyNotAnswer_21 rfl (lv_at hl 2 rfl) ?_
      refine lv_iconst (v := (0 : Int32)) hx hb dX6_whyNotAnswer_22 rfl ?_
      refine lv_iconst (v := (1 : Int32)) hx hb dX6_whyNotAnswer_23 rfl ?_
      obtain ⟨r_24, q_24, h⟩ := ob1_e h
      refine cRS (wc := []) ⟨hx, hb, hml, hown, hts⟩ hK hP [] rfl (c_X6_in l dC dI ck v2 (0 : Int32) (1 : Int32) r_24 q_24) (va_cwS 3 hts gX6_whyNotAnswer_X6_in rfl rfl rfl (by decide +kernel) ⟨Nat.le_of_ble_eq_true rfl, Nat.le_of_ble_eq_true rfl⟩) rfl hl.1 rfl (Nat.le_of_ble_eq_true rfl) dX6_whyNotAnswer_24 ⟨Nat.zero_le _, Nat.zero_le _⟩ ?_
      refine lv_if_eq (tgt := 34) hx hb dX6_whyNotAnswer_27 (by decide) (fun c_27 => ?_) (fun c_27 => ?_)
      · have h := if_t h c_27
        refine lv_bipush (v := (-2 : Int32)) hx hb dX6_whyNotAnswer_34 rfl ?_
        cases h
        exact eRi hx hb hr hlk rfl dX6_whyNotAnswer_36
      · have h := if_f h c_27
        refine lv_iconst (v := (0 : Int32)) hx hb dX6_whyNotAnswer_30 rfl ?_
        refine lv_goto (tgt := 36) hx hb dX6_whyNotAnswer_31 (by decide) ?_
        cases h
        exact eRi hx hb hr hlk rfl dX6_whyNotAnswer_36
    · have h := if_t h c_16
      refine lv_iconst (v := (-1 : Int32)) hx hb dX6_whyNotAnswer_19 rfl ?_
      cases h
      exact eRi hx hb hr hlk rfl dX6_whyNotAnswer_20
noncomputable def f_X6_answers (c_z : Nat → Int32) (c_past : Nat → Int32) (c_pastMany : Int32) (c_yes : Nat → Int32) (c_no : Nat → Int32) (c_yesThen : Nat → Int32) (c_noThen : Nat → Int32) (c_yesRound : Nat → Int32) (c_yesRule : Nat → Int32) (c_noRound : Nat → Int32) (c_noRule : Nat → Int32) (c_rounds : Int32) (c_isMore : Int32) (v1 : Int32) (v2 : Int32) (v3 : Int32) (v4 : Int32) (v5 : Int32) : Option (Int32 × (Nat → Int32) × (Nat → Int32) × Int32 × (Nat → Int32) × (Nat → Int32) × (Nat → Int32) × (Nat → Int32) × (Nat → Int32) × (Nat → Int32) × (Nat → Int32) × (Nat → Int32) × Int32 × Int32) :=
  ob1 (f_X6_whyNotAnswer c_z v1 v2 v3 v4 v5) (fun (r_8 : Int32) => if (0 : Int32) ≤ r_8 then (gd (1 : Int32) 207 (if (c_z (1 : Int32).toNatClampNeg) = (40 : Int32) then (some ((-4 : Int32), c_z, c_past, c_pastMany, c_yes, c_no, c_yesThen, c_noThen, c_yesRound, c_yesRule, c_noRound, c_noRule, c_rounds, c_isMore)) else (ob2 (f_X6_record c_z c_past c_pastMany) (fun (c_past_36 : Nat → Int32) (c_pastMany_36 : Int32) => ob1 (f_X6_addThree c_z ((1 : Int32) + v2) v1 v3 v4 v5) (fun (c_z_49 : Nat → Int32) => ob11 (f_X6_marks c_z_49 c_yes c_no c_yesThen c_noThen c_yesRound c_yesRule c_noRound c_noRule c_rounds c_isMore) (fun (r_53 : Int32) (c_yes_53 : Nat → Int32) (c_no_53 : Nat → Int32) (c_yesThen_53 : Nat → Int32) (c_noThen_53 : Nat → Int32) (c_yesRound_53 : Nat → Int32) (c_yesRule_53 : Nat → Int32) (c_noRound_53 : Nat → Int32) (c_noRule_53 : Nat → Int32) (c_rounds_53 : Int32) (c_isMore_53 : Int32) => some (r_53, c_z_49, c_past_36, c_pastMany_36, c_yes_53, c_no_53, c_yesThen_53, c_noThen_53, c_yesRound_53, c_yesRule_53, c_noRound_53, c_noRule_53, c_rounds_53, c_isMore_53))))))) else (some (r_8, c_z, c_past, c_pastMany, c_yes, c_no, c_yesThen, c_noThen, c_yesRound, c_yesRule, c_noRound, c_noRule, c_rounds, c_isMore)))
set_option maxHeartbeats 4000000 in
set_option maxRecDepth 100000 in
theorem c_X6_answers (l : Launch) (dC : Nat → ClassId) (dI : Nat → Nat → Nat) (ck : Nat → ClassId) (a0 a0_z a0_past a0_slots a0_isSaved a0_pad a0_yes a0_no a0_yesThen a0_noThen a0_yesRound a0_yesRule a0_noRound a0_noRule a0_orders : Nat) (c_z : Nat → Int32) (c_past : Nat → Int32) (c_slots : Nat → Int32) (c_isSaved : Nat → Int32) (c_pastMany : Int32) (c_pad : Nat → Int32) (c_typed : Int32) (c_yes : Nat → Int32) (c_no : Nat → Int32) (c_yesThen : Nat → Int32) (c_noThen : Nat → Int32) (c_yesRound : Nat → Int32) (c_yesRule : Nat → Int32) (c_noRound : Nat → Int32) (c_noRule : Nat → Int32) (c_rounds : Int32) (c_isMore : Int32) (c_orders : Nat → Int32) (c_orderMany : Int32) (c_spot : Int32) (c_bad : Int32) (v1 : Int32) (v2 : Int32) (v3 : Int32) (v4 : Int32) (v5 : Int32) (o0 : Int32) (o1 : Nat → Int32) (o2 : Nat → Int32) (o3 : Int32) (o4 : Nat → Int32) (o5 : Nat → Int32) (o6 : Nat → Int32) (o7 : Nat → Int32) (o8 : Nat → Int32) (o9 : Nat → Int32) (o10 : Nat → Int32) (o11 : Nat → Int32) (o12 : Int32) (o13 : Int32) (h : f_X6_answers c_z c_past c_pastMany c_yes c_no c_yesThen c_noThen c_yesRound c_yesRule c_noRound c_noRule c_rounds c_isMore v1 v2 v3 v4 v5 = some (o0, o1, o2, o3, o4, o5, o6, o7, o8, o9, o10, o11, o12, o13)) : MI l yX6_answers wsX6_answers ({ frames := 7, cells := 0, slots := 0, locals := 159 }) [.ref a0, .int v1, .int v2, .int v3, .int v4, .int v5] (dC, dI) ck (wX6 ck a0 a0_z a0_past a0_slots a0_isSaved a0_pad a0_yes a0_no a0_yesThen a0_noThen a0_yesRound a0_yesRule a0_noRound a0_noRule a0_orders c_z c_past c_slots c_isSaved c_pastMany c_pad c_typed c_yes c_no c_yesThen c_noThen c_yesRound c_yesRule c_noRound c_noRule c_rounds c_isMore c_orders c_orderMany c_spot c_bad) (wX6 ck a0 a0_z a0_past a0_slots a0_isSaved a0_pad a0_yes a0_no a0_yesThen a0_noThen a0_yesRound a0_yesRule a0_noRound a0_noRule a0_orders o1 o2 c_slots c_isSaved o3 c_pad c_typed o4 o5 o6 o7 o8 o9 o10 o11 o12 o13 c_orders c_orderMany c_spot c_bad) o0 := by
  refine MI.ofW (cc := cX6_answers) (maxL := 7) (ret := (some .int)) (by decide +kernel) rfl (Nat.le_of_ble_eq_true rfl) ?_
  intro p e s m below meth c hx hb hr hml hts hown hlk hK hP A hA hD ls hl
  have hS : va_S A s.heap s.heap [] := va_S.rf
  have hown : s.vm.findClass RX6 = some m.cls := hown
  have hl : lv_has ls 7 [(0, .ref a0), (1, .int v1), (2, .int v2), (3, .int v3), (4, .int v4), (5, .int v5)] := hl
  have iu_X6 : ∀ w ∈ u_ws RX6 TX6 21, w ∈ wsX6_answers := fun w h => List.mem_cons_of_mem _ (List.mem_append_right _ h)
  unfold f_X6_answers at h
  refine lv_aload_n hx hb dX6_answers_0 rfl (lv_at hl 0 rfl) ?_
  refine lv_iload_n hx hb dX6_answers_1 rfl (lv_at hl 1 rfl) ?_
  refine lv_iload_n hx hb dX6_answers_2 rfl (lv_at hl 2 rfl) ?_
  refine lv_iload_n hx hb dX6_answers_3 rfl (lv_at hl 3 rfl) ?_
  refine lv_iload hx hb dX6_answers_4 (lv_at hl 4 rfl) ?_
  refine lv_iload hx hb dX6_answers_6 (lv_at hl 5 rfl) ?_
  obtain ⟨r_8, q_8, h⟩ := ob1_e h
  refine cRV (wc := wX6 ck a0 a0_z a0_past a0_slots a0_isSaved a0_pad a0_yes a0_no a0_yesThen a0_noThen a0_yesRound a0_yesRule a0_noRound a0_noRule a0_orders c_z c_past c_slots c_isSaved c_pastMany c_pad c_typed c_yes c_no c_yesThen c_noThen c_yesRound c_yesRule c_noRound c_noRule c_rounds c_isMore c_orders c_orderMany c_spot c_bad) ⟨hx, hb, hml, hown, hts⟩ hK hP [0, 1, 2, 3, 4, 5, 6, 7, 8, 9, 10, 11, 12, 13, 14] rfl (c_X6_whyNotAnswer l dC dI ck a0 a0_z a0_past a0_slots a0_isSaved a0_pad a0_yes a0_no a0_yesThen a0_noThen a0_yesRound a0_yesRule a0_noRound a0_noRule a0_orders c_z c_past c_slots c_isSaved c_pastMany c_pad c_typed c_yes c_no c_yesThen c_noThen c_yesRound c_yesRule c_noRound c_noRule c_rounds c_isMore c_orders c_orderMany c_spot c_bad v1 v2 v3 v4 v5 r_8 q_8) (cwV 5 hts gX6_answers_X6_whyNotAnswer rfl rfl rfl (by decide +kernel) ⟨Nat.le_of_ble_eq_true rfl, Nat.le_of_ble_eq_true rfl⟩) 0 rfl rfl rfl hl.1 rfl (Nat.le_of_ble_eq_true rfl) dX6_answers_8 ⟨Nat.zero_le _, Nat.zero_le _⟩ ?_
  refine lv_istore (lv' := [(6, .int r_8), (0, .ref a0), (1, .int v1), (2, .int v2), (3, .int v3), (4, .int v4), (5, .int v5)]) hx hb dX6_answers_11 hl (by decide) rfl (fun ls hl => ?_)
  refine lv_iload hx hb dX6_answers_13 (lv_at hl 0 rfl) ?_
  refine lv_if_ge (tgt := 21) hx hb dX6_answers_15 (by decide) (fun c_15 => ?_) (fun c_15 => ?_)
  · have h := if_t h c_15
    refine lv_aload_n hx hb dX6_answers_21 rfl (lv_at hl 1 rfl) ?_
    refine va_get (ci := 6) (v := .ref a0_z) (C := RX6) (T := TX6) (N := 21) hx hb hts iu_X6 hown hK.1 hP 0 rfl rfl 0 (by decide) (hts (.fieldLink RX6 7 "SheetMarksModel" "z" "[I") (List.mem_of_getElem? (i := 1) rfl)) (fun _ h9 => h9) rfl dX6_answers_22 ?_
    refine lv_iconst (v := (1 : Int32)) hx hb dX6_answers_25 rfl ?_
    obtain ⟨g_26, h⟩ := gd_e h
    refine va_iald hx hb hK.1 hP 1 0 rfl rfl g_26 dX6_answers_26 ?_
    refine lv_bipush (v := (40 : Int32)) hx hb dX6_answers_27 rfl ?_
    refine lv_icmp_ne (tgt := 35) hx hb dX6_answers_29 (by decide) (fun c_29 => ?_) (fun c_29 => ?_)
    · have h := if_f h c_29
      refine lv_aload_n hx hb dX6_answers_35 rfl (lv_at hl 1 rfl) ?_
      obtain ⟨c_past_36, c_pastMany_36, q_36, h⟩ := ob2_e h
      refine cMV (wc := wX6 ck a0 a0_z a0_past a0_slots a0_isSaved a0_pad a0_yes a0_no a0_yesThen a0_noThen a0_yesRound a0_yesRule a0_noRound a0_noRule a0_orders c_z c_past c_slots c_isSaved c_pastMany c_pad c_typed c_yes c_no c_yesThen c_noThen c_yesRound c_yesRule c_noRound c_noRule c_rounds c_isMore c_orders c_orderMany c_spot c_bad) (wr := []) (w1 := wX6 ck a0 a0_z a0_past a0_slots a0_isSaved a0_pad a0_yes a0_no a0_yesThen a0_noThen a0_yesRound a0_yesRule a0_noRound a0_noRule a0_orders c_z c_past_36 c_slots c_isSaved c_pastMany_36 c_pad c_typed c_yes c_no c_yesThen c_noThen c_yesRound c_yesRule c_noRound c_noRule c_rounds c_isMore c_orders c_orderMany c_spot c_bad) (wn := wX6 ck a0 a0_z a0_past a0_slots a0_isSaved a0_pad a0_yes a0_no a0_yesThen a0_noThen a0_yesRound a0_yesRule a0_noRound a0_noRule a0_orders c_z c_past_36 c_slots c_isSaved c_pastMany_36 c_pad c_typed c_yes c_no c_yesThen c_noThen c_yesRound c_yesRule c_noRound c_noRule c_rounds c_isMore c_orders c_orderMany c_spot c_bad) ⟨hx, hb, hml, hown, hts⟩ hK hP hD hS hA [0, 1, 2, 3, 4, 5, 6, 7, 8, 9, 10, 11, 12, 13, 14] [] [0, 1, 2, 3, 4, 5, 6, 7, 8, 9, 10, 11, 12, 13, 14] rfl (by decide) rfl (by decide) (by decide) rfl (by decide) (c_X6_record l dC dI ck a0 a0_z a0_past a0_slots a0_isSaved a0_pad a0_yes a0_no a0_yesThen a0_noThen a0_yesRound a0_yesRule a0_noRound a0_noRule a0_orders c_z c_past c_slots c_isSaved c_pastMany c_pad c_typed c_yes c_no c_yesThen c_noThen c_yesRound c_yesRule c_noRound c_noRule c_rounds c_isMore c_orders c_orderMany c_spot c_bad c_past_36 c_pastMany_36 q_36) (cwV 0 hts gX6_answers_X6_record rfl rfl rfl (by decide +kernel) ⟨Nat.le_of_ble_eq_true rfl, Nat.le_of_ble_eq_true rfl⟩) 0 rfl rfl rfl hl.1 rfl (Nat.le_of_ble_eq_true rfl) dX6_answers_36 ⟨Nat.zero_le _, Nat.zero_le _⟩ (fun H locs hP hD hS => ?_)
      refine lv_aload_n hx hb dX6_answers_39 rfl (lv_at hl 1 rfl) ?_
      refine lv_iconst (v := (1 : Int32)) hx hb dX6_answers_40 rfl ?_
      refine lv_iload_n hx hb dX6_answers_41 rfl (lv_at hl 3 rfl) ?_
      refine lv_iadd hx hb dX6_answers_42 ?_
      refine lv_iload_n hx hb dX6_answers_43 rfl (lv_at hl 2 rfl) ?_
      refine lv_iload_n hx hb dX6_answers_44 rfl (lv_at hl 4 rfl) ?_
      refine lv_iload hx hb dX6_answers_45 (lv_at hl 5 rfl) ?_
      refine lv_iload hx hb dX6_answers_47 (lv_at hl 6 rfl) ?_
      obtain ⟨c_z_49, q_49, h⟩ := ob1_e h
      refine cMV (wc := wX6 ck a0 a0_z a0_past a0_slots a0_isSaved a0_pad a0_yes a0_no a0_yesThen a0_noThen a0_yesRound a0_yesRule a0_noRound a0_noRule a0_orders c_z c_past_36 c_slots c_isSaved c_pastMany_36 c_pad c_typed c_yes c_no c_yesThen c_noThen c_yesRound c_yesRule c_noRound c_noRule c_rounds c_isMore c_orders c_orderMany c_spot c_bad) (wr := []) (w1 := wX6 ck a0 a0_z a0_past a0_slots a0_isSaved a0_pad a0_yes a0_no a0_yesThen a0_noThen a0_yesRound a0_yesRule a0_noRound a0_noRule a0_orders c_z_49 c_past_36 c_slots c_isSaved c_pastMany_36 c_pad c_typed c_yes c_no c_yesThen c_noThen c_yesRound c_yesRule c_noRound c_noRule c_rounds c_isMore c_orders c_orderMany c_spot c_bad) (wn := wX6 ck a0 a0_z a0_past a0_slots a0_isSaved a0_pad a0_yes a0_no a0_yesThen a0_noThen a0_yesRound a0_yesRule a0_noRound a0_noRule a0_orders c_z_49 c_past_36 c_slots c_isSaved c_pastMany_36 c_pad c_typed c_yes c_no c_yesThen c_noThen c_yesRound c_yesRule c_noRound c_noRule c_rounds c_isMore c_orders c_orderMany c_spot c_bad) ⟨hx, hb, hml, hown, hts⟩ hK hP hD hS hA [0, 1, 2, 3, 4, 5, 6, 7, 8, 9, 10, 11, 12, 13, 14] [] [0, 1, 2, 3, 4, 5, 6, 7, 8, 9, 10, 11, 12, 13, 14] rfl (by decide) rfl (by decide) (by decide) rfl (by decide) (c_X6_addThree l dC dI ck a0 a0_z a0_past a0_slots a0_isSaved a0_pad a0_yes a0_no a0_yesThen a0_noThen a0_yesRound a0_yesRule a0_noRound a0_noRule a0_orders c_z c_past_36 c_slots c_isSaved c_pastMany_36 c_pad c_typed c_yes c_no c_yesThen c_noThen c_yesRound c_yesRule c_noRound c_noRule c_rounds c_isMore c_orders c_orderMany c_spot c_bad ((1 : Int32) + v2) v1 v3 v4 v5 c_z_49 q_49) (cwV 5 hts gX6_answers_X6_addThree rfl rfl rfl (by decide +kernel) ⟨Nat.le_of_ble_eq_true rfl, Nat.le_of_ble_eq_true rfl⟩) 0 rfl rfl rfl hl.1 rfl (Nat.le_of_ble_eq_true rfl) dX6_answers_49 ⟨Nat.zero_le _, Nat.zero_le _⟩ (fun H locs hP hD hS => ?_)
      refine lv_aload_n hx hb dX6_answers_52 rfl (lv_at hl 1 rfl) ?_
      obtain ⟨r_53, c_yes_53, c_no_53, c_yesThen_53, c_noThen_53, c_yesRound_53, c_yesRule_53, c_noRound_53, c_noRule_53, c_rounds_53, c_isMore_53, q_53, h⟩ := ob11_e h
      refine cMI (wc := wX6 ck a0 a0_z a0_past a0_slots a0_isSaved a0_pad a0_yes a0_no a0_yesThen a0_noThen a0_yesRound a0_yesRule a0_noRound a0_noRule a0_orders c_z_49 c_past_36 c_slots c_isSaved c_pastMany_36 c_pad c_typed c_yes c_no c_yesThen c_noThen c_yesRound c_yesRule c_noRound c_noRule c_rounds c_isMore c_orders c_orderMany c_spot c_bad) (wr := []) (w1 := wX6 ck a0 a0_z a0_past a0_slots a0_isSaved a0_pad a0_yes a0_no a0_yesThen a0_noThen a0_yesRound a0_yesRule a0_noRound a0_noRule a0_orders c_z_49 c_past_36 c_slots c_isSaved c_pastMany_36 c_pad c_typed c_yes_53 c_no_53 c_yesThen_53 c_noThen_53 c_yesRound_53 c_yesRule_53 c_noRound_53 c_noRule_53 c_rounds_53 c_isMore_53 c_orders c_orderMany c_spot c_bad) (wn := wX6 ck a0 a0_z a0_past a0_slots a0_isSaved a0_pad a0_yes a0_no a0_yesThen a0_noThen a0_yesRound a0_yesRule a0_noRound a0_noRule a0_orders c_z_49 c_past_36 c_slots c_isSaved c_pastMany_36 c_pad c_typed c_yes_53 c_no_53 c_yesThen_53 c_noThen_53 c_yesRound_53 c_yesRule_53 c_noRound_53 c_noRule_53 c_rounds_53 c_isMore_53 c_orders c_orderMany c_spot c_bad) ⟨hx, hb, hml, hown, hts⟩ hK hP hD hS hA [0, 1, 2, 3, 4, 5, 6, 7, 8, 9, 10, 11, 12, 13, 14] [] [0, 1, 2, 3, 4, 5, 6, 7, 8, 9, 10, 11, 12, 13, 14] rfl (by decide) rfl (by decide) (by decide) rfl (by decide) (c_X6_marks l dC dI ck a0 a0_z a0_past a0_slots a0_isSaved a0_pad a0_yes a0_no a0_yesThen a0_noThen a0_yesRound a0_yesRule a0_noRound a0_noRule a0_orders c_z_49 c_past_36 c_slots c_isSaved c_pastMany_36 c_pad c_typed c_yes c_no c_yesThen c_noThen c_yesRound c_yesRule c_noRound c_noRule c_rounds c_isMore c_orders c_orderMany c_spot c_bad r_53 c_yes_53 c_no_53 c_yesThen_53 c_noThen_53 c_yesRound_53 c_yesRule_53 c_noRound_53 c_noRule_53 c_rounds_53 c_isMore_53 q_53) (cwV 0 hts gX6_answers_X6_marks rfl rfl rfl (by decide +kernel) ⟨Nat.le_of_ble_eq_true rfl, Nat.le_of_ble_eq_true rfl⟩) 0 rfl rfl rfl hl.1 rfl (Nat.le_of_ble_eq_true rfl) dX6_answers_53 ⟨Nat.zero_le _, Nat.zero_le _⟩ (fun H locs hP hD hS => ?_)
      cases h
      exact eMi hx hb hr hlk hP hD hS rfl dX6_answers_56
    · have h := if_t h c_29
      refine lv_bipush (v := (-4 : Int32)) hx hb dX6_answers_32 rfl ?_
      cases h
      exact eMi hx hb hr hlk hP hD hS rfl dX6_answers_34
  · have h := if_f h c_15
    refine lv_iload hx hb dX6_answers_18 (lv_at hl 0 rfl) ?_
    cases h
    exact eMi hx hb hr hlk hP hD hS rfl dX6_answers_20
noncomputable def f_X6_whyNotWrong (c_z : Nat → Int32) (v1 : Int32) (v2 : Int32) (v3 : Int32) : Option (Int32) :=
  ob1 (f_X6_areThree v1 v2 v3) (fun (r_3 : Int32) => if r_3 = (0 : Int32) then (some (-1 : Int32)) else (gd (1 : Int32) 207 (if (c_z (1 : Int32).toNatClampNeg) = (40 : Int32) then (some (-4 : Int32)) else (some (0 : Int32)))))
set_option maxHeartbeats 4000000 in
set_option maxRecDepth 100000 in
theorem c_X6_whyNotWrong (l : Launch) (dC : Nat → ClassId) (dI : Nat → Nat → Nat) (ck : Nat → ClassId) (a0 a0_z a0_past a0_slots a0_isSaved a0_pad a0_yes a0_no a0_yesThen a0_noThen a0_yesRound a0_yesRule a0_noRound a0_noRule a0_orders : Nat) (c_z : Nat → Int32) (c_past : Nat → Int32) (c_slots : Nat → Int32) (c_isSaved : Nat → Int32) (c_pastMany : Int32) (c_pad : Nat → Int32) (c_typed : Int32) (c_yes : Nat → Int32) (c_no : Nat → Int32) (c_yesThen : Nat → Int32) (c_noThen : Nat → Int32) (c_yesRound : Nat → Int32) (c_yesRule : Nat → Int32) (c_noRound : Nat → Int32) (c_noRule : Nat → Int32) (c_rounds : Int32) (c_isMore : Int32) (c_orders : Nat → Int32) (c_orderMany : Int32) (c_spot : Int32) (c_bad : Int32) (v1 : Int32) (v2 : Int32) (v3 : Int32) (o0 : Int32) (h : f_X6_whyNotWrong c_z v1 v2 v3 = some o0) : RD l yX6_whyNotWrong wsX6_whyNotWrong ({ frames := 2, cells := 0, slots := 0, locals := 44 }) [.ref a0, .int v1, .int v2, .int v3] (dC, dI) ck (wX6 ck a0 a0_z a0_past a0_slots a0_isSaved a0_pad a0_yes a0_no a0_yesThen a0_noThen a0_yesRound a0_yesRule a0_noRound a0_noRule a0_orders c_z c_past c_slots c_isSaved c_pastMany c_pad c_typed c_yes c_no c_yesThen c_noThen c_yesRound c_yesRule c_noRound c_noRule c_rounds c_isMore c_orders c_orderMany c_spot c_bad) o0 := by
  refine RD.ofW (cc := cX6_whyNotWrong) (maxL := 4) (ret := (some .int)) (by decide +kernel) rfl (Nat.le_of_ble_eq_true rfl) ?_
  intro p e s m below meth c hx hb hr hml hts hown hlk hK hP ls hl
  have hown : s.vm.findClass RX6 = some m.cls := hown
  have hl : lv_has ls 4 [(0, .ref a0), (1, .int v1), (2, .int v2), (3, .int v3)] := hl
  have iu_X6 : ∀ w ∈ u_ws RX6 TX6 21, w ∈ wsX6_whyNotWrong := fun w h => List.mem_cons_of_mem _ (List.mem_append_right _ h)
  unfold f_X6_whyNotWrong at h
  refine lv_iload_n hx hb dX6_whyNotWrong_0 rfl (lv_at hl 1 rfl) ?_
  refine lv_iload_n hx hb dX6_whyNotWrong_1 rfl (lv_at hl 2 rfl) ?_
  refine lv_iload_n hx hb dX6_whyNotWrong_2 rfl (lv_at hl 3 rfl) ?_
  obtain ⟨r_3, q_3, h⟩ := ob1_e h
  refine cRS (wc := []) ⟨hx, hb, hml, hown, hts⟩ hK hP [] rfl (c_X6_areThree l dC dI ck v1 v2 v3 r_3 q_3) (va_cwS 3 hts gX6_whyNotWrong_X6_areThree rfl rfl rfl (by decide +kernel) ⟨Nat.le_of_ble_eq_true rfl, Nat.le_of_ble_eq_true rfl⟩) rfl hl.1 rfl (Nat.le_of_ble_eq_true rfl) dX6_whyNotWrong_3 ⟨Nat.zero_le _, Nat.zero_le _⟩ ?_
  refine lv_if_ne (tgt := 13) hx hb dX6_whyNotWrong_6 (by decide) (fun c_6 => ?_) (fun c_6 => ?_)
  · have h := if_f h c_6
    refine lv_aload_n hx hb dX6_whyNotWrong_13 rfl (lv_at hl 0 rfl) ?_
    refine va_get (ci := 6) (v := .ref a0_z) (C := RX6) (T := TX6) (N := 21) hx hb hts iu_X6 hown hK.1 hP 0 rfl rfl 0 (by decide) (hts (.fieldLink RX6 7 "SheetMarksModel" "z" "[I") (List.mem_of_getElem? (i := 1) rfl)) (fun _ h9 => h9) rfl dX6_whyNotWrong_14 ?_
    refine lv_iconst (v := (1 : Int32)) hx hb dX6_whyNotWrong_17 rfl ?_
    obtain ⟨g_18, h⟩ := gd_e h
    refine va_iald hx hb hK.1 hP 1 0 rfl rfl g_18 dX6_whyNotWrong_18 ?_
    refine lv_bipush (v := (40 : Int32)) hx hb dX6_whyNotWrong_19 rfl ?_
    refine lv_icmp_ne (tgt := 29) hx hb dX6_whyNotWrong_21 (by decide) (fun c_21 => ?_) (fun c_21 => ?_)
    · have h := if_f h c_21
      refine lv_iconst (v := (0 : Int32)) hx hb dX6_whyNotWrong_29 rfl ?_
      cases h
      exact eRi hx hb hr hlk rfl dX6_whyNotWrong_30
    · have h := if_t h c_21
      refine lv_bipush (v := (-4 : Int32)) hx hb dX6_whyNotWrong_24 rfl ?_
      refine lv_goto (tgt := 30) hx hb dX6_whyNotWrong_26 (by decide) ?_
      cases h
      exact eRi hx hb hr hlk rfl dX6_whyNotWrong_30
  · have h := if_t h c_6
    refine lv_iconst (v := (-1 : Int32)) hx hb dX6_whyNotWrong_9 rfl ?_
    refine lv_goto (tgt := 30) hx hb dX6_whyNotWrong_10 (by decide) ?_
    cases h
    exact eRi hx hb hr hlk rfl dX6_whyNotWrong_30
noncomputable def f_X6_wrong (c_z : Nat → Int32) (c_past : Nat → Int32) (c_pastMany : Int32) (c_yes : Nat → Int32) (c_no : Nat → Int32) (c_yesThen : Nat → Int32) (c_noThen : Nat → Int32) (c_yesRound : Nat → Int32) (c_yesRule : Nat → Int32) (c_noRound : Nat → Int32) (c_noRule : Nat → Int32) (c_rounds : Int32) (c_isMore : Int32) (v1 : Int32) (v2 : Int32) (v3 : Int32) : Option (Int32 × (Nat → Int32) × (Nat → Int32) × Int32 × (Nat → Int32) × (Nat → Int32) × (Nat → Int32) × (Nat → Int32) × (Nat → Int32) × (Nat → Int32) × (Nat → Int32) × (Nat → Int32) × Int32 × Int32) :=
  ob1 (f_X6_whyNotWrong c_z v1 v2 v3) (fun (r_4 : Int32) => if (0 : Int32) ≤ r_4 then (ob2 (f_X6_record c_z c_past c_pastMany) (fun (c_past_18 : Nat → Int32) (c_pastMany_18 : Int32) => ob1 (f_X6_addThree c_z (3 : Int32) (-6 : Int32) v1 v2 v3) (fun (c_z_28 : Nat → Int32) => ob11 (f_X6_marks c_z_28 c_yes c_no c_yesThen c_noThen c_yesRound c_yesRule c_noRound c_noRule c_rounds c_isMore) (fun (r_32 : Int32) (c_yes_32 : Nat → Int32) (c_no_32 : Nat → Int32) (c_yesThen_32 : Nat → Int32) (c_noThen_32 : Nat → Int32) (c_yesRound_32 : Nat → Int32) (c_yesRule_32 : Nat → Int32) (c_noRound_32 : Nat → Int32) (c_noRule_32 : Nat → Int32) (c_rounds_32 : Int32) (c_isMore_32 : Int32) => some (r_32, c_z_28, c_past_18, c_pastMany_18, c_yes_32, c_no_32, c_yesThen_32, c_noThen_32, c_yesRound_32, c_yesRule_32, c_noRound_32, c_noRule_32, c_rounds_32, c_isMore_32))))) else (some (r_4, c_z, c_past, c_pastMany, c_yes, c_no, c_yesThen, c_noThen, c_yesRound, c_yesRule, c_noRound, c_noRule, c_rounds, c_isMore)))
set_option maxHeartbeats 4000000 in
set_option maxRecDepth 100000 in
theorem c_X6_wrong (l : Launch) (dC : Nat → ClassId) (dI : Nat → Nat → Nat) (ck : Nat → ClassId) (a0 a0_z a0_past a0_slots a0_isSaved a0_pad a0_yes a0_no a0_yesThen a0_noThen a0_yesRound a0_yesRule a0_noRound a0_noRule a0_orders : Nat) (c_z : Nat → Int32) (c_past : Nat → Int32) (c_slots : Nat → Int32) (c_isSaved : Nat → Int32) (c_pastMany : Int32) (c_pad : Nat → Int32) (c_typed : Int32) (c_yes : Nat → Int32) (c_no : Nat → Int32) (c_yesThen : Nat → Int32) (c_noThen : Nat → Int32) (c_yesRound : Nat → Int32) (c_yesRule : Nat → Int32) (c_noRound : Nat → Int32) (c_noRule : Nat → Int32) (c_rounds : Int32) (c_isMore : Int32) (c_orders : Nat → Int32) (c_orderMany : Int32) (c_spot : Int32) (c_bad : Int32) (v1 : Int32) (v2 : Int32) (v3 : Int32) (o0 : Int32) (o1 : Nat → Int32) (o2 : Nat → Int32) (o3 : Int32) (o4 : Nat → Int32) (o5 : Nat → Int32) (o6 : Nat → Int32) (o7 : Nat → Int32) (o8 : Nat → Int32) (o9 : Nat → Int32) (o10 : Nat → Int32) (o11 : Nat → Int32) (o12 : Int32) (o13 : Int32) (h : f_X6_wrong c_z c_past c_pastMany c_yes c_no c_yesThen c_noThen c_yesRound c_yesRule c_noRound c_noRule c_rounds c_isMore v1 v2 v3 = some (o0, o1, o2, o3, o4, o5, o6, o7, o8, o9, o10, o11, o12, o13)) : MI l yX6_wrong wsX6_wrong ({ frames := 7, cells := 0, slots := 0, locals := 159 }) [.ref a0, .int v1, .int v2, .int v3] (dC, dI) ck (wX6 ck a0 a0_z a0_past a0_slots a0_isSaved a0_pad a0_yes a0_no a0_yesThen a0_noThen a0_yesRound a0_yesRule a0_noRound a0_noRule a0_orders c_z c_past c_slots c_isSaved c_pastMany c_pad c_typed c_yes c_no c_yesThen c_noThen c_yesRound c_yesRule c_noRound c_noRule c_rounds c_isMore c_orders c_orderMany c_spot c_bad) (wX6 ck a0 a0_z a0_past a0_slots a0_isSaved a0_pad a0_yes a0_no a0_yesThen a0_noThen a0_yesRound a0_yesRule a0_noRound a0_noRule a0_orders o1 o2 c_slots c_isSaved o3 c_pad c_typed o4 o5 o6 o7 o8 o9 o10 o11 o12 o13 c_orders c_orderMany c_spot c_bad) o0 := by
  refine MI.ofW (cc := cX6_wrong) (maxL := 5) (ret := (some .int)) (by decide +kernel) rfl (Nat.le_of_ble_eq_true rfl) ?_
  intro p e s m below meth c hx hb hr hml hts hown hlk hK hP A hA hD ls hl
  have hS : va_S A s.heap s.heap [] := va_S.rf
  have hown : s.vm.findClass RX6 = some m.cls := hown
  have hl : lv_has ls 5 [(0, .ref a0), (1, .int v1), (2, .int v2), (3, .int v3)] := hl
  unfold f_X6_wrong at h
  refine lv_aload_n hx hb dX6_wrong_0 rfl (lv_at hl 0 rfl) ?_
  refine lv_iload_n hx hb dX6_wrong_1 rfl (lv_at hl 1 rfl) ?_
  refine lv_iload_n hx hb dX6_wrong_2 rfl (lv_at hl 2 rfl) ?_
  refine lv_iload_n hx hb dX6_wrong_3 rfl (lv_at hl 3 rfl) ?_
  obtain ⟨r_4, q_4, h⟩ := ob1_e h
  refine cRV (wc := wX6 ck a0 a0_z a0_past a0_slots a0_isSaved a0_pad a0_yes a0_no a0_yesThen a0_noThen a0_yesRound a0_yesRule a0_noRound a0_noRule a0_orders c_z c_past c_slots c_isSaved c_pastMany c_pad c_typed c_yes c_no c_yesThen c_noThen c_yesRound c_yesRule c_noRound c_noRule c_rounds c_isMore c_orders c_orderMany c_spot c_bad) ⟨hx, hb, hml, hown, hts⟩ hK hP [0, 1, 2, 3, 4, 5, 6, 7, 8, 9, 10, 11, 12, 13, 14] rfl (c_X6_whyNotWrong l dC dI ck a0 a0_z a0_past a0_slots a0_isSaved a0_pad a0_yes a0_no a0_yesThen a0_noThen a0_yesRound a0_yesRule a0_noRound a0_noRule a0_orders c_z c_past c_slots c_isSaved c_pastMany c_pad c_typed c_yes c_no c_yesThen c_noThen c_yesRound c_yesRule c_noRound c_noRule c_rounds c_isMore c_orders c_orderMany c_spot c_bad v1 v2 v3 r_4 q_4) (cwV 3 hts gX6_wrong_X6_whyNotWrong rfl rfl rfl (by decide +kernel) ⟨Nat.le_of_ble_eq_true rfl, Nat.le_of_ble_eq_true rfl⟩) 0 rfl rfl rfl hl.1 rfl (Nat.le_of_ble_eq_true rfl) dX6_wrong_4 ⟨Nat.zero_le _, Nat.zero_le _⟩ ?_
  refine lv_istore (lv' := [(4, .int r_4), (0, .ref a0), (1, .int v1), (2, .int v2), (3, .int v3)]) hx hb dX6_wrong_7 hl (by decide) rfl (fun ls hl => ?_)
  refine lv_iload hx hb dX6_wrong_9 (lv_at hl 0 rfl) ?_
  refine lv_if_ge (tgt := 17) hx hb dX6_wrong_11 (by decide) (fun c_11 => ?_) (fun c_11 => ?_)
  · have h := if_t h c_11
    refine lv_aload_n hx hb dX6_wrong_17 rfl (lv_at hl 1 rfl) ?_
    obtain ⟨c_past_18, c_pastMany_18, q_18, h⟩ := ob2_e h
    refine cMV (wc := wX6 ck a0 a0_z a0_past a0_slots a0_isSaved a0_pad a0_yes a0_no a0_yesThen a0_noThen a0_yesRound a0_yesRule a0_noRound a0_noRule a0_orders c_z c_past c_slots c_isSaved c_pastMany c_pad c_typed c_yes c_no c_yesThen c_noThen c_yesRound c_yesRule c_noRound c_noRule c_rounds c_isMore c_orders c_orderMany c_spot c_bad) (wr := []) (w1 := wX6 ck a0 a0_z a0_past a0_slots a0_isSaved a0_pad a0_yes a0_no a0_yesThen a0_noThen a0_yesRound a0_yesRule a0_noRound a0_noRule a0_orders c_z c_past_18 c_slots c_isSaved c_pastMany_18 c_pad c_typed c_yes c_no c_yesThen c_noThen c_yesRound c_yesRule c_noRound c_noRule c_rounds c_isMore c_orders c_orderMany c_spot c_bad) (wn := wX6 ck a0 a0_z a0_past a0_slots a0_isSaved a0_pad a0_yes a0_no a0_yesThen a0_noThen a0_yesRound a0_yesRule a0_noRound a0_noRule a0_orders c_z c_past_18 c_slots c_isSaved c_pastMany_18 c_pad c_typed c_yes c_no c_yesThen c_noThen c_yesRound c_yesRule c_noRound c_noRule c_rounds c_isMore c_orders c_orderMany c_spot c_bad) ⟨hx, hb, hml, hown, hts⟩ hK hP hD hS hA [0, 1, 2, 3, 4, 5, 6, 7, 8, 9, 10, 11, 12, 13, 14] [] [0, 1, 2, 3, 4, 5, 6, 7, 8, 9, 10, 11, 12, 13, 14] rfl (by decide) rfl (by decide) (by decide) rfl (by decide) (c_X6_record l dC dI ck a0 a0_z a0_past a0_slots a0_isSaved a0_pad a0_yes a0_no a0_yesThen a0_noThen a0_yesRound a0_yesRule a0_noRound a0_noRule a0_orders c_z c_past c_slots c_isSaved c_pastMany c_pad c_typed c_yes c_no c_yesThen c_noThen c_yesRound c_yesRule c_noRound c_noRule c_rounds c_isMore c_orders c_orderMany c_spot c_bad c_past_18 c_pastMany_18 q_18) (cwV 0 hts gX6_wrong_X6_record rfl rfl rfl (by decide +kernel) ⟨Nat.le_of_ble_eq_true rfl, Nat.le_of_ble_eq_true rfl⟩) 0 rfl rfl rfl hl.1 rfl (Nat.le_of_ble_eq_true rfl) dX6_wrong_18 ⟨Nat.zero_le _, Nat.zero_le _⟩ (fun H locs hP hD hS => ?_)
    refine lv_aload_n hx hb dX6_wrong_21 rfl (lv_at hl 1 rfl) ?_
    refine lv_iconst (v := (3 : Int32)) hx hb dX6_wrong_22 rfl ?_
    refine lv_bipush (v := (-6 : Int32)) hx hb dX6_wrong_23 rfl ?_
    refine lv_iload_n hx hb dX6_wrong_25 rfl (lv_at hl 2 rfl) ?_
    refine lv_iload_n hx hb dX6_wrong_26 rfl (lv_at hl 3 rfl) ?_
    refine lv_iload_n hx hb dX6_wrong_27 rfl (lv_at hl 4 rfl) ?_
    obtain ⟨c_z_28, q_28, h⟩ := ob1_e h
    refine cMV (wc := wX6 ck a0 a0_z a0_past a0_slots a0_isSaved a0_pad a0_yes a0_no a0_yesThen a0_noThen a0_yesRound a0_yesRule a0_noRound a0_noRule a0_orders c_z c_past_18 c_slots c_isSaved c_pastMany_18 c_pad c_typed c_yes c_no c_yesThen c_noThen c_yesRound c_yesRule c_noRound c_noRule c_rounds c_isMore c_orders c_orderMany c_spot c_bad) (wr := []) (w1 := wX6 ck a0 a0_z a0_past a0_slots a0_isSaved a0_pad a0_yes a0_no a0_yesThen a0_noThen a0_yesRound a0_yesRule a0_noRound a0_noRule a0_orders c_z_28 c_past_18 c_slots c_isSaved c_pastMany_18 c_pad c_typed c_yes c_no c_yesThen c_noThen c_yesRound c_yesRule c_noRound c_noRule c_rounds c_isMore c_orders c_orderMany c_spot c_bad) (wn := wX6 ck a0 a0_z a0_past a0_slots a0_isSaved a0_pad a0_yes a0_no a0_yesThen a0_noThen a0_yesRound a0_yesRule a0_noRound a0_noRule a0_orders c_z_28 c_past_18 c_slots c_isSaved c_pastMany_18 c_pad c_typed c_yes c_no c_yesThen c_noThen c_yesRound c_yesRule c_noRound c_noRule c_rounds c_isMore c_orders c_orderMany c_spot c_bad) ⟨hx, hb, hml, hown, hts⟩ hK hP hD hS hA [0, 1, 2, 3, 4, 5, 6, 7, 8, 9, 10, 11, 12, 13, 14] [] [0, 1, 2, 3, 4, 5, 6, 7, 8, 9, 10, 11, 12, 13, 14] rfl (by decide) rfl (by decide) (by decide) rfl (by decide) (c_X6_addThree l dC dI ck a0 a0_z a0_past a0_slots a0_isSaved a0_pad a0_yes a0_no a0_yesThen a0_noThen a0_yesRound a0_yesRule a0_noRound a0_noRule a0_orders c_z c_past_18 c_slots c_isSaved c_pastMany_18 c_pad c_typed c_yes c_no c_yesThen c_noThen c_yesRound c_yesRule c_noRound c_noRule c_rounds c_isMore c_orders c_orderMany c_spot c_bad (3 : Int32) (-6 : Int32) v1 v2 v3 c_z_28 q_28) (cwV 5 hts gX6_wrong_X6_addThree rfl rfl rfl (by decide +kernel) ⟨Nat.le_of_ble_eq_true rfl, Nat.le_of_ble_eq_true rfl⟩) 0 rfl rfl rfl hl.1 rfl (Nat.le_of_ble_eq_true rfl) dX6_wrong_28 ⟨Nat.zero_le _, Nat.zero_le _⟩ (fun H locs hP hD hS => ?_)
    refine lv_aload_n hx hb dX6_wrong_31 rfl (lv_at hl 1 rfl) ?_
    obtain ⟨r_32, c_yes_32, c_no_32, c_yesThen_32, c_noThen_32, c_yesRound_32, c_yesRule_32, c_noRound_32, c_noRule_32, c_rounds_32, c_isMore_32, q_32, h⟩ := ob11_e h
    refine cMI (wc := wX6 ck a0 a0_z a0_past a0_slots a0_isSaved a0_pad a0_yes a0_no a0_yesThen a0_noThen a0_yesRound a0_yesRule a0_noRound a0_noRule a0_orders c_z_28 c_past_18 c_slots c_isSaved c_pastMany_18 c_pad c_typed c_yes c_no c_yesThen c_noThen c_yesRound c_yesRule c_noRound c_noRule c_rounds c_isMore c_orders c_orderMany c_spot c_bad) (wr := []) (w1 := wX6 ck a0 a0_z a0_past a0_slots a0_isSaved a0_pad a0_yes a0_no a0_yesThen a0_noThen a0_yesRound a0_yesRule a0_noRound a0_noRule a0_orders c_z_28 c_past_18 c_slots c_isSaved c_pastMany_18 c_pad c_typed c_yes_32 c_no_32 c_yesThen_32 c_noThen_32 c_yesRound_32 c_yesRule_32 c_noRound_32 c_noRule_32 c_rounds_32 c_isMore_32 c_orders c_orderMany c_spot c_bad) (wn := wX6 ck a0 a0_z a0_past a0_slots a0_isSaved a0_pad a0_yes a0_no a0_yesThen a0_noThen a0_yesRound a0_yesRule a0_noRound a0_noRule a0_orders c_z_28 c_past_18 c_slots c_isSaved c_pastMany_18 c_pad c_typed c_yes_32 c_no_32 c_yesThen_32 c_noThen_32 c_yesRound_32 c_yesRule_32 c_noRound_32 c_noRule_32 c_rounds_32 c_isMore_32 c_orders c_orderMany c_spot c_bad) ⟨hx, hb, hml, hown, hts⟩ hK hP hD hS hA [0, 1, 2, 3, 4, 5, 6, 7, 8, 9, 10, 11, 12, 13, 14] [] [0, 1, 2, 3, 4, 5, 6, 7, 8, 9, 10, 11, 12, 13, 14] rfl (by decide) rfl (by decide) (by decide) rfl (by decide) (c_X6_marks l dC dI ck a0 a0_z a0_past a0_slots a0_isSaved a0_pad a0_yes a0_no a0_yesThen a0_noThen a0_yesRound a0_yesRule a0_noRound a0_noRule a0_orders c_z_28 c_past_18 c_slots c_isSaved c_pastMany_18 c_pad c_typed c_yes c_no c_yesThen c_noThen c_yesRound c_yesRule c_noRound c_noRule c_rounds c_isMore c_orders c_orderMany c_spot c_bad r_32 c_yes_32 c_no_32 c_yesThen_32 c_noThen_32 c_yesRound_32 c_yesRule_32 c_noRound_32 c_noRule_32 c_rounds_32 c_isMore_32 q_32) (cwV 0 hts gX6_wrong_X6_marks rfl rfl rfl (by decide +kernel) ⟨Nat.le_of_ble_eq_true rfl, Nat.le_of_ble_eq_true rfl⟩) 0 rfl rfl rfl hl.1 rfl (Nat.le_of_ble_eq_true rfl) dX6_wrong_32 ⟨Nat.zero_le _, Nat.zero_le _⟩ (fun H locs hP hD hS => ?_)
    cases h
    exact eMi hx hb hr hlk hP hD hS rfl dX6_wrong_35
  · have h := if_f h c_11
    refine lv_iload hx hb dX6_wrong_14 (lv_at hl 0 rfl) ?_
    cases h
    exact eMi hx hb hr hlk hP hD hS rfl dX6_wrong_16
noncomputable def f_X6_takeBack (c_z : Nat → Int32) (c_past : Nat → Int32) (c_pastMany : Int32) (v1 : Int32) : Option (Int32 × (Nat → Int32) × (Nat → Int32) × Int32) :=
  if v1 < (0 : Int32) then (some ((-1 : Int32), c_z, c_past, c_pastMany)) else (gd (1 : Int32) 207 (if v1 < (c_z (1 : Int32).toNatClampNeg) then (ob2 (f_X6_record c_z c_past c_pastMany) (fun (c_past_17 : Nat → Int32) (c_pastMany_17 : Int32) => ob1 (f_X6_drop c_z v1) (fun (c_z_22 : Nat → Int32) => gd (1 : Int32) 207 (some ((c_z_22 (1 : Int32).toNatClampNeg), c_z_22, c_past_17, c_pastMany_17))))) else (some ((-1 : Int32), c_z, c_past, c_pastMany))))
set_option maxHeartbeats 4000000 in
set_option maxRecDepth 100000 in
theorem c_X6_takeBack (l : Launch) (dC : Nat → ClassId) (dI : Nat → Nat → Nat) (ck : Nat → ClassId) (a0 a0_z a0_past a0_slots a0_isSaved a0_pad a0_yes a0_no a0_yesThen a0_noThen a0_yesRound a0_yesRule a0_noRound a0_noRule a0_orders : Nat) (c_z : Nat → Int32) (c_past : Nat → Int32) (c_slots : Nat → Int32) (c_isSaved : Nat → Int32) (c_pastMany : Int32) (c_pad : Nat → Int32) (c_typed : Int32) (c_yes : Nat → Int32) (c_no : Nat → Int32) (c_yesThen : Nat → Int32) (c_noThen : Nat → Int32) (c_yesRound : Nat → Int32) (c_yesRule : Nat → Int32) (c_noRound : Nat → Int32) (c_noRule : Nat → Int32) (c_rounds : Int32) (c_isMore : Int32) (c_orders : Nat → Int32) (c_orderMany : Int32) (c_spot : Int32) (c_bad : Int32) (v1 : Int32) (o0 : Int32) (o1 : Nat → Int32) (o2 : Nat → Int32) (o3 : Int32) (h : f_X6_takeBack c_z c_past c_pastMany v1 = some (o0, o1, o2, o3)) : MI l yX6_takeBack wsX6_takeBack ({ frames := 1, cells := 0, slots := 0, locals := 23 }) [.ref a0, .int v1] (dC, dI) ck (wX6 ck a0 a0_z a0_past a0_slots a0_isSaved a0_pad a0_yes a0_no a0_yesThen a0_noThen a0_yesRound a0_yesRule a0_noRound a0_noRule a0_orders c_z c_past c_slots c_isSaved c_pastMany c_pad c_typed c_yes c_no c_yesThen c_noThen c_yesRound c_yesRule c_noRound c_noRule c_rounds c_isMore c_orders c_orderMany c_spot c_bad) (wX6 ck a0 a0_z a0_past a0_slots a0_isSaved a0_pad a0_yes a0_no a0_yesThen a0_noThen a0_yesRound a0_yesRule a0_noRound a0_noRule a0_orders o1 o2 c_slots c_isSaved o3 c_pad c_typed c_yes c_no c_yesThen c_noThen c_yesRound c_yesRule c_noRound c_noRule c_rounds c_isMore c_orders c_orderMany c_spot c_bad) o0 := by
  refine MI.ofW (cc := cX6_takeBack) (maxL := 2) (ret := (some .int)) (by decide +kernel) rfl (Nat.le_of_ble_eq_true rfl) ?_
  intro p e s m below meth c hx hb hr hml hts hown hlk hK hP A hA hD ls hl
  have hS : va_S A s.heap s.heap [] := va_S.rf
  have hown : s.vm.findClass RX6 = some m.cls := hown
  have hl : lv_has ls 2 [(0, .ref a0), (1, .int v1)] := hl
  have iu_X6 : ∀ w ∈ u_ws RX6 TX6 21, w ∈ wsX6_takeBack := fun w h => List.mem_cons_of_mem _ (List.mem_append_right _ h)
  unfold f_X6_takeBack at h
  refine lv_iload_n hx hb dX6_takeBack_0 rfl (lv_at hl 1 rfl) ?_
  refine lv_if_lt (tgt := 14) hx hb dX6_takeBack_1 (by decide) (fun c_1 => ?_) (fun c_1 => ?_)
  · have h := if_t h c_1
    refine lv_iconst (v := (-1 : Int32)) hx hb dX6_takeBack_14 rfl ?_
    cases h
    exact eMi hx hb hr hlk hP hD hS rfl dX6_takeBack_15
  · have h := if_f h c_1
    refine lv_iload_n hx hb dX6_takeBack_4 rfl (lv_at hl 1 rfl) ?_
    refine lv_aload_n hx hb dX6_takeBack_5 rfl (lv_at hl 0 rfl) ?_
    refine va_get (ci := 6) (v := .ref a0_z) (C := RX6) (T := TX6) (N := 21) hx hb hts iu_X6 hown hK.1 hP 0 rfl rfl 0 (by decide) (hts (.fieldLink RX6 7 "SheetMarksModel" "z" "[I") (List.mem_of_getElem? (i := 1) rfl)) (fun _ h9 => h9) rfl dX6_takeBack_6 ?_
    refine lv_iconst (v := (1 : Int32)) hx hb dX6_takeBack_9 rfl ?_
    obtain ⟨g_10, h⟩ := gd_e h
    refine va_iald hx hb hK.1 hP 1 0 rfl rfl g_10 dX6_takeBack_10 ?_
    refine lv_icmp_lt (tgt := 16) hx hb dX6_takeBack_11 (by decide) (fun c_11 => ?_) (fun c_11 => ?_)
    · have h := if_t h c_11
      refine lv_aload_n hx hb dX6_takeBack_16 rfl (lv_at hl 0 rfl) ?_
      obtain ⟨c_past_17, c_pastMany_17, q_17, h⟩ := ob2_e h
      refine cMV (wc := wX6 ck a0 a0_z a0_past a0_slots a0_isSaved a0_pad a0_yes a0_no a0_yesThen a0_noThen a0_yesRound a0_yesRule a0_noRound a0_noRule a0_orders c_z c_past c_slots c_isSaved c_pastMany c_pad c_typed c_yes c_no c_yesThen c_noThen c_yesRound c_yesRule c_noRound c_noRule c_rounds c_isMore c_orders c_orderMany c_spot c_bad) (wr := []) (w1 := wX6 ck a0 a0_z a0_past a0_slots a0_isSaved a0_pad a0_yes a0_no a0_yesThen a0_noThen a0_yesRound a0_yesRule a0_noRound a0_noRule a0_orders c_z c_past_17 c_slots c_isSaved c_pastMany_17 c_pad c_typed c_yes c_no c_yesThen c_noThen c_yesRound c_yesRule c_noRound c_noRule c_rounds c_isMore c_orders c_orderMany c_spot c_bad) (wn := wX6 ck a0 a0_z a0_past a0_slots a0_isSaved a0_pad a0_yes a0_no a0_yesThen a0_noThen a0_yesRound a0_yesRule a0_noRound a0_noRule a0_orders c_z c_past_17 c_slots c_isSaved c_pastMany_17 c_pad c_typed c_yes c_no c_yesThen c_noThen c_yesRound c_yesRule c_noRound c_noRule c_rounds c_isMore c_orders c_orderMany c_spot c_bad) ⟨hx, hb, hml, hown, hts⟩ hK hP hD hS hA [0, 1, 2, 3, 4, 5, 6, 7, 8, 9, 10, 11, 12, 13, 14] [] [0, 1, 2, 3, 4, 5, 6, 7, 8, 9, 10, 11, 12, 13, 14] rfl (by decide) rfl (by decide) (by decide) rfl (by decide) (c_X6_record l dC dI ck a0 a0_z a0_past a0_slots a0_isSaved a0_pad a0_yes a0_no a0_yesThen a0_noThen a0_yesRound a0_yesRule a0_noRound a0_noRule a0_orders c_z c_past c_slots c_isSaved c_pastMany c_pad c_typed c_yes c_no c_yesThen c_noThen c_yesRound c_yesRule c_noRound c_noRule c_rounds c_isMore c_orders c_orderMany c_spot c_bad c_past_17 c_pastMany_17 q_17) (cwV 0 hts gX6_takeBack_X6_record rfl rfl rfl (by decide +kernel) ⟨Nat.le_of_ble_eq_true rfl, Nat.le_of_ble_eq_true rfl⟩) 0 rfl rfl rfl hl.1 rfl (Nat.le_of_ble_eq_true rfl) dX6_takeBack_17 ⟨Nat.zero_le _, Nat.zero_le _⟩ (fun H locs hP hD hS => ?_)
      refine lv_aload_n hx hb dX6_takeBack_20 rfl (lv_at hl 0 rfl) ?_
      refine lv_iload_n hx hb dX6_takeBack_21 rfl (lv_at hl 1 rfl) ?_
      obtain ⟨c_z_22, q_22, h⟩ := ob1_e h
      refine cMV (wc := wX6 ck a0 a0_z a0_past a0_slots a0_isSaved a0_pad a0_yes a0_no a0_yesThen a0_noThen a0_yesRound a0_yesRule a0_noRound a0_noRule a0_orders c_z c_past_17 c_slots c_isSaved c_pastMany_17 c_pad c_typed c_yes c_no c_yesThen c_noThen c_yesRound c_yesRule c_noRound c_noRule c_rounds c_isMore c_orders c_orderMany c_spot c_bad) (wr := []) (w1 := wX6 ck a0 a0_z a0_past a0_slots a0_isSaved a0_pad a0_yes a0_no a0_yesThen a0_noThen a0_yesRound a0_yesRule a0_noRound a0_noRule a0_orders c_z_22 c_past_17 c_slots c_isSaved c_pastMany_17 c_pad c_typed c_yes c_no c_yesThen c_noThen c_yesRound c_yesRule c_noRound c_noRule c_rounds c_isMore c_orders c_orderMany c_spot c_bad) (wn := wX6 ck a0 a0_z a0_past a0_slots a0_isSaved a0_pad a0_yes a0_no a0_yesThen a0_noThen a0_yesRound a0_yesRule a0_noRound a0_noRule a0_orders c_z_22 c_past_17 c_slots c_isSaved c_pastMany_17 c_pad c_typed c_yes c_no c_yesThen c_noThen c_yesRound c_yesRule c_noRound c_noRule c_rounds c_isMore c_orders c_orderMany c_spot c_bad) ⟨hx, hb, hml, hown, hts⟩ hK hP hD hS hA [0, 1, 2, 3, 4, 5, 6, 7, 8, 9, 10, 11, 12, 13, 14] [] [0, 1, 2, 3, 4, 5, 6, 7, 8, 9, 10, 11, 12, 13, 14] rfl (by decide) rfl (by decide) (by decide) rfl (by decide) (c_X6_drop l dC dI ck a0 a0_z a0_past a0_slots a0_isSaved a0_pad a0_yes a0_no a0_yesThen a0_noThen a0_yesRound a0_yesRule a0_noRound a0_noRule a0_orders c_z c_past_17 c_slots c_isSaved c_pastMany_17 c_pad c_typed c_yes c_no c_yesThen c_noThen c_yesRound c_yesRule c_noRound c_noRule c_rounds c_isMore c_orders c_orderMany c_spot c_bad v1 c_z_22 q_22) (cwV 1 hts gX6_takeBack_X6_drop rfl rfl rfl (by decide +kernel) ⟨Nat.le_of_ble_eq_true rfl, Nat.le_of_ble_eq_true rfl⟩) 0 rfl rfl rfl hl.1 rfl (Nat.le_of_ble_eq_true rfl) dX6_takeBack_22 ⟨Nat.zero_le _, Nat.zero_le _⟩ (fun H locs hP hD hS => ?_)
      refine lv_aload_n hx hb dX6_takeBack_25 rfl (lv_at hl 0 rfl) ?_
      refine va_get (ci := 6) (v := .ref a0_z) (C := RX6) (T := TX6) (N := 21) hx hb hts iu_X6 hown hK.1 hP 0 rfl rfl 0 (by decide) (hts (.fieldLink RX6 7 "SheetMarksModel" "z" "[I") (List.mem_of_getElem? (i := 1) rfl)) (fun _ h9 => h9) rfl dX6_takeBack_26 ?_
      refine lv_iconst (v := (1 : Int32)) hx hb dX6_takeBack_29 rfl ?_
      obtain ⟨g_30, h⟩ := gd_e h
      refine va_iald hx hb hK.1 hP 1 0 rfl rfl g_30 dX6_takeBack_30 ?_
      cases h
      exact eMi hx hb hr hlk hP hD hS rfl dX6_takeBack_31
    · have h := if_f h c_11
      refine lv_iconst (v := (-1 : Int32)) hx hb dX6_takeBack_14 rfl ?_
      cases h
      exact eMi hx hb hr hlk hP hD hS rfl dX6_takeBack_15
noncomputable def f_X6_told (c_yesRound : Nat → Int32) (c_yesRule : Nat → Int32) (c_noRound : Nat → Int32) (c_noRule : Nat → Int32) (v1 : Int32) (v2 : Int32) (v3 : Int32) (v4 : Int32) : Option (Int32) :=
  if v2 = (0 : Int32) then (if v3 = (0 : Int32) then (if v4 = (0 : Int32) then (some ((0 : Int32) + (0 : Int32))) else (some ((0 : Int32) + (2 : Int32)))) else (if v4 = (0 : Int32) then (some ((1 : Int32) + (0 : Int32))) else (some ((1 : Int32) + (2 : Int32))))) else (if v2 = (1 : Int32) then (if v3 = (0 : Int32) then (some (-6 : Int32)) else (gd v1 108 (some (c_yesRound v1.toNatClampNeg)))) else (if v2 = (2 : Int32) then (if v3 = (0 : Int32) then (some (-6 : Int32)) else (gd v1 108 (some (c_yesRule v1.toNatClampNeg)))) else (if v2 = (3 : Int32) then (if v4 = (0 : Int32) then (some (-6 : Int32)) else (gd v1 108 (some (c_noRound v1.toNatClampNeg)))) else (if v2 = (4 : Int32) then (if v4 = (0 : Int32) then (some (-6 : Int32)) else (gd v1 108 (some (c_noRule v1.toNatClampNeg)))) else (some (-2 : Int32))))))
set_option maxHeartbeats 4000000 in
set_option maxRecDepth 100000 in
theorem c_X6_told (l : Launch) (dC : Nat → ClassId) (dI : Nat → Nat → Nat) (ck : Nat → ClassId) (a0 a0_z a0_past a0_slots a0_isSaved a0_pad a0_yes a0_no a0_yesThen a0_noThen a0_yesRound a0_yesRule a0_noRound a0_noRule a0_orders : Nat) (c_z : Nat → Int32) (c_past : Nat → Int32) (c_slots : Nat → Int32) (c_isSaved : Nat → Int32) (c_pastMany : Int32) (c_pad : Nat → Int32) (c_typed : Int32) (c_yes : Nat → Int32) (c_no : Nat → Int32) (c_yesThen : Nat → Int32) (c_noThen : Nat → Int32) (c_yesRound : Nat → Int32) (c_yesRule : Nat → Int32) (c_noRound : Nat → Int32) (c_noRule : Nat → Int32) (c_rounds : Int32) (c_isMore : Int32) (c_orders : Nat → Int32) (c_orderMany : Int32) (c_spot : Int32) (c_bad : Int32) (v1 : Int32) (v2 : Int32) (v3 : Int32) (v4 : Int32) (o0 : Int32) (h : f_X6_told c_yesRound c_yesRule c_noRound c_noRule v1 v2 v3 v4 = some o0) : RD l yX6_told wsX6_told ({ frames := 0, cells := 0, slots := 0, locals := 0 }) [.ref a0, .int v1, .int v2, .int v3, .int v4] (dC, dI) ck (wX6 ck a0 a0_z a0_past a0_slots a0_isSaved a0_pad a0_yes a0_no a0_yesThen a0_noThen a0_yesRound a0_yesRule a0_noRound a0_noRule a0_orders c_z c_past c_slots c_isSaved c_pastMany c_pad c_typed c_yes c_no c_yesThen c_noThen c_yesRound c_yesRule c_noRound c_noRule c_rounds c_isMore c_orders c_orderMany c_spot c_bad) o0 := by
  refine RD.ofW (cc := cX6_told) (maxL := 5) (ret := (some .int)) (by decide +kernel) rfl (Nat.le_of_ble_eq_true rfl) ?_
  intro p e s m below meth c hx hb hr hml hts hown hlk hK hP ls hl
  have hown : s.vm.findClass RX6 = some m.cls := hown
  have hl : lv_has ls 5 [(0, .ref a0), (1, .int v1), (2, .int v2), (3, .int v3), (4, .int v4)] := hl
  have iu_X6 : ∀ w ∈ u_ws RX6 TX6 21, w ∈ wsX6_told := fun w h => List.mem_cons_of_mem _ (List.mem_append_right _ h)
  unfold f_X6_told at h
  refine lv_iload_n hx hb dX6_told_0 rfl (lv_at hl 2 rfl) ?_
  rcases Decidable.em (v2 = (0 : Int32)) with c_1_0 | c_1_0
  · have h := if_t h c_1_0
    refine lv_tableIn (tgt := 36) hx hb dX6_told_1 (by rw [c_1_0]; decide) (by rw [c_1_0]; decide) (by rw [c_1_0]; rfl) (by decide) ?_
    refine lv_iload_n hx hb dX6_told_36 rfl (lv_at hl 3 rfl) ?_
    refine lv_if_eq (tgt := 44) hx hb dX6_told_37 (by decide) (fun c_37 => ?_) (fun c_37 => ?_)
    · have h := if_t h c_37
      refine lv_iconst (v := (0 : Int32)) hx hb dX6_told_44 rfl ?_
      refine lv_iload hx hb dX6_told_45 (lv_at hl 4 rfl) ?_
      refine lv_if_eq (tgt := 54) hx hb dX6_told_47 (by decide) (fun c_47 => ?_) (fun c_47 => ?_)
      · have h := if_t h c_47
        refine lv_iconst (v := (0 : Int32)) hx hb dX6_told_54 rfl ?_
        refine lv_iadd hx hb dX6_told_55 ?_
        cases h
        exact eRi hx hb hr hlk rfl dX6_told_56
      · have h := if_f h c_47
        refine lv_iconst (v := (2 : Int32)) hx hb dX6_told_50 rfl ?_
        refine lv_goto (tgt := 55) hx hb dX6_told_51 (by decide) ?_
        refine lv_iadd hx hb dX6_told_55 ?_
        cases h
        exact eRi hx hb hr hlk rfl dX6_told_56
    · have h := if_f h c_37
      refine lv_iconst (v := (1 : Int32)) hx hb dX6_told_40 rfl ?_
      refine lv_goto (tgt := 45) hx hb dX6_told_41 (by decide) ?_
      refine lv_iload hx hb dX6_told_45 (lv_at hl 4 rfl) ?_
      refine lv_if_eq (tgt := 54) hx hb dX6_told_47 (by decide) (fun c_47 => ?_) (fun c_47 => ?_)
      · have h := if_t h c_47
        refine lv_iconst (v := (0 : Int32)) hx hb dX6_told_54 rfl ?_
        refine lv_iadd hx hb dX6_told_55 ?_
        cases h
        exact eRi hx hb hr hlk rfl dX6_told_56
      · have h := if_f h c_47
        refine lv_iconst (v := (2 : Int32)) hx hb dX6_told_50 rfl ?_
        refine lv_goto (tgt := 55) hx hb dX6_told_51 (by decide) ?_
        refine lv_iadd hx hb dX6_told_55 ?_
        cases h
        exact eRi hx hb hr hlk rfl dX6_told_56
  have h := if_f h c_1_0
  rcases Decidable.em (v2 = (1 : Int32)) with c_1_1 | c_1_1
  · have h := if_t h c_1_1
    refine lv_tableIn (tgt := 57) hx hb dX6_told_1 (by rw [c_1_1]; decide) (by rw [c_1_1]; decide) (by rw [c_1_1]; rfl) (by decide) ?_
    refine lv_iload_n hx hb dX6_told_57 rfl (lv_at hl 3 rfl) ?_
    refine lv_if_eq (tgt := 70) hx hb dX6_told_58 (by decide) (fun c_58 => ?_) (fun c_58 => ?_)
    · have h := if_t h c_58
      refine lv_bipush (v := (-6 : Int32)) hx hb dX6_told_70 rfl ?_
      cases h
      exact eRi hx hb hr hlk rfl dX6_told_72
    · have h := if_f h c_58
      refine lv_aload_n hx hb dX6_told_61 rfl (lv_at hl 0 rfl) ?_
      refine va_get (ci := 6) (v := .ref a0_yesRound) (C := RX6) (T := TX6) (N := 21) hx hb hts iu_X6 hown hK.1 hP 0 rfl rfl 11 (by decide) (hts (.fieldLink RX6 39 "SheetMarksModel" "yesRound" "[I") (List.mem_of_getElem? (i := 1) rfl)) (fun _ h9 => h9) rfl dX6_told_62 ?_
      refine lv_iload_n hx hb dX6_told_65 rfl (lv_at hl 1 rfl) ?_
      obtain ⟨g_66, h⟩ := gd_e h
      refine va_iald hx hb hK.1 hP 10 0 rfl rfl g_66 dX6_told_66 ?_
      refine lv_goto (tgt := 72) hx hb dX6_told_67 (by decide) ?_
      cases h
      exact eRi hx hb hr hlk rfl dX6_told_72
  have h := if_f h c_1_1
  rcases Decidable.em (v2 = (2 : Int32)) with c_1_2 | c_1_2
  · have h := if_t h c_1_2
    refine lv_tableIn (tgt := 73) hx hb dX6_told_1 (by rw [c_1_2]; decide) (by rw [c_1_2]; decide) (by rw [c_1_2]; rfl) (by decide) ?_
    refine lv_iload_n hx hb dX6_told_73 rfl (lv_at hl 3 rfl) ?_
    refine lv_if_eq (tgt := 86) hx hb dX6_told_74 (by decide) (fun c_74 => ?_) (fun c_74 => ?_)
    · have h := if_t h c_74
      refine lv_bipush (v := (-6 : Int32)) hx hb dX6_told_86 rfl ?_
      cases h
      exact eRi hx hb hr hlk rfl dX6_told_88
    · have h := if_f h c_74
      refine lv_aload_n hx hb dX6_told_77 rfl (lv_at hl 0 rfl) ?_
      refine va_get (ci := 6) (v := .ref a0_yesRule) (C := RX6) (T := TX6) (N := 21) hx hb hts iu_X6 hown hK.1 hP 0 rfl rfl 12 (by decide) (hts (.fieldLink RX6 42 "SheetMarksModel" "yesRule" "[I") (List.mem_of_getElem? (i := 2) rfl)) (fun _ h9 => h9) rfl dX6_told_78 ?_
      refine lv_iload_n hx hb dX6_told_81 rfl (lv_at hl 1 rfl) ?_
      obtain ⟨g_82, h⟩ := gd_e h
      refine va_iald hx hb hK.1 hP 11 0 rfl rfl g_82 dX6_told_82 ?_
      refine lv_goto (tgt := 88) hx hb dX6_told_83 (by decide) ?_
      cases h
      exact eRi hx hb hr hlk rfl dX6_told_88
  have h := if_f h c_1_2
  rcases Decidable.em (v2 = (3 : Int32)) with c_1_3 | c_1_3
  · have h := if_t h c_1_3
    refine lv_tableIn (tgt := 89) hx hb dX6_told_1 (by rw [c_1_3]; decide) (by rw [c_1_3]; decide) (by rw [c_1_3]; rfl) (by decide) ?_
    refine lv_iload hx hb dX6_told_89 (lv_at hl 4 rfl) ?_
    refine lv_if_eq (tgt := 103) hx hb dX6_told_91 (by decide) (fun c_91 => ?_) (fun c_91 => ?_)
    · have h := if_t h c_91
      refine lv_bipush (v := (-6 : Int32)) hx hb dX6_told_103 rfl ?_
      cases h
      exact eRi hx hb hr hlk rfl dX6_told_105
    · have h := if_f h c_91
      refine lv_aload_n hx hb dX6_told_94 rfl (lv_at hl 0 rfl) ?_
      refine va_get (ci := 6) (v := .ref a0_noRound) (C := RX6) (T := TX6) (N := 21) hx hb hts iu_X6 hown hK.1 hP 0 rfl rfl 13 (by decide) (hts (.fieldLink RX6 45 "SheetMarksModel" "noRound" "[I") (List.mem_of_getElem? (i := 3) rfl)) (fun _ h9 => h9) rfl dX6_told_95 ?_
      refine lv_iload_n hx hb dX6_told_98 rfl (lv_at hl 1 rfl) ?_
      obtain ⟨g_99, h⟩ := gd_e h
      refine va_iald hx hb hK.1 hP 12 0 rfl rfl g_99 dX6_told_99 ?_
      refine lv_goto (tgt := 105) hx hb dX6_told_100 (by decide) ?_
      cases h
      exact eRi hx hb hr hlk rfl dX6_told_105
  have h := if_f h c_1_3
  rcases Decidable.em (v2 = (4 : Int32)) with c_1_4 | c_1_4
  · have h := if_t h c_1_4
    refine lv_tableIn (tgt := 106) hx hb dX6_told_1 (by rw [c_1_4]; decide) (by rw [c_1_4]; decide) (by rw [c_1_4]; rfl) (by decide) ?_
    refine lv_iload hx hb dX6_told_106 (lv_at hl 4 rfl) ?_
    refine lv_if_eq (tgt := 120) hx hb dX6_told_108 (by decide) (fun c_108 => ?_) (fun c_108 => ?_)
    · have h := if_t h c_108
      refine lv_bipush (v := (-6 : Int32)) hx hb dX6_told_120 rfl ?_
      cases h
      exact eRi hx hb hr hlk rfl dX6_told_122
    · have h := if_f h c_108
      refine lv_aload_n hx hb dX6_told_111 rfl (lv_at hl 0 rfl) ?_
      refine va_get (ci := 6) (v := .ref a0_noRule) (C := RX6) (T := TX6) (N := 21) hx hb hts iu_X6 hown hK.1 hP 0 rfl rfl 14 (by decide) (hts (.fieldLink RX6 48 "SheetMarksModel" "noRule" "[I") (List.mem_of_getElem? (i := 4) rfl)) (fun _ h9 => h9) rfl dX6_told_112 ?_
      refine lv_iload_n hx hb dX6_told_115 rfl (lv_at hl 1 rfl) ?_
      obtain ⟨g_116, h⟩ := gd_e h
      refine va_iald hx hb hK.1 hP 13 0 rfl rfl g_116 dX6_told_116 ?_
      refine lv_goto (tgt := 122) hx hb dX6_told_117 (by decide) ?_
      cases h
      exact eRi hx hb hr hlk rfl dX6_told_122
  have h := if_f h c_1_4
  refine lv_tableOut (tgt := 123) hx hb dX6_told_1 (by have t_0 := ti_ne (n := 0) rfl c_1_0; have t_1 := ti_ne (n := 1) rfl c_1_1; have t_2 := ti_ne (n := 2) rfl c_1_2; have t_3 := ti_ne (n := 3) rfl c_1_3; have t_4 := ti_ne (n := 4) rfl c_1_4; omega) (by decide) ?_
  refine lv_bipush (v := (-2 : Int32)) hx hb dX6_told_123 rfl ?_
  cases h
  exact eRi hx hb hr hlk rfl dX6_told_125
noncomputable def f_X6_mark_J48 (v1 : Int32) (v2 : Int32) (c_yes_18 : Nat → Int32) (c_no_18 : Nat → Int32) (c_yesThen_18 : Nat → Int32) (c_noThen_18 : Nat → Int32) (c_yesRound_18 : Nat → Int32) (c_yesRule_18 : Nat → Int32) (c_noRound_18 : Nat → Int32) (c_noRule_18 : Nat → Int32) (c_rounds_18 : Int32) (c_isMore_18 : Int32) (t1_J48 : Int32) (t2_J48 : Int32) (t3_J48 : Int32) : Option (Int32 × (Nat → Int32) × (Nat → Int32) × (Nat → Int32) × (Nat → Int32) × (Nat → Int32) × (Nat → Int32) × (Nat → Int32) × (Nat → Int32) × Int32 × Int32) :=
  gd v1 6 (if (((c_no_18 v1.toNatClampNeg) >>> (v2 &&& 31)) &&& (1 : Int32)) = (1 : Int32) then (ob1 (f_X6_told c_yesRound_18 c_yesRule_18 c_noRound_18 c_noRule_18 t1_J48 t2_J48 t3_J48 (1 : Int32)) (fun (r_67 : Int32) => some (r_67, c_yes_18, c_no_18, c_yesThen_18, c_noThen_18, c_yesRound_18, c_yesRule_18, c_noRound_18, c_noRule_18, c_rounds_18, c_isMore_18))) else (ob1 (f_X6_told c_yesRound_18 c_yesRule_18 c_noRound_18 c_noRule_18 t1_J48 t2_J48 t3_J48 (0 : Int32)) (fun (r_67 : Int32) => some (r_67, c_yes_18, c_no_18, c_yesThen_18, c_noThen_18, c_yesRound_18, c_yesRule_18, c_noRound_18, c_noRule_18, c_rounds_18, c_isMore_18))))
noncomputable def f_X6_mark (c_z : Nat → Int32) (c_yes : Nat → Int32) (c_no : Nat → Int32) (c_yesThen : Nat → Int32) (c_noThen : Nat → Int32) (c_yesRound : Nat → Int32) (c_yesRule : Nat → Int32) (c_noRound : Nat → Int32) (c_noRule : Nat → Int32) (c_rounds : Int32) (c_isMore : Int32) (v1 : Int32) (v2 : Int32) (v3 : Int32) : Option (Int32 × (Nat → Int32) × (Nat → Int32) × (Nat → Int32) × (Nat → Int32) × (Nat → Int32) × (Nat → Int32) × (Nat → Int32) × (Nat → Int32) × Int32 × Int32) :=
  ob1 (f_X6_isOwner c_z v1) (fun (r_2 : Int32) => if r_2 = (0 : Int32) then (some ((-1 : Int32), c_yes, c_no, c_yesThen, c_noThen, c_yesRound, c_yesRule, c_noRound, c_noRule, c_rounds, c_isMore)) else (ob1 (f_X6_isCard v2) (fun (r_9 : Int32) => if r_9 = (0 : Int32) then (some ((-1 : Int32), c_yes, c_no, c_yesThen, c_noThen, c_yesRound, c_yesRule, c_noRound, c_noRule, c_rounds, c_isMore)) else (ob10 (f_X6_lay c_z c_yes c_no c_yesThen c_noThen c_yesRound c_yesRule c_noRound c_noRule c_rounds c_isMore) (fun (c_yes_18 : Nat → Int32) (c_no_18 : Nat → Int32) (c_yesThen_18 : Nat → Int32) (c_noThen_18 : Nat → Int32) (c_yesRound_18 : Nat → Int32) (c_yesRule_18 : Nat → Int32) (c_noRound_18 : Nat → Int32) (c_noRule_18 : Nat → Int32) (c_rounds_18 : Int32) (c_isMore_18 : Int32) => gd v1 6 (if (((c_yes_18 v1.toNatClampNeg) >>> (v2 &&& 31)) &&& (1 : Int32)) = (1 : Int32) then (f_X6_mark_J48 v1 v2 c_yes_18 c_no_18 c_yesThen_18 c_noThen_18 c_yesRound_18 c_yesRule_18 c_noRound_18 c_noRule_18 c_rounds_18 c_isMore_18 (((18 : Int32) * v1) + v2) v3 (1 : Int32)) else (f_X6_mark_J48 v1 v2 c_yes_18 c_no_18 c_yesThen_18 c_noThen_18 c_yesRound_18 c_yesRule_18 c_noRound_18 c_noRule_18 c_rounds_18 c_isMore_18 (((18 : Int32) * v1) + v2) v3 (0 : Int32))))))))
set_option maxHeartbeats 4000000 in
set_option maxRecDepth 100000 in
theorem c_X6_mark (l : Launch) (dC : Nat → ClassId) (dI : Nat → Nat → Nat) (ck : Nat → ClassId) (a0 a0_z a0_past a0_slots a0_isSaved a0_pad a0_yes a0_no a0_yesThen a0_noThen a0_yesRound a0_yesRule a0_noRound a0_noRule a0_orders : Nat) (c_z : Nat → Int32) (c_past : Nat → Int32) (c_slots : Nat → Int32) (c_isSaved : Nat → Int32) (c_pastMany : Int32) (c_pad : Nat → Int32) (c_typed : Int32) (c_yes : Nat → Int32) (c_no : Nat → Int32) (c_yesThen : Nat → Int32) (c_noThen : Nat → Int32) (c_yesRound : Nat → Int32) (c_yesRule : Nat → Int32) (c_noRound : Nat → Int32) (c_noRule : Nat → Int32) (c_rounds : Int32) (c_isMore : Int32) (c_orders : Nat → Int32) (c_orderMany : Int32) (c_spot : Int32) (c_bad : Int32) (v1 : Int32) (v2 : Int32) (v3 : Int32) (o0 : Int32) (o1 : Nat → Int32) (o2 : Nat → Int32) (o3 : Nat → Int32) (o4 : Nat → Int32) (o5 : Nat → Int32) (o6 : Nat → Int32) (o7 : Nat → Int32) (o8 : Nat → Int32) (o9 : Int32) (o10 : Int32) (h : f_X6_mark c_z c_yes c_no c_yesThen c_noThen c_yesRound c_yesRule c_noRound c_noRule c_rounds c_isMore v1 v2 v3 = some (o0, o1, o2, o3, o4, o5, o6, o7, o8, o9, o10)) : MI l yX6_mark wsX6_mark ({ frames := 6, cells := 0, slots := 0, locals := 139 }) [.ref a0, .int v1, .int v2, .int v3] (dC, dI) ck (wX6 ck a0 a0_z a0_past a0_slots a0_isSaved a0_pad a0_yes a0_no a0_yesThen a0_noThen a0_yesRound a0_yesRule a0_noRound a0_noRule a0_orders c_z c_past c_slots c_isSaved c_pastMany c_pad c_typed c_yes c_no c_yesThen c_noThen c_yesRound c_yesRule c_noRound c_noRule c_rounds c_isMore c_orders c_orderMany c_spot c_bad) (wX6 ck a0 a0_z a0_past a0_slots a0_isSaved a0_pad a0_yes a0_no a0_yesThen a0_noThen a0_yesRound a0_yesRule a0_noRound a0_noRule a0_orders c_z c_past c_slots c_isSaved c_pastMany c_pad c_typed o1 o2 o3 o4 o5 o6 o7 o8 o9 o10 c_orders c_orderMany c_spot c_bad) o0 := by
  refine MI.ofW (cc := cX6_mark) (maxL := 4) (ret := (some .int)) (by decide +kernel) rfl (Nat.le_of_ble_eq_true rfl) ?_
  intro p e s m below meth c hx hb hr hml hts hown hlk hK hP A hA hD ls hl
  have hS : va_S A s.heap s.heap [] := va_S.rf
  have hown : s.vm.findClass RX6 = some m.cls := hown
  have hl : lv_has ls 4 [(0, .ref a0), (1, .int v1), (2, .int v2), (3, .int v3)] := hl
  have iu_X6 : ∀ w ∈ u_ws RX6 TX6 21, w ∈ wsX6_mark := fun w h => List.mem_cons_of_mem _ (List.mem_append_right _ h)
  unfold f_X6_mark at h
  refine lv_aload_n hx hb dX6_mark_0 rfl (lv_at hl 0 rfl) ?_
  refine lv_iload_n hx hb dX6_mark_1 rfl (lv_at hl 1 rfl) ?_
  obtain ⟨r_2, q_2, h⟩ := ob1_e h
  refine cRV (wc := wX6 ck a0 a0_z a0_past a0_slots a0_isSaved a0_pad a0_yes a0_no a0_yesThen a0_noThen a0_yesRound a0_yesRule a0_noRound a0_noRule a0_orders c_z c_past c_slots c_isSaved c_pastMany c_pad c_typed c_yes c_no c_yesThen c_noThen c_yesRound c_yesRule c_noRound c_noRule c_rounds c_isMore c_orders c_orderMany c_spot c_bad) ⟨hx, hb, hml, hown, hts⟩ hK hP [0, 1, 2, 3, 4, 5, 6, 7, 8, 9, 10, 11, 12, 13, 14] rfl (c_X6_isOwner l dC dI ck a0 a0_z a0_past a0_slots a0_isSaved a0_pad a0_yes a0_no a0_yesThen a0_noThen a0_yesRound a0_yesRule a0_noRound a0_noRule a0_orders c_z c_past c_slots c_isSaved c_pastMany c_pad c_typed c_yes c_no c_yesThen c_noThen c_yesRound c_yesRule c_noRound c_noRule c_rounds c_isMore c_orders c_orderMany c_spot c_bad v1 r_2 q_2) (cwV 1 hts gX6_mark_X6_isOwner rfl rfl rfl (by decide +kernel) ⟨Nat.le_of_ble_eq_true rfl, Nat.le_of_ble_eq_true rfl⟩) 0 rfl rfl rfl hl.1 rfl (Nat.le_of_ble_eq_true rfl) dX6_mark_2 ⟨Nat.zero_le _, Nat.zero_le _⟩ ?_
  refine lv_if_eq (tgt := 15) hx hb dX6_mark_5 (by decide) (fun c_5 => ?_) (fun c_5 => ?_)
  · have h := if_t h c_5
    refine lv_iconst (v := (-1 : Int32)) hx hb dX6_mark_15 rfl ?_
    cases h
    exact eMi hx hb hr hlk hP hD hS rfl dX6_mark_16
  · have h := if_f h c_5
    refine lv_iload_n hx hb dX6_mark_8 rfl (lv_at hl 2 rfl) ?_
    obtain ⟨r_9, q_9, h⟩ := ob1_e h
    refine cRS (wc := []) ⟨hx, hb, hml, hown, hts⟩ hK hP [] rfl (c_X6_isCard l dC dI ck v2 r_9 q_9) (va_cwS 1 hts gX6_mark_X6_isCard rfl rfl rfl (by decide +kernel) ⟨Nat.le_of_ble_eq_true rfl, Nat.le_of_ble_eq_true rfl⟩) rfl hl.1 rfl (Nat.le_of_ble_eq_true rfl) dX6_mark_9 ⟨Nat.zero_le _, Nat.zero_le _⟩ ?_
    refine lv_if_ne (tgt := 17) hx hb dX6_mark_12 (by decide) (fun c_12 => ?_) (fun c_12 => ?_)
    · have h := if_f h c_12
      refine lv_aload_n hx hb dX6_mark_17 rfl (lv_at hl 0 rfl) ?_
      obtain ⟨c_yes_18, c_no_18, c_yesThen_18, c_noThen_18, c_yesRound_18, c_yesRule_18, c_noRound_18, c_noRule_18, c_rounds_18, c_isMore_18, q_18, h⟩ := ob10_e h
      refine cMV (wc := wX6 ck a0 a0_z a0_past a0_slots a0_isSaved a0_pad a0_yes a0_no a0_yesThen a0_noThen a0_yesRound a0_yesRule a0_noRound a0_noRule a0_orders c_z c_past c_slots c_isSaved c_pastMany c_pad c_typed c_yes c_no c_yesThen c_noThen c_yesRound c_yesRule c_noRound c_noRule c_rounds c_isMore c_orders c_orderMany c_spot c_bad) (wr := []) (w1 := wX6 ck a0 a0_z a0_past a0_slots a0_isSaved a0_pad a0_yes a0_no a0_yesThen a0_noThen a0_yesRound a0_yesRule a0_noRound a0_noRule a0_orders c_z c_past c_slots c_isSaved c_pastMany c_pad c_typed c_yes_18 c_no_18 c_yesThen_18 c_noThen_18 c_yesRound_18 c_yesRule_18 c_noRound_18 c_noRule_18 c_rounds_18 c_isMore_18 c_orders c_orderMany c_spot c_bad) (wn := wX6 ck a0 a0_z a0_past a0_slots a0_isSaved a0_pad a0_yes a0_no a0_yesThen a0_noThen a0_yesRound a0_yesRule a0_noRound a0_noRule a0_orders c_z c_past c_slots c_isSaved c_pastMany c_pad c_typed c_yes_18 c_no_18 c_yesThen_18 c_noThen_18 c_yesRound_18 c_yesRule_18 c_noRound_18 c_noRule_18 c_rounds_18 c_isMore_18 c_orders c_orderMany c_spot c_bad) ⟨hx, hb, hml, hown, hts⟩ hK hP hD hS hA [0, 1, 2, 3, 4, 5, 6, 7, 8, 9, 10, 11, 12, 13, 14] [] [0, 1, 2, 3, 4, 5, 6, 7, 8, 9, 10, 11, 12, 13, 14] rfl (by decide) rfl (by decide) (by decide) rfl (by decide) (c_X6_lay l dC dI ck a0 a0_z a0_past a0_slots a0_isSaved a0_pad a0_yes a0_no a0_yesThen a0_noThen a0_yesRound a0_yesRule a0_noRound a0_noRule a0_orders c_z c_past c_slots c_isSaved c_pastMany c_pad c_typed c_yes c_no c_yesThen c_noThen c_yesRound c_yesRule c_noRound c_noRule c_rounds c_isMore c_orders c_orderMany c_spot c_bad c_yes_18 c_no_18 c_yesThen_18 c_noThen_18 c_yesRound_18 c_yesRule_18 c_noRound_18 c_noRule_18 c_rounds_18 c_isMore_18 q_18) (cwV 0 hts gX6_mark_X6_lay rfl rfl rfl (by decide +kernel) ⟨Nat.le_of_ble_eq_true rfl, Nat.le_of_ble_eq_true rfl⟩) 0 rfl rfl rfl hl.1 rfl (Nat.le_of_ble_eq_true rfl) dX6_mark_18 ⟨Nat.zero_le _, Nat.zero_le _⟩ (fun H locs hP hD hS => ?_)
      refine lv_aload_n hx hb dX6_mark_21 rfl (lv_at hl 0 rfl) ?_
      refine lv_bipush (v := (18 : Int32)) hx hb dX6_mark_22 rfl ?_
      refine lv_iload_n hx hb dX6_mark_24 rfl (lv_at hl 1 rfl) ?_
      refine lv_imul hx hb dX6_mark_25 ?_
      refine lv_iload_n hx hb dX6_mark_26 rfl (lv_at hl 2 rfl) ?_
      refine lv_iadd hx hb dX6_mark_27 ?_
      refine lv_iload_n hx hb dX6_mark_28 rfl (lv_at hl 3 rfl) ?_
      refine lv_aload_n hx hb dX6_mark_29 rfl (lv_at hl 0 rfl) ?_
      refine va_get (ci := 6) (v := .ref a0_yes) (C := RX6) (T := TX6) (N := 21) hx hb hts iu_X6 hown hK.1 hP 0 rfl rfl 7 (by decide) (hts (.fieldLink RX6 27 "SheetMarksModel" "yes" "[I") (List.mem_of_getElem? (i := 1) rfl)) (fun _ h9 => h9) rfl dX6_mark_30 ?_
      refine lv_iload_n hx hb dX6_mark_33 rfl (lv_at hl 1 rfl) ?_
      obtain ⟨g_34, h⟩ := gd_e h
      refine va_iald hx hb hK.1 hP 6 0 rfl rfl g_34 dX6_mark_34 ?_
      refine lv_iload_n hx hb dX6_mark_35 rfl (lv_at hl 2 rfl) ?_
      refine lv_ishr hx hb dX6_mark_36 ?_
      refine lv_iconst (v := (1 : Int32)) hx hb dX6_mark_37 rfl ?_
      refine lv_iand hx hb dX6_mark_38 ?_
      refine lv_iconst (v := (1 : Int32)) hx hb dX6_mark_39 rfl ?_
      have hJ48 : ∀ (t1_J48 : Int32) (t2_J48 : Int32) (t3_J48 : Int32), f_X6_mark_J48 v1 v2 c_yes_18 c_no_18 c_yesThen_18 c_noThen_18 c_yesRound_18 c_yesRule_18 c_noRound_18 c_noRule_18 c_rounds_18 c_isMore_18 t1_J48 t2_J48 t3_J48 = some (o0, o1, o2, o3, o4, o5, o6, o7, o8, o9, o10) → ∀ (H : Heap) (locs : List Loc), va_P (dC, dI) vwCl (wX6 ck a0 a0_z a0_past a0_slots a0_isSaved a0_pad a0_yes a0_no a0_yesThen a0_noThen a0_yesRound a0_yesRule a0_noRound a0_noRule a0_orders c_z c_past c_slots c_isSaved c_pastMany c_pad c_typed c_yes_18 c_no_18 c_yesThen_18 c_noThen_18 c_yesRound_18 c_yesRule_18 c_noRound_18 c_noRule_18 c_rounds_18 c_isMore_18 c_orders c_orderMany c_spot c_bad) H → va_D A (wX6 ck a0 a0_z a0_past a0_slots a0_isSaved a0_pad a0_yes a0_no a0_yesThen a0_noThen a0_yesRound a0_yesRule a0_noRound a0_noRule a0_orders c_z c_past c_slots c_isSaved c_pastMany c_pad c_typed c_yes_18 c_no_18 c_yesThen_18 c_noThen_18 c_yesRound_18 c_yesRule_18 c_noRound_18 c_noRule_18 c_rounds_18 c_isMore_18 c_orders c_orderMany c_spot c_bad) → va_S A s.heap H locs → ∀ ls : Array Slot, lv_has ls 4 [(0, .ref a0), (1, .int v1), (2, .int v2)] → W p l e (headSpec wsX6_mark ({ frames := 6, cells := 0, slots := 0, locals := 139 })).room s m [.ref a0, .int v1, .int v2, .int v3].toArray below meth c H locs 0 0 (MQ below (QI (dC, dI) (wX6 ck a0 a0_z a0_past a0_slots a0_isSaved a0_pad a0_yes a0_no a0_yesThen a0_noThen a0_yesRound a0_yesRule a0_noRound a0_noRule a0_orders c_z c_past c_slots c_isSaved c_pastMany c_pad c_typed o1 o2 o3 o4 o5 o6 o7 o8 o9 o10 c_orders c_orderMany c_spot c_bad) o0 A) [.ref a0, .int v1, .int v2, .int v3].toArray s 0 0 A) (F0 m 48 ls [.int t3_J48, .int t2_J48, .int t1_J48, .ref a0]) := by
        intro t1_J48 t2_J48 t3_J48 h H locs hP hD hS ls hl
        unfold f_X6_mark_J48 at h
        refine lv_aload_n hx hb dX6_mark_48 rfl (lv_at hl 0 rfl) ?_
        refine va_get (ci := 6) (v := .ref a0_no) (C := RX6) (T := TX6) (N := 21) hx hb hts iu_X6 hown hK.1 hP 0 rfl rfl 8 (by decide) (hts (.fieldLink RX6 30 "SheetMarksModel" "no" "[I") (List.mem_of_getElem? (i := 2) rfl)) (fun _ h9 => h9) rfl dX6_mark_49 ?_
        refine lv_iload_n hx hb dX6_mark_52 rfl (lv_at hl 1 rfl) ?_
        obtain ⟨g_53, h⟩ := gd_e h
        refine va_iald hx hb hK.1 hP 7 0 rfl rfl g_53 dX6_mark_53 ?_
        refine lv_iload_n hx hb dX6_mark_54 rfl (lv_at hl 2 rfl) ?_
        refine lv_ishr hx hb dX6_mark_55 ?_
        refine lv_iconst (v := (1 : Int32)) hx hb dX6_mark_56 rfl ?_
        refine lv_iand hx hb dX6_mark_57 ?_
        refine lv_iconst (v := (1 : Int32)) hx hb dX6_mark_58 rfl ?_
        refine lv_icmp_ne (tgt := 66) hx hb dX6_mark_59 (by decide) (fun c_59 => ?_) (fun c_59 => ?_)
        · have h := if_f h c_59
          refine lv_iconst (v := (0 : Int32)) hx hb dX6_mark_66 rfl ?_
          obtain ⟨r_67, q_67, h⟩ := ob1_e h
          refine cRV (wc := wX6 ck a0 a0_z a0_past a0_slots a0_isSaved a0_pad a0_yes a0_no a0_yesThen a0_noThen a0_yesRound a0_yesRule a0_noRound a0_noRule a0_orders c_z c_past c_slots c_isSaved c_pastMany c_pad c_typed c_yes_18 c_no_18 c_yesThen_18 c_noThen_18 c_yesRound_18 c_yesRule_18 c_noRound_18 c_noRule_18 c_rounds_18 c_isMore_18 c_orders c_orderMany c_spot c_bad) ⟨hx, hb, hml, hown, hts⟩ hK hP [0, 1, 2, 3, 4, 5, 6, 7, 8, 9, 10, 11, 12, 13, 14] rfl (c_X6_told l dC dI ck a0 a0_z a0_past a0_slots a0_isSaved a0_pad a0_yes a0_no a0_yesThen a0_noThen a0_yesRound a0_yesRule a0_noRound a0_noRule a0_orders c_z c_past c_slots c_isSaved c_pastMany c_pad c_typed c_yes_18 c_no_18 c_yesThen_18 c_noThen_18 c_yesRound_18 c_yesRule_18 c_noRound_18 c_noRule_18 c_rounds_18 c_isMore_18 c_orders c_orderMany c_spot c_bad t1_J48 t2_J48 t3_J48 (0 : Int32) r_67 q_67) (cwV 4 hts gX6_mark_X6_told rfl rfl rfl (by decide +kernel) ⟨Nat.le_of_ble_eq_true rfl, Nat.le_of_ble_eq_true rfl⟩) 0 rfl rfl rfl hl.1 rfl (Nat.le_of_ble_eq_true rfl) dX6_mark_67 ⟨Nat.zero_le _, Nat.zero_le _⟩ ?_
          cases h
          exact eMi hx hb hr hlk hP hD hS rfl dX6_mark_70
        · have h := if_t h c_59
          refine lv_iconst (v := (1 : Int32)) hx hb dX6_mark_62 rfl ?_
          refine lv_goto (tgt := 67) hx hb dX6_mark_63 (by decide) ?_
          obtain ⟨r_67, q_67, h⟩ := ob1_e h
          refine cRV (wc := wX6 ck a0 a0_z a0_past a0_slots a0_isSaved a0_pad a0_yes a0_no a0_yesThen a0_noThen a0_yesRound a0_yesRule a0_noRound a0_noRule a0_orders c_z c_past c_slots c_isSaved c_pastMany c_pad c_typed c_yes_18 c_no_18 c_yesThen_18 c_noThen_18 c_yesRound_18 c_yesRule_18 c_noRound_18 c_noRule_18 c_rounds_18 c_isMore_18 c_orders c_orderMany c_spot c_bad) ⟨hx, hb, hml, hown, hts⟩ hK hP [0, 1, 2, 3, 4, 5, 6, 7, 8, 9, 10, 11, 12, 13, 14] rfl (c_X6_told l dC dI ck a0 a0_z a0_past a0_slots a0_isSaved a0_pad a0_yes a0_no a0_yesThen a0_noThen a0_yesRound a0_yesRule a0_noRound a0_noRule a0_orders c_z c_past c_slots c_isSaved c_pastMany c_pad c_typed c_yes_18 c_no_18 c_yesThen_18 c_noThen_18 c_yesRound_18 c_yesRule_18 c_noRound_18 c_noRule_18 c_rounds_18 c_isMore_18 c_orders c_orderMany c_spot c_bad t1_J48 t2_J48 t3_J48 (1 : Int32) r_67 q_67) (cwV 4 hts gX6_mark_X6_told rfl rfl rfl (by decide +kernel) ⟨Nat.le_of_ble_eq_true rfl, Nat.le_of_ble_eq_true rfl⟩) 0 rfl rfl rfl hl.1 rfl (Nat.le_of_ble_eq_true rfl) dX6_mark_67 ⟨Nat.zero_le _, Nat.zero_le _⟩ ?_
          cases h
          exact eMi hx hb hr hlk hP hD hS rfl dX6_mark_70
      refine lv_icmp_ne (tgt := 47) hx hb dX6_mark_40 (by decide) (fun c_40 => ?_) (fun c_40 => ?_)
      · have h := if_f h c_40
        refine lv_iconst (v := (0 : Int32)) hx hb dX6_mark_47 rfl ?_
        exact hJ48 _ _ _ h _ _ hP hD hS _ (lv_sub hl [0, 1, 2] rfl)
      · have h := if_t h c_40
        refine lv_iconst (v := (1 : Int32)) hx hb dX6_mark_43 rfl ?_
        refine lv_goto (tgt := 48) hx hb dX6_mark_44 (by decide) ?_
        exact hJ48 _ _ _ h _ _ hP hD hS _ (lv_sub hl [0, 1, 2] rfl)
    · have h := if_t h c_12
      refine lv_iconst (v := (-1 : Int32)) hx hb dX6_mark_15 rfl ?_
      cases h
      exact eMi hx hb hr hlk hP hD hS rfl dX6_mark_16
