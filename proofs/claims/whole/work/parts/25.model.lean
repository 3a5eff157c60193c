noncomputable def f_X6_put_L80 (v1 : Int64) (rec80 : Int32 → (Nat → Int32) → Int32 → Option (Int32 × (Nat → Int32) × Int32)) (v7_L80 : Int32) (c_pad_L80 : Nat → Int32) (c_typed_L80 : Int32) : Option (Int32 × (Nat → Int32) × Int32) :=
  if v7_L80 < (0 : Int32) then (some (c_typed_L80, c_pad_L80, c_typed_L80)) else (gd c_typed_L80 80 (lt' (upd c_pad_L80 c_typed_L80.toNatClampNeg (vp_nar .char ((((((v1.toUInt64 >>> (((8 : Int32) * v7_L80).toInt64.toUInt64 &&& Int64.toUInt64 63)).toInt64) &&& (255 : Int64)).toInt32).toUInt32 % 65536).toInt32))) (fun c_pad_106 : Nat → Int32 => lt' (c_typed_L80 + (1 : Int32)) (fun c_typed_114 : Int32 => rec80 (v7_L80 + (-1 : Int32)) c_pad_106 c_typed_114))))
noncomputable def f_X6_put_J49 (c_pad : Nat → Int32) (c_typed : Int32) (v1 : Int64) (v3_L8 : Int32) (v6_L8 : Int32) : Option (Int32 × (Nat → Int32) × Int32) :=
  if v3_L8 = (0 : Int32) then (some ((-2 : Int32), c_pad, c_typed)) else (if v6_L8 = (0 : Int32) then (some ((-2 : Int32), c_pad, c_typed)) else (if (c_typed + v3_L8) ≤ (80 : Int32) then (lt' (v3_L8 - (1 : Int32)) (fun v7_78 : Int32 => lo3 (f_X6_put_L80 v1) FU v7_78 c_pad c_typed)) else (some ((-4 : Int32), c_pad, c_typed))))
noncomputable def f_X6_put_L8 (c_pad : Nat → Int32) (c_typed : Int32) (v1 : Int64) (rec8 : Int32 → Int64 → Int32 → Option (Int32 × (Nat → Int32) × Int32)) (v3_L8 : Int32) (v4_L8 : Int64) (v6_L8 : Int32) : Option (Int32 × (Nat → Int32) × Int32) :=
  if (lg_cmp v4_L8 (0 : Int64)) = (0 : Int32) then (f_X6_put_J49 c_pad c_typed v1 v3_L8 v6_L8) else (if v6_L8 = (0 : Int32) then (f_X6_put_J49 c_pad c_typed v1 v3_L8 v6_L8) else (ob1 (f_X6_in ((v4_L8 &&& (255 : Int64)).toInt32) (33 : Int32) (126 : Int32)) (fun (r_31 : Int32) => lt' ((v4_L8.toUInt64 >>> ((8 : Int32).toInt64.toUInt64 &&& Int64.toUInt64 63)).toInt64) (fun v4_41 : Int64 => rec8 (v3_L8 + (1 : Int32)) v4_41 r_31))))
noncomputable def f_X6_put (c_pad : Nat → Int32) (c_typed : Int32) (v1 : Int64) : Option (Int32 × (Nat → Int32) × Int32) :=
  lo3 (f_X6_put_L8 c_pad c_typed v1) FU (0 : Int32) v1 (1 : Int32)
set_option maxHeartbeats 4000000 in
set_option maxRecDepth 100000 in
theorem c_X6_put (l : Launch) (dC : Nat → ClassId) (dI : Nat → Nat → Nat) (ck : Nat → ClassId) (a0 a0_z a0_past a0_slots a0_isSaved a0_pad a0_yes a0_no a0_yesThen a0_noThen a0_yesRound a0_yesRule a0_noRound a0_noRule a0_orders : Nat) (c_z : Nat → Int32) (c_past : Nat → Int32) (c_slots : Nat → Int32) (c_isSaved : Nat → Int32) (c_pastMany : Int32) (c_pad : Nat → Int32) (c_typed : Int32) (c_yes : Nat → Int32) (c_no : Nat → Int32) (c_yesThen : Nat → Int32) (c_noThen : Nat → Int32) (c_yesRound : Nat → Int32) (c_yesRule : Nat → Int32) (c_noRound : Nat → Int32) (c_noRule : Nat → Int32) (c_rounds : Int32) (c_isMore : Int32) (c_orders : Nat → Int32) (c_orderMany : Int32) (c_spot : Int32) (c_bad : Int32) (v1 : Int64) (o0 : Int32) (o1 : Nat → Int32) (o2 : Int32) (h : f_X6_put c_pad c_typed v1 = some (o0, o1, o2)) : MI l yX6_put wsX6_put ({ frames := 1, cells := 0, slots := 0, locals := 22 }) [.ref a0, .long v1] (dC, dI) ck (wX6 ck a0 a0_z a0_past a0_slots a0_isSaved a0_pad a0_yes a0_no a0_yesThen a0_noThen a0_yesRound a0_yesRule a0_noRound a0_noRule a0_orders c_z c_past c_slots c_isSaved c_pastMany c_pad c_typed c_yes c_no c_yesThen c_noThen c_yesRound c_yesRule c_noRound c_noRule c_rounds c_isMore c_orders c_orderMany c_spot c_bad) (wX6 ck a0 a0_z a0_past a0_slots a0_isSaved a0_pad a0_yes a0_no a0_yesThen a0_noThen a0_yesRound a0_yesRule a0_noRound a0_noRule a0_orders c_z c_past c_slots c_isSaved c_pastMany o1 o2 c_yes c_no c_yesThen c_noThen c_yesRound c_yesRule c_noRound c_noRule c_rounds c_isMore c_orders c_orderMany c_spot c_bad) o0 := by
  refine MI.ofW (cc := cX6_put) (maxL := 8) (ret := (some .int)) (by decide +kernel) rfl (Nat.le_of_ble_eq_true rfl) ?_
  intro p e s m below meth c hx hb hr hml hts hown hlk hK hP A hA hD ls hl
  have hS : va_S A s.heap s.heap [] := va_S.rf
  have hown : s.vm.findClass RX6 = some m.cls := hown
  have hl : lv_has ls 8 [(0, .ref a0), (1, .long v1)] := hl
  have iu_X6 : ∀ w ∈ u_ws RX6 TX6 21, w ∈ wsX6_put := fun w h => List.mem_cons_of_mem _ (List.mem_append_right _ h)
  unfold f_X6_put at h
  refine lv_iconst (v := (0 : Int32)) hx hb dX6_put_0 rfl ?_
  refine lv_istore_n (lv' := [(3, .int (0 : Int32)), (0, .ref a0), (1, .long v1)]) hx hb dX6_put_1 rfl hl (by decide) rfl (fun ls hl => ?_)
  refine lv_lload_n hx hb dX6_put_2 rfl (lv_at hl 2 rfl) ?_
  refine lv_lstore (lv' := [(4, .long v1), (3, .int (0 : Int32)), (0, .ref a0), (1, .long v1)]) hx hb dX6_put_3 hl (by decide) rfl (fun ls hl => ?_)
  refine lv_iconst (v := (1 : Int32)) hx hb dX6_put_5 rfl ?_
  refine lv_istore (lv' := [(6, .int (1 : Int32)), (4, .long v1), (3, .int (0 : Int32)), (0, .ref a0), (1, .long v1)]) hx hb dX6_put_6 hl (by decide) rfl (fun ls hl => ?_)
  have hL8 : ∀ (n8 : Nat) (v3_L8 : Int32) (v4_L8 : Int64) (v6_L8 : Int32), lo3 (f_X6_put_L8 c_pad c_typed v1) n8 v3_L8 v4_L8 v6_L8 = some (o0, o1, o2) → ∀ (H : Heap) (locs : List Loc), va_P (dC, dI) vwCl (wX6 ck a0 a0_z a0_past a0_slots a0_isSaved a0_pad a0_yes a0_no a0_yesThen a0_noThen a0_yesRound a0_yesRule a0_noRound a0_noRule a0_orders c_z c_past c_slots c_isSaved c_pastMany c_pad c_typed c_yes c_no c_yesThen c_noThen c_yesRound c_yesRule c_noRound c_noRule c_rounds c_isMore c_orders c_orderMany c_spot c_bad) H → va_D A (wX6 ck a0 a0_z a0_past a0_slots a0_isSaved a0_pad a0_yes a0_no a0_yesThen a0_noThen a0_yesRound a0_yesRule a0_noRound a0_noRule a0_orders c_z c_past c_slots c_isSaved c_pastMany c_pad c_typed c_yes c_no c_yesThen c_noThen c_yesRound c_yesRule c_noRound c_noRule c_rounds c_isMore c_orders c_orderMany c_spot c_bad) → va_S A s.heap H locs → ∀ ls : Array Slot, lv_has ls 8 [(6, .int v6_L8), (4, .long v4_L8), (3, .int v3_L8), (0, .ref a0), (1, .long v1)] → W p l e (headSpec wsX6_put ({ frames := 1, cells := 0, slots := 0, locals := 22 })).room s m [.ref a0, .long v1].toArray below meth c H locs 0 0 (MQ below (QI (dC, dI) (wX6 ck a0 a0_z a0_past a0_slots a0_isSaved a0_pad a0_yes a0_no a0_yesThen a0_noThen a0_yesRound a0_yesRule a0_noRound a0_noRule a0_orders c_z c_past c_slots c_isSaved c_pastMany o1 o2 c_yes c_no c_yesThen c_noThen c_yesRound c_yesRule c_noRound c_noRule c_rounds c_isMore c_orders c_orderMany c_spot c_bad) o0 A) [.ref a0, .long v1].toArray s 0 0 A) (F0 m 8 ls []) := by
    intro n8
    induction n8 with
    | zero => intro v3_L8 v4_L8 v6_L8 h; exact lo3_z h
    | succ n8 ih8 =>
      intro v3_L8 v4_L8 v6_L8 h H locs hP hD hS ls hl
      have h := lo3_s h
      unfold f_X6_put_L8 at h
      refine lv_lload hx hb dX6_put_8 (lv_at hl 1 rfl) ?_
      refine lv_lconst (v := (0 : Int64)) hx hb dX6_put_10 rfl ?_
      refine W.lcmp hx hb dX6_put_11 ?_
      have hJ49 : f_X6_put_J49 c_pad c_typed v1 v3_L8 v6_L8 = some (o0, o1, o2) → ∀ (H : Heap) (locs : List Loc), va_P (dC, dI) vwCl (wX6 ck a0 a0_z a0_past a0_slots a0_isSaved a0_pad a0_yes a0_no a0_yesThen a0_noThen a0_yesRound a0_yesRule a0_noRound a0_noRule a0_orders c_z c_past c_slots c_isSaved c_pastMany c_pad c_typed c_yes c_no c_yesThen c_noThen c_yesRound c_yesRule c_noRound c_noRule c_rounds c_isMore c_orders c_orderMany c_spot c_bad) H → va_D A (wX6 ck a0 a0_z a0_past a0_slots a0_isSaved a0_pad a0_yes a0_no a0_yesThen a0_noThen a0_yesRound a0_yesRule a0_noRound a0_noRule a0_orders c_z c_past c_slots c_isSaved c_pastMany c_pad c_typed c_yes c_no c_yesThen c_noThen c_yesRound c_yesRule c_noRound c_noRule c_rounds c_isMore c_orders c_orderMany c_spot c_bad) → va_S A s.heap H locs → ∀ ls : Array Slot, lv_has ls 8 [(6, .int v6_L8), (3, .int v3_L8), (0, .ref a0), (1, .long v1)] → W p l e (headSpec wsX6_put ({ frames := 1, cells := 0, slots := 0, locals := 22 })).room s m [.ref a0, .long v1].toArray below meth c H locs 0 0 (MQ below (QI (dC, dI) (wX6 ck a0 a0_z a0_past a0_slots a0_isSaved a0_pad a0_yes a0_no a0_yesThen a0_noThen a0_yesRound a0_yesRule a0_noRound a0_noRule a0_orders c_z c_past c_slots c_isSaved c_pastMany o1 o2 c_yes c_no c_yesThen c_noThen c_yesRound c_yesRule c_noRound c_noRule c_rounds c_isMore c_orders c_orderMany c_spot c_bad) o0 A) [.ref a0, .long v1].toArray s 0 0 A) (F0 m 49 ls []) := by
        intro  h H locs hP hD hS ls hl
        unfold f_X6_put_J49 at h
        refine lv_iload_n hx hb dX6_put_49 rfl (lv_at hl 1 rfl) ?_
        refine lv_if_eq (tgt := 58) hx hb dX6_put_50 (by decide) (fun c_50 => ?_) (fun c_50 => ?_)
        · have h := if_t h c_50
          refine lv_bipush (v := (-2 : Int32)) hx hb dX6_put_58 rfl ?_
          cases h
          exact eMi hx hb hr hlk hP hD hS rfl dX6_put_60
        · have h := if_f h c_50
          refine lv_iload hx hb dX6_put_53 (lv_at hl 0 rfl) ?_
          refine lv_if_ne (tgt := 61) hx hb dX6_put_55 (by decide) (fun c_55 => ?_) (fun c_55 => ?_)
          · have h := if_f h c_55
            refine lv_aload_n hx hb dX6_put_61 rfl (lv_at hl 2 rfl) ?_
            refine va_get (ci := 6) (v := .int c_typed) (C := RX6) (T := TX6) (N := 21) hx hb hts iu_X6 hown hK.1 hP 0 rfl rfl 6 (by decide) (hts (.fieldLink RX6 194 "SheetMarksModel" "typed" "I") (List.mem_of_getElem? (i := 2) rfl)) (fun _ h9 => h9) rfl dX6_put_62 ?_
            refine lv_iload_n hx hb dX6_put_65 rfl (lv_at hl 1 rfl) ?_
            refine lv_iadd hx hb dX6_put_66 ?_
            refine lv_bipush (v := (80 : Int32)) hx hb dX6_put_67 rfl ?_
            refine lv_icmp_le (tgt := 75) hx hb dX6_put_69 (by decide) (fun c_69 => ?_) (fun c_69 => ?_)
            · have h := if_t h c_69
              refine lv_iload_n hx hb dX6_put_75 rfl (lv_at hl 1 rfl) ?_
              refine lv_iconst (v := (1 : Int32)) hx hb dX6_put_76 rfl ?_
              refine lv_isub hx hb dX6_put_77 ?_
              refine lv_topi (fun v7_78 e_78 => ?_)
              have h := lt'_e e_78 h
              refine lv_istore (lv' := [(7, .int v7_78), (6, .int v6_L8), (3, .int v3_L8), (0, .ref a0), (1, .long v1)]) hx hb dX6_put_78 hl (by decide) rfl (fun ls hl => ?_)
              have hL80 : ∀ (n80 : Nat) (v7_L80 : Int32) (c_pad_L80 : Nat → Int32) (c_typed_L80 : Int32), lo3 (f_X6_put_L80 v1) n80 v7_L80 c_pad_L80 c_typed_L80 = some (o0, o1, o2) → ∀ (H : Heap) (locs : List Loc), va_P (dC, dI) vwCl (wX6 ck a0 a0_z a0_past a0_slots a0_isSaved a0_pad a0_yes a0_no a0_yesThen a0_noThen a0_yesRound a0_yesRule a0_noRound a0_noRule a0_orders c_z c_past c_slots c_isSaved c_pastMany c_pad_L80 c_typed_L80 c_yes c_no c_yesThen c_noThen c_yesRound c_yesRule c_noRound c_noRule c_rounds c_isMore c_orders c_orderMany c_spot c_bad) H → va_D A (wX6 ck a0 a0_z a0_past a0_slots a0_isSaved a0_pad a0_yes a0_no a0_yesThen a0_noThen a0_yesRound a0_yesRule a0_noRound a0_noRule a0_orders c_z c_past c_slots c_isSaved c_pastMany c_pad_L80 c_typed_L80 c_yes c_no c_yesThen c_noThen c_yesRound c_yesRule c_noRound c_noRule c_rounds c_isMore c_orders c_orderMany c_spot c_bad) → va_S A s.heap H locs → ∀ ls : Array Slot, lv_has ls 8 [(7, .int v7_L80), (0, .ref a0), (1, .long v1)] → W p l e (headSpec wsX6_put ({ frames := 1, cells := 0, slots := 0, locals := 22 })).room s m [.ref a0, .long v1].toArray below meth c H locs 0 0 (MQ below (QI (dC, dI) (wX6 ck a0 a0_z a0_past a0_slots a0_isSaved a0_pad a0_yes a0_no a0_yesThen a0_noThen a0_yesRound a0_yesRule a0_noRound a0_noRule a0_orders c_z c_past c_slots c_isSaved c_pastMany o1 o2 c_yes c_no c_yesThen c_noThen c_yesRound c_yesRule c_noRound c_noRule c_rounds c_isMore c_orders c_orderMany c_spot c_bad) o0 A) [.ref a0, .long v1].toArray s 0 0 A) (F0 m 80 ls []) := by
                intro n80
                induction n80 with
                | zero => intro v7_L80 c_pad_L80 c_typed_L80 h; exact lo3_z h
                | succ n80 ih80 =>
                  intro v7_L80 c_pad_L80 c_typed_L80 h H locs hP hD hS ls hl
                  have h := lo3_s h
                  unfold f_X6_put_L80 at h
                  refine lv_iload hx hb dX6_put_80 (lv_at hl 0 rfl) ?_
                  refine lv_if_lt (tgt := 123) hx hb dX6_put_82 (by decide) (fun c_82 => ?_) (fun c_82 => ?_)
                  · have h := if_t h c_82
                    refine lv_aload_n hx hb dX6_put_123 rfl (lv_at hl 1 rfl) ?_
                    refine va_get (ci := 6) (v := .int c_typed_L80) (C := RX6) (T := TX6) (N := 21) hx hb hts iu_X6 hown hK.1 hP 0 rfl rfl 6 (by decide) (hts (.fieldLink RX6 194 "SheetMarksModel" "typed" "I") (List.mem_of_getElem? (i := 2) rfl)) (fun _ h9 => h9) rfl dX6_put_124 ?_
                    cases h
                    exact eMi hx hb hr hlk hP hD hS rfl dX6_put_127
                  · have h := if_f h c_82
                    refine lv_aload_n hx hb dX6_put_85 rfl (lv_at hl 1 rfl) ?_
                    refine va_get (ci := 6) (v := .ref a0_pad) (C := RX6) (T := TX6) (N := 21) hx hb hts iu_X6 hown hK.1 hP 0 rfl rfl 5 (by decide) (hts (.fieldLink RX6 23 "SheetMarksModel" "pad" "[C") (List.mem_of_getElem? (i := 3) rfl)) (fun _ h9 => h9) rfl dX6_put_86 ?_
                    refine lv_aload_n hx hb dX6_put_89 rfl (lv_at hl 1 rfl) ?_
                    refine va_get (ci := 6) (v := .int c_typed_L80) (C := RX6) (T := TX6) (N := 21) hx hb hts iu_X6 hown hK.1 hP 0 rfl rfl 6 (by decide) (hts (.fieldLink RX6 194 "SheetMarksModel" "typed" "I") (List.mem_of_getElem? (i := 2) rfl)) (fun _ h9 => h9) rfl dX6_put_90 ?_
                    refine lv_lload_n hx hb dX6_put_93 rfl (lv_at hl 2 rfl) ?_
                    refine lv_bipush (v := (8 : Int32)) hx hb dX6_put_94 rfl ?_
                    refine lv_iload hx hb dX6_put_96 (lv_at hl 0 rfl) ?_
                    refine lv_imul hx hb dX6_put_98 ?_
                    refine lv_lushr (v := ((v1.toUInt64 >>> (((8 : Int32) * v7_L80).toInt64.toUInt64 &&& Int64.toUInt64 63)).toInt64)) hx hb dX6_put_99 rfl ?_
                    refine lv_ldc2 hx hb hown (hts (.constantLong RX6 211 (255)) (List.mem_of_getElem? (i := 1) rfl)) dX6_put_100 ?_
                    refine lv_land hx hb dX6_put_103 ?_
                    refine lv_l2i (v := ((((v1.toUInt64 >>> (((8 : Int32) * v7_L80).toInt64.toUInt64 &&& Int64.toUInt64 63)).toInt64) &&& (255 : Int64)).toInt32)) hx hb dX6_put_104 rfl ?_
                    refine lv_i2c (v := ((((((v1.toUInt64 >>> (((8 : Int32) * v7_L80).toInt64.toUInt64 &&& Int64.toUInt64 63)).toInt64) &&& (255 : Int64)).toInt32).toUInt32 % 65536).toInt32)) hx hb dX6_put_105 rfl ?_
                    obtain ⟨g_106, h⟩ := gd_e h
                    refine va_cast hx hb hK.1 hP hD hS 5 2 rfl rfl g_106 dX6_put_106 (fun H locs hP hD hS => ?_)
                    obtain ⟨c_pad_106, e_106⟩ : ∃ y : Nat → Int32, y = (upd c_pad_L80 c_typed_L80.toNatClampNeg (vp_nar .char ((((((v1.toUInt64 >>> (((8 : Int32) * v7_L80).toInt64.toUInt64 &&& Int64.toUInt64 63)).toInt64) &&& (255 : Int64)).toInt32).toUInt32 % 65536).toInt32))) := ⟨_, rfl⟩
                    have h := lt'_e e_106 h
                    have hP : va_P (dC, dI) vwCl (wX6 ck a0 a0_z a0_past a0_slots a0_isSaved a0_pad a0_yes a0_no a0_yesThen a0_noThen a0_yesRound a0_yesRule a0_noRound a0_noRule a0_orders c_z c_past c_slots c_isSaved c_pastMany c_pad_106 c_typed_L80 c_yes c_no c_yesThen c_noThen c_yesRound c_yesRule c_noRound c_noRule c_rounds c_isMore c_orders c_orderMany c_spot c_bad) H := by subst e_106; exact hP
                    have hD : va_D A (wX6 ck a0 a0_z a0_past a0_slots a0_isSaved a0_pad a0_yes a0_no a0_yesThen a0_noThen a0_yesRound a0_yesRule a0_noRound a0_noRule a0_orders c_z c_past c_slots c_isSaved c_pastMany c_pad_106 c_typed_L80 c_yes c_no c_yesThen c_noThen c_yesRound c_yesRule c_noRound c_noRule c_rounds c_isMore c_orders c_orderMany c_spot c_bad) := by subst e_106; exact hD
                    refine lv_aload_n hx hb dX6_put_107 rfl (lv_at hl 1 rfl) ?_
                    refine lv_dup hx hb dX6_put_108 rfl ?_
                    refine va_get (ci := 6) (v := .int c_typed_L80) (C := RX6) (T := TX6) (N := 21) hx hb hts iu_X6 hown hK.1 hP 0 rfl rfl 6 (by decide) (hts (.fieldLink RX6 194 "SheetMarksModel" "typed" "I") (List.mem_of_getElem? (i := 2) rfl)) (fun _ h9 => h9) rfl dX6_put_109 ?_
                    refine lv_iconst (v := (1 : Int32)) hx hb dX6_put_112 rfl ?_
                    refine lv_iadd hx hb dX6_put_113 ?_
                    refine lv_topi (fun c_typed_114 e_114 => ?_)
                    have h := lt'_e e_114 h
                    refine va_put (ci := 6) (v := .int c_typed_114) (ty := .int) (C := RX6) (T := TX6) (N := 21) hx hb hts iu_X6 tyX6 tyX6_ok nmX6 hown hK.1 hP hD hS 0 rfl rfl 6 (by decide) (hts (.fieldLink RX6 194 "SheetMarksModel" "typed" "I") (List.mem_of_getElem? (i := 2) rfl)) (fun _ h9 => h9) rfl (by decide +kernel) rfl rfl (Nat.le_of_ble_eq_true rfl) dX6_put_114 (fun H locs hP hD hS => ?_)
                    have hP : va_P (dC, dI) vwCl (wX6 ck a0 a0_z a0_past a0_slots a0_isSaved a0_pad a0_yes a0_no a0_yesThen a0_noThen a0_yesRound a0_yesRule a0_noRound a0_noRule a0_orders c_z c_past c_slots c_isSaved c_pastMany c_pad_106 c_typed_114 c_yes c_no c_yesThen c_noThen c_yesRound c_yesRule c_noRound c_noRule c_rounds c_isMore c_orders c_orderMany c_spot c_bad) H := hP
                    have hD : va_D A (wX6 ck a0 a0_z a0_past a0_slots a0_isSaved a0_pad a0_yes a0_no a0_yesThen a0_noThen a0_yesRound a0_yesRule a0_noRound a0_noRule a0_orders c_z c_past c_slots c_isSaved c_pastMany c_pad_106 c_typed_114 c_yes c_no c_yesThen c_noThen c_yesRound c_yesRule c_noRound c_noRule c_rounds c_isMore c_orders c_orderMany c_spot c_bad) := hD
                    refine lv_iinc (v := (v7_L80 + (-1 : Int32))) (lv' := [(7, .int (v7_L80 + (-1 : Int32))), (0, .ref a0), (1, .long v1)]) hx hb dX6_put_117 hl (k := 0) rfl rfl (by decide) rfl (fun ls hl => ?_)
                    refine lv_goto (tgt := 80) hx hb dX6_put_120 (by decide) ?_
                    exact ih80 _ _ _ h _ _ hP hD hS _ (lv_sub hl [0, 1, 2] rfl)
              exact hL80 _ _ _ _ h _ _ hP hD hS _ (lv_sub hl [0, 3, 4] rfl)
            · have h := if_f h c_69
              refine lv_bipush (v := (-4 : Int32)) hx hb dX6_put_72 rfl ?_
              cases h
              exact eMi hx hb hr hlk hP hD hS rfl dX6_put_74
          · have h := if_t h c_55
            refine lv_bipush (v := (-2 : Int32)) hx hb dX6_put_58 rfl ?_
            cases h
            exact eMi hx hb hr hlk hP hD hS rfl dX6_put_60
      refine lv_if_eq (tgt := 49) hx hb dX6_put_12 (by decide) (fun c_12 => ?_) (fun c_12 => ?_)
      · have h := if_t h c_12
        exact hJ49 h _ _ hP hD hS _ (lv_sub hl [0, 2, 3, 4] rfl)
      · have h := if_f h c_12
        refine lv_iload hx hb dX6_put_15 (lv_at hl 0 rfl) ?_
        refine lv_if_eq (tgt := 49) hx hb dX6_put_17 (by decide) (fun c_17 => ?_) (fun c_17 => ?_)
        · have h := if_t h c_17
          exact hJ49 h _ _ hP hD hS _ (lv_sub hl [0, 2, 3, 4] rfl)
        · have h := if_f h c_17
          refine lv_lload hx hb dX6_put_20 (lv_at hl 1 rfl) ?_
          refine lv_ldc2 hx hb hown (hts (.constantLong RX6 211 (255)) (List.mem_of_getElem? (i := 1) rfl)) dX6_put_22 ?_
          refine lv_land hx hb dX6_put_25 ?_
          refine lv_l2i (v := ((v4_L8 &&& (255 : Int64)).toInt32)) hx hb dX6_put_26 rfl ?_
          refine lv_bipush (v := (33 : Int32)) hx hb dX6_put_27 rfl ?_
          refine lv_bipush (v := (126 : Int32)) hx hb dX6_put_29 rfl ?_
          obtain ⟨r_31, q_31, h⟩ := ob1_e h
          refine cRS (wc := []) ⟨hx, hb, hml, hown, hts⟩ hK hP [] rfl (c_X6_in l dC dI ck ((v4_L8 &&& (255 : Int64)).toInt32) (33 : Int32) (126 : Int32) r_31 q_31) (va_cwS 3 hts gX6_put_X6_in rfl rfl rfl (by decide +kernel) ⟨Nat.le_of_ble_eq_true rfl, Nat.le_of_ble_eq_true rfl⟩) rfl hl.1 rfl (Nat.le_of_ble_eq_true rfl) dX6_put_31 ⟨Nat.zero_le _, Nat.zero_le _⟩ ?_
          refine lv_istore (lv' := [(6, .int r_31), (4, .long v4_L8), (3, .int v3_L8), (0, .ref a0), (1, .long v1)]) hx hb dX6_put_34 hl (by decide) rfl (fun ls hl => ?_)
          refine lv_lload hx hb dX6_put_36 (lv_at hl 1 rfl) ?_
          refine lv_bipush (v := (8 : Int32)) hx hb dX6_put_38 rfl ?_
          refine lv_lushr (v := ((v4_L8.toUInt64 >>> ((8 : Int32).toInt64.toUInt64 &&& Int64.toUInt64 63)).toInt64)) hx hb dX6_put_40 rfl ?_
          refine lv_topl (fun v4_41 e_41 => ?_)
          have h := lt'_e e_41 h
          refine lv_lstore (lv' := [(4, .long v4_41), (6, .int r_31), (3, .int v3_L8), (0, .ref a0), (1, .long v1)]) hx hb dX6_put_41 hl (by decide) rfl (fun ls hl => ?_)
          refine lv_iinc (v := (v3_L8 + (1 : Int32))) (lv' := [(3, .int (v3_L8 + (1 : Int32))), (4, .long v4_41), (6, .int r_31), (0, .ref a0), (1, .long v1)]) hx hb dX6_put_43 hl (k := 2) rfl rfl (by decide) rfl (fun ls hl => ?_)
          refine lv_goto (tgt := 8) hx hb dX6_put_46 (by decide) ?_
          exact ih8 _ _ _ h _ _ hP hD hS _ (lv_sub hl [2, 1, 0, 3, 4] rfl)
  exact hL8 _ _ _ _ h _ _ hP hD hS _ (lv_sub hl [0, 1, 2, 3, 4] rfl)
noncomputable def f_X6_wipe (c_typed : Int32) : Option (Int32 × Int32) :=
  some (c_typed, (0 : Int32))
set_option maxHeartbeats 4000000 in
set_option maxRecDepth 100000 in
theorem c_X6_wipe (l : Launch) (dC : Nat → ClassId) (dI : Nat → Nat → Nat) (ck : Nat → ClassId) (a0 a0_z a0_past a0_slots a0_isSaved a0_pad a0_yes a0_no a0_yesThen a0_noThen a0_yesRound a0_yesRule a0_noRound a0_noRule a0_orders : Nat) (c_z : Nat → Int32) (c_past : Nat → Int32) (c_slots : Nat → Int32) (c_isSaved : Nat → Int32) (c_pastMany : Int32) (c_pad : Nat → Int32) (c_typed : Int32) (c_yes : Nat → Int32) (c_no : Nat → Int32) (c_yesThen : Nat → Int32) (c_noThen : Nat → Int32) (c_yesRound : Nat → Int32) (c_yesRule : Nat → Int32) (c_noRound : Nat → Int32) (c_noRule : Nat → Int32) (c_rounds : Int32) (c_isMore : Int32) (c_orders : Nat → Int32) (c_orderMany : Int32) (c_spot : Int32) (c_bad : Int32) (o0 : Int32) (o1 : Int32) (h : f_X6_wipe c_typed = some (o0, o1)) : MI l yX6_wipe wsX6_wipe ({ frames := 0, cells := 0, slots := 0, locals := 0 }) [.ref a0] (dC, dI) ck (wX6 ck a0 a0_z a0_past a0_slots a0_isSaved a0_pad a0_yes a0_no a0_yesThen a0_noThen a0_yesRound a0_yesRule a0_noRound a0_noRule a0_orders c_z c_past c_slots c_isSaved c_pastMany c_pad c_typed c_yes c_no c_yesThen c_noThen c_yesRound c_yesRule c_noRound c_noRule c_rounds c_isMore c_orders c_orderMany c_spot c_bad) (wX6 ck a0 a0_z a0_past a0_slots a0_isSaved a0_pad a0_yes a0_no a0_yesThen a0_noThen a0_yesRound a0_yesRule a0_noRound a0_noRule a0_orders c_z c_past c_slots c_isSaved c_pastMany c_pad o1 c_yes c_no c_yesThen c_noThen c_yesRound c_yesRule c_noRound c_noRule c_rounds c_isMore c_orders c_orderMany c_spot c_bad) o0 := by
  refine MI.ofW (cc := cX6_wipe) (maxL := 2) (ret := (some .int)) (by decide +kernel) rfl (Nat.le_of_ble_eq_true rfl) ?_
  intro p e s m below meth c hx hb hr hml hts hown hlk hK hP A hA hD ls hl
  have hS : va_S A s.heap s.heap [] := va_S.rf
  have hown : s.vm.findClass RX6 = some m.cls := hown
  have hl : lv_has ls 2 [(0, .ref a0)] := hl
  have iu_X6 : ∀ w ∈ u_ws RX6 TX6 21, w ∈ wsX6_wipe := fun w h => List.mem_cons_of_mem _ (List.mem_append_right _ h)
  unfold f_X6_wipe at h
  refine lv_aload_n hx hb dX6_wipe_0 rfl (lv_at hl 0 rfl) ?_
  refine va_get (ci := 6) (v := .int c_typed) (C := RX6) (T := TX6) (N := 21) hx hb hts iu_X6 hown hK.1 hP 0 rfl rfl 6 (by decide) (hts (.fieldLink RX6 194 "SheetMarksModel" "typed" "I") (List.mem_of_getElem? (i := 1) rfl)) (fun _ h9 => h9) rfl dX6_wipe_1 ?_
  refine lv_istore_n (lv' := [(1, .int c_typed), (0, .ref a0)]) hx hb dX6_wipe_4 rfl hl (by decide) rfl (fun ls hl => ?_)
  refine lv_aload_n hx hb dX6_wipe_5 rfl (lv_at hl 1 rfl) ?_
  refine lv_iconst (v := (0 : Int32)) hx hb dX6_wipe_6 rfl ?_
  refine va_put (ci := 6) (v := .int (0 : Int32)) (ty := .int) (C := RX6) (T := TX6) (N := 21) hx hb hts iu_X6 tyX6 tyX6_ok nmX6 hown hK.1 hP hD hS 0 rfl rfl 6 (by decide) (hts (.fieldLink RX6 194 "SheetMarksModel" "typed" "I") (List.mem_of_getElem? (i := 1) rfl)) (fun _ h9 => h9) rfl (by decide +kernel) rfl rfl (Nat.le_of_ble_eq_true rfl) dX6_wipe_7 (fun H locs hP hD hS => ?_)
  have hP : va_P (dC, dI) vwCl (wX6 ck a0 a0_z a0_past a0_slots a0_isSaved a0_pad a0_yes a0_no a0_yesThen a0_noThen a0_yesRound a0_yesRule a0_noRound a0_noRule a0_orders c_z c_past c_slots c_isSaved c_pastMany c_pad (0 : Int32) c_yes c_no c_yesThen c_noThen c_yesRound c_yesRule c_noRound c_noRule c_rounds c_isMore c_orders c_orderMany c_spot c_bad) H := hP
  have hD : va_D A (wX6 ck a0 a0_z a0_past a0_slots a0_isSaved a0_pad a0_yes a0_no a0_yesThen a0_noThen a0_yesRound a0_yesRule a0_noRound a0_noRule a0_orders c_z c_past c_slots c_isSaved c_pastMany c_pad (0 : Int32) c_yes c_no c_yesThen c_noThen c_yesRound c_yesRule c_noRound c_noRule c_rounds c_isMore c_orders c_orderMany c_spot c_bad) := hD
  refine lv_iload_n hx hb dX6_wipe_10 rfl (lv_at hl 0 rfl) ?_
  cases h
  exact eMi hx hb hr hlk hP hD hS rfl dX6_wipe_11
noncomputable def f_X6_letter (c_pad : Nat → Int32) (c_typed : Int32) (c_spot : Int32) : Option (Int32) :=
  if c_typed ≤ c_spot then (some (-6 : Int32)) else (gd c_spot 80 (some (c_pad c_spot.toNatClampNeg)))
set_option maxHeartbeats 4000000 in
set_option maxRecDepth 100000 in
theorem c_X6_letter (l : Launch) (dC : Nat → ClassId) (dI : Nat → Nat → Nat) (ck : Nat → ClassId) (a0 a0_z a0_past a0_slots a0_isSaved a0_pad a0_yes a0_no a0_yesThen a0_noThen a0_yesRound a0_yesRule a0_noRound a0_noRule a0_orders : Nat) (c_z : Nat → Int32) (c_past : Nat → Int32) (c_slots : Nat → Int32) (c_isSaved : Nat → Int32) (c_pastMany : Int32) (c_pad : Nat → Int32) (c_typed : Int32) (c_yes : Nat → Int32) (c_no : Nat → Int32) (c_yesThen : Nat → Int32) (c_noThen : Nat → Int32) (c_yesRound : Nat → Int32) (c_yesRule : Nat → Int32) (c_noRound : Nat → Int32) (c_noRule : Nat → Int32) (c_rounds : Int32) (c_isMore : Int32) (c_orders : Nat → Int32) (c_orderMany : Int32) (c_spot : Int32) (c_bad : Int32) (o0 : Int32) (h : f_X6_letter c_pad c_typed c_spot = some o0) : RD l yX6_letter wsX6_letter ({ frames := 0, cells := 0, slots := 0, locals := 0 }) [.ref a0] (dC, dI) ck (wX6 ck a0 a0_z a0_past a0_slots a0_isSaved a0_pad a0_yes a0_no a0_yesThen a0_noThen a0_yesRound a0_yesRule a0_noRound a0_noRule a0_orders c_z c_past c_slots c_isSaved c_pastMany c_pad c_typed c_yes c_no c_yesThen c_noThen c_yesRound c_yesRule c_noRound c_noRule c_rounds c_isMore c_orders c_orderMany c_spot c_bad) o0 := by
  refine RD.ofW (cc := cX6_letter) (maxL := 1) (ret := (some .int)) (by decide +kernel) rfl (Nat.le_of_ble_eq_true rfl) ?_
  intro p e s m below meth c hx hb hr hml hts hown hlk hK hP ls hl
  have hown : s.vm.findClass RX6 = some m.cls := hown
  have hl : lv_has ls 1 [(0, .ref a0)] := hl
  have iu_X6 : ∀ w ∈ u_ws RX6 TX6 21, w ∈ wsX6_letter := fun w h => List.mem_cons_of_mem _ (List.mem_append_right _ h)
  unfold f_X6_letter at h
  refine lv_aload_n hx hb dX6_letter_0 rfl (lv_at hl 0 rfl) ?_
  refine va_get (ci := 6) (v := .int c_spot) (C := RX6) (T := TX6) (N := 21) hx hb hts iu_X6 hown hK.1 hP 0 rfl rfl 19 (by decide) (hts (.fieldLink RX6 213 "SheetMarksModel" "spot" "I") (List.mem_of_getElem? (i := 1) rfl)) (fun _ h9 => h9) rfl dX6_letter_1 ?_
  refine lv_aload_n hx hb dX6_letter_4 rfl (lv_at hl 0 rfl) ?_
  refine va_get (ci := 6) (v := .int c_typed) (C := RX6) (T := TX6) (N := 21) hx hb hts iu_X6 hown hK.1 hP 0 rfl rfl 6 (by decide) (hts (.fieldLink RX6 194 "SheetMarksModel" "typed" "I") (List.mem_of_getElem? (i := 2) rfl)) (fun _ h9 => h9) rfl dX6_letter_5 ?_
  refine lv_icmp_ge (tgt := 23) hx hb dX6_letter_8 (by decide) (fun c_8 => ?_) (fun c_8 => ?_)
  · have h := if_t h c_8
    refine lv_bipush (v := (-6 : Int32)) hx hb dX6_letter_23 rfl ?_
    cases h
    exact eRi hx hb hr hlk rfl dX6_letter_25
  · have h := if_f h c_8
    refine lv_aload_n hx hb dX6_letter_11 rfl (lv_at hl 0 rfl) ?_
    refine va_get (ci := 6) (v := .ref a0_pad) (C := RX6) (T := TX6) (N := 21) hx hb hts iu_X6 hown hK.1 hP 0 rfl rfl 5 (by decide) (hts (.fieldLink RX6 23 "SheetMarksModel" "pad" "[C") (List.mem_of_getElem? (i := 3) rfl)) (fun _ h9 => h9) rfl dX6_letter_12 ?_
    refine lv_aload_n hx hb dX6_letter_15 rfl (lv_at hl 0 rfl) ?_
    refine va_get (ci := 6) (v := .int c_spot) (C := RX6) (T := TX6) (N := 21) hx hb hts iu_X6 hown hK.1 hP 0 rfl rfl 19 (by decide) (hts (.fieldLink RX6 213 "SheetMarksModel" "spot" "I") (List.mem_of_getElem? (i := 1) rfl)) (fun _ h9 => h9) rfl dX6_letter_16 ?_
    obtain ⟨g_19, h⟩ := gd_e h
    refine va_cald hx hb hK.1 hP 5 2 rfl rfl g_19 dX6_letter_19 ?_
    refine lv_goto (tgt := 25) hx hb dX6_letter_20 (by decide) ?_
    cases h
    exact eRi hx hb hr hlk rfl dX6_letter_25
noncomputable def f_X6_wants (c_spot : Int32) (c_bad : Int32) (v1 : Int32) : Option (Int32 × Int32) :=
  if c_bad = (-6 : Int32) then (if v1 = (0 : Int32) then (lt' (c_spot + (1 : Int32)) (fun c_spot_33 : Int32 => some (c_spot_33, c_spot))) else (lt' (c_spot + (1 : Int32)) (fun c_spot_33 : Int32 => some (c_spot_33, (-6 : Int32))))) else (some (c_spot, c_bad))
set_option maxHeartbeats 4000000 in
set_option maxRecDepth 100000 in
theorem c_X6_wants (l : Launch) (dC : Nat → ClassId) (dI : Nat → Nat → Nat) (ck : Nat → ClassId) (a0 a0_z a0_past a0_slots a0_isSaved a0_pad a0_yes a0_no a0_yesThen a0_noThen a0_yesRound a0_yesRule a0_noRound a0_noRule a0_orders : Nat) (c_z : Nat → Int32) (c_past : Nat → Int32) (c_slots : Nat → Int32) (c_isSaved : Nat → Int32) (c_pastMany : Int32) (c_pad : Nat → Int32) (c_typed : Int32) (c_yes : Nat → Int32) (c_no : Nat → Int32) (c_yesThen : Nat → Int32) (c_noThen : Nat → Int32) (c_yesRound : Nat → Int32) (c_yesRule : Nat → Int32) (c_noRound : Nat → Int32) (c_noRule : Nat → Int32) (c_rounds : Int32) (c_isMore : Int32) (c_orders : Nat → Int32) (c_orderMany : Int32) (c_spot : Int32) (c_bad : Int32) (v1 : Int32) (o0 : Int32) (o1 : Int32) (h : f_X6_wants c_spot c_bad v1 = some (o0, o1)) : MV l yX6_wants wsX6_wants ({ frames := 0, cells := 0, slots := 0, locals := 0 }) [.ref a0, .int v1] (dC, dI) ck (wX6 ck a0 a0_z a0_past a0_slots a0_isSaved a0_pad a0_yes a0_no a0_yesThen a0_noThen a0_yesRound a0_yesRule a0_noRound a0_noRule a0_orders c_z c_past c_slots c_isSaved c_pastMany c_pad c_typed c_yes c_no c_yesThen c_noThen c_yesRound c_yesRule c_noRound c_noRule c_rounds c_isMore c_orders c_orderMany c_spot c_bad) (wX6 ck a0 a0_z a0_past a0_slots a0_isSaved a0_pad a0_yes a0_no a0_yesThen a0_noThen a0_yesRound a0_yesRule a0_noRound a0_noRule a0_orders c_z c_past c_slots c_isSaved c_pastMany c_pad c_typed c_yes c_no c_yesThen c_noThen c_yesRound c_yesRule c_noRound c_noRule c_rounds c_isMore c_orders c_orderMany o0 o1) := by
  refine MV.ofW (cc := cX6_wants) (maxL := 2) (ret := none) (by decide +kernel) rfl (Nat.le_of_ble_eq_true rfl) ?_
  intro p e s m below meth c hx hb hr hml hts hown hlk hK hP A hA hD ls hl
  have hS : va_S A s.heap s.heap [] := va_S.rf
  have hown : s.vm.findClass RX6 = some m.cls := hown
  have hl : lv_has ls 2 [(0, .ref a0), (1, .int v1)] := hl
  have iu_X6 : ∀ w ∈ u_ws RX6 TX6 21, w ∈ wsX6_wants := fun w h => List.mem_cons_of_mem _ (List.mem_append_right _ h)
  unfold f_X6_wants at h
  refine lv_aload_n hx hb dX6_wants_0 rfl (lv_at hl 0 rfl) ?_
  refine va_get (ci := 6) (v := .int c_bad) (C := RX6) (T := TX6) (N := 21) hx hb hts iu_X6 hown hK.1 hP 0 rfl rfl 20 (by decide) (hts (.fieldLink RX6 216 "SheetMarksModel" "bad" "I") (List.mem_of_getElem? (i := 1) rfl)) (fun _ h9 => h9) rfl dX6_wants_1 ?_
  refine lv_bipush (v := (-6 : Int32)) hx hb dX6_wants_4 rfl ?_
  refine lv_icmp_ne (tgt := 36) hx hb dX6_wants_6 (by decide) (fun c_6 => ?_) (fun c_6 => ?_)
  · have h := if_f h c_6
    cases h
    exact eMv hx hb hr hlk hP hD hS dX6_wants_36
  · have h := if_t h c_6
    refine lv_aload_n hx hb dX6_wants_9 rfl (lv_at hl 0 rfl) ?_
    refine lv_iload_n hx hb dX6_wants_10 rfl (lv_at hl 1 rfl) ?_
    refine lv_if_eq (tgt := 19) hx hb dX6_wants_11 (by decide) (fun c_11 => ?_) (fun c_11 => ?_)
    · have h := if_t h c_11
      refine lv_aload_n hx hb dX6_wants_19 rfl (lv_at hl 0 rfl) ?_
      refine va_get (ci := 6) (v := .int c_spot) (C := RX6) (T := TX6) (N := 21) hx hb hts iu_X6 hown hK.1 hP 0 rfl rfl 19 (by decide) (hts (.fieldLink RX6 213 "SheetMarksModel" "spot" "I") (List.mem_of_getElem? (i := 2) rfl)) (fun _ h9 => h9) rfl dX6_wants_20 ?_
      refine va_put (ci := 6) (v := .int c_spot) (ty := .int) (C := RX6) (T := TX6) (N := 21) hx hb hts iu_X6 tyX6 tyX6_ok nmX6 hown hK.1 hP hD hS 0 rfl rfl 20 (by decide) (hts (.fieldLink RX6 216 "SheetMarksModel" "bad" "I") (List.mem_of_getElem? (i := 1) rfl)) (fun _ h9 => h9) rfl (by decide +kernel) rfl rfl (Nat.le_of_ble_eq_true rfl) dX6_wants_23 (fun H locs hP hD hS => ?_)
      have hP : va_P (dC, dI) vwCl (wX6 ck a0 a0_z a0_past a0_slots a0_isSaved a0_pad a0_yes a0_no a0_yesThen a0_noThen a0_yesRound a0_yesRule a0_noRound a0_noRule a0_orders c_z c_past c_slots c_isSaved c_pastMany c_pad c_typed c_yes c_no c_yesThen c_noThen c_yesRound c_yesRule c_noRound c_noRule c_rounds c_isMore c_orders c_orderMany c_spot c_spot) H := hP
      have hD : va_D A (wX6 ck a0 a0_z a0_past a0_slots a0_isSaved a0_pad a0_yes a0_no a0_yesThen a0_noThen a0_yesRound a0_yesRule a0_noRound a0_noRule a0_orders c_z c_past c_slots c_isSaved c_pastMany c_pad c_typed c_yes c_no c_yesThen c_noThen c_yesRound c_yesRule c_noRound c_noRule c_rounds c_isMore c_orders c_orderMany c_spot c_spot) := hD
      refine lv_aload_n hx hb dX6_wants_26 rfl (lv_at hl 0 rfl) ?_
      refine lv_dup hx hb dX6_wants_27 rfl ?_
      refine va_get (ci := 6) (v := .int c_spot) (C := RX6) (T := TX6) (N := 21) hx hb hts iu_X6 hown hK.1 hP 0 rfl rfl 19 (by decide) (hts (.fieldLink RX6 213 "SheetMarksModel" "spot" "I") (List.mem_of_getElem? (i := 2) rfl)) (fun _ h9 => h9) rfl dX6_wants_28 ?_
      refine lv_iconst (v := (1 : Int32)) hx hb dX6_wants_31 rfl ?_
      refine lv_iadd hx hb dX6_wants_32 ?_
      refine lv_topi (fun c_spot_33 e_33 => ?_)
      have h := lt'_e e_33 h
      refine va_put (ci := 6) (v := .int c_spot_33) (ty := .int) (C := RX6) (T := TX6) (N := 21) hx hb hts iu_X6 tyX6 tyX6_ok nmX6 hown hK.1 hP hD hS 0 rfl rfl 19 (by decide) (hts (.fieldLink RX6 213 "SheetMarksModel" "spot" "I") (List.mem_of_getElem? (i := 2) rfl)) (fun _ h9 => h9) rfl (by decide +kernel) rfl rfl (Nat.le_of_ble_eq_true rfl) dX6_wants_33 (fun H locs hP hD hS => ?_)
      have hP : va_P (dC, dI) vwCl (wX6 ck a0 a0_z a0_past a0_slots a0_isSaved a0_pad a0_yes a0_no a0_yesThen a0_noThen a0_yesRound a0_yesRule a0_noRound a0_noRule a0_orders c_z c_past c_slots c_isSaved c_pastMany c_pad c_typed c_yes c_no c_yesThen c_noThen c_yesRound c_yesRule c_noRound c_noRule c_rounds c_isMore c_orders c_orderMany c_spot_33 c_spot) H := hP
      have hD : va_D A (wX6 ck a0 a0_z a0_past a0_slots a0_isSaved a0_pad a0_yes a0_no a0_yesThen a0_noThen a0_yesRound a0_yesRule a0_noRound a0_noRule a0_orders c_z c_past c_slots c_isSaved c_pastMany c_pad c_typed c_yes c_no c_yesThen c_noThen c_yesRound c_yesRule c_noRound c_noRule c_rounds c_isMore c_orders c_orderMany c_spot_33 c_spot) := hD
      cases h
      exact eMv hx hb hr hlk hP hD hS dX6_wants_36
    · have h := if_f h c_11
      refine lv_bipush (v := (-6 : Int32)) hx hb dX6_wants_14 rfl ?_
      refine lv_goto (tgt := 23) hx hb dX6_wants_16 (by decide) ?_
      refine va_put (ci := 6) (v := .int (-6 : Int32)) (ty := .int) (C := RX6) (T := TX6) (N := 21) hx hb hts iu_X6 tyX6 tyX6_ok nmX6 hown hK.1 hP hD hS 0 rfl rfl 20 (by decide) (hts (.fieldLink RX6 216 "SheetMarksModel" "bad" "I") (List.mem_of_getElem? (i := 1) rfl)) (fun _ h9 => h9) rfl (by decide +kernel) rfl rfl (Nat.le_of_ble_eq_true rfl) dX6_wants_23 (fun H locs hP hD hS => ?_)
      have hP : va_P (dC, dI) vwCl (wX6 ck a0 a0_z a0_past a0_slots a0_isSaved a0_pad a0_yes a0_no a0_yesThen a0_noThen a0_yesRound a0_yesRule a0_noRound a0_noRule a0_orders c_z c_past c_slots c_isSaved c_pastMany c_pad c_typed c_yes c_no c_yesThen c_noThen c_yesRound c_yesRule c_noRound c_noRule c_rounds c_isMore c_orders c_orderMany c_spot (-6 : Int32)) H := hP
      have hD : va_D A (wX6 ck a0 a0_z a0_past a0_slots a0_isSaved a0_pad a0_yes a0_no a0_yesThen a0_noThen a0_yesRound a0_yesRule a0_noRound a0_noRule a0_orders c_z c_past c_slots c_isSaved c_pastMany c_pad c_typed c_yes c_no c_yesThen c_noThen c_yesRound c_yesRule c_noRound c_noRule c_rounds c_isMore c_orders c_orderMany c_spot (-6 : Int32)) := hD
      refine lv_aload_n hx hb dX6_wants_26 rfl (lv_at hl 0 rfl) ?_
      refine lv_dup hx hb dX6_wants_27 rfl ?_
      refine va_get (ci := 6) (v := .int c_spot) (C := RX6) (T := TX6) (N := 21) hx hb hts iu_X6 hown hK.1 hP 0 rfl rfl 19 (by decide) (hts (.fieldLink RX6 213 "SheetMarksModel" "spot" "I") (List.mem_of_getElem? (i := 2) rfl)) (fun _ h9 => h9) rfl dX6_wants_28 ?_
      refine lv_iconst (v := (1 : Int32)) hx hb dX6_wants_31 rfl ?_
      refine lv_iadd hx hb dX6_wants_32 ?_
      refine lv_topi (fun c_spot_33 e_33 => ?_)
      have h := lt'_e e_33 h
      refine va_put (ci := 6) (v := .int c_spot_33) (ty := .int) (C := RX6) (T := TX6) (N := 21) hx hb hts iu_X6 tyX6 tyX6_ok nmX6 hown hK.1 hP hD hS 0 rfl rfl 19 (by decide) (hts (.fieldLink RX6 213 "SheetMarksModel" "spot" "I") (List.mem_of_getElem? (i := 2) rfl)) (fun _ h9 => h9) rfl (by decide +kernel) rfl rfl (Nat.le_of_ble_eq_true rfl) dX6_wants_33 (fun H locs hP hD hS => ?_)
      have hP : va_P (dC, dI) vwCl (wX6 ck a0 a0_z a0_past a0_slots a0_isSaved a0_pad a0_yes a0_no a0_yesThen a0_noThen a0_yesRound a0_yesRule a0_noRound a0_noRule a0_orders c_z c_past c_slots c_isSaved c_pastMany c_pad c_typed c_yes c_no c_yesThen c_noThen c_yesRound c_yesRule c_noRound c_noRule c_rounds c_isMore c_orders c_orderMany c_spot_33 (-6 : Int32)) H := hP
      have hD : va_D A (wX6 ck a0 a0_z a0_past a0_slots a0_isSaved a0_pad a0_yes a0_no a0_yesThen a0_noThen a0_yesRound a0_yesRule a0_noRound a0_noRule a0_orders c_z c_past c_slots c_isSaved c_pastMany c_pad c_typed c_yes c_no c_yesThen c_noThen c_yesRound c_yesRule c_noRound c_noRule c_rounds c_isMore c_orders c_orderMany c_spot_33 (-6 : Int32)) := hD
      cases h
      exact eMv hx hb hr hlk hP hD hS dX6_wants_36
noncomputable def f_X6_digit (c_pad : Nat → Int32) (c_typed : Int32) (c_spot : Int32) (c_bad : Int32) (v1 : Int32) : Option (Int32 × Int32 × Int32) :=
  ob1 (f_X6_letter c_pad c_typed c_spot) (fun (r_1 : Int32) => lt' (r_1 - (48 : Int32)) (fun v2_7 : Int32 => ob1 (f_X6_in v2_7 (0 : Int32) v1) (fun (r_12 : Int32) => ob2 (f_X6_wants c_spot c_bad r_12) (fun (c_spot_15 : Int32) (c_bad_15 : Int32) => some (v2_7, c_spot_15, c_bad_15)))))
set_option maxHeartbeats 4000000 in
set_option maxRecDepth 100000 in
theorem c_X6_digit (l : Launch) (dC : Nat → ClassId) (dI : Nat → Nat → Nat) (ck : Nat → ClassId) (a0 a0_z a0_past a0_slots a0_isSaved a0_pad a0_yes a0_no a0_yesThen a0_noThen a0_yesRound a0_yesRule a0_noRound a0_noRule a0_orders : Nat) (c_z : Nat → Int32) (c_past : Nat → Int32) (c_slots : Nat → Int32) (c_isSaved : Nat → Int32) (c_pastMany : Int32) (c_pad : Nat → Int32) (c_typed : Int32) (c_yes : Nat → Int32) (c_no : Nat → Int32) (c_yesThen : Nat → Int32) (c_noThen : Nat → Int32) (c_yesRound : Nat → Int32) (c_yesRule : Nat → Int32) (c_noRound : Nat → Int32) (c_noRule : Nat → Int32) (c_rounds : Int32) (c_isMore : Int32) (c_orders : Nat → Int32) (c_orderMany : Int32) (c_spot : Int32) (c_bad : Int32) (v1 : Int32) (o0 : Int32) (o1 : Int32) (o2 : Int32) (h : f_X6_digit c_pad c_typed c_spot c_bad v1 = some (o0, o1, o2)) : MI l yX6_digit wsX6_digit ({ frames := 1, cells := 0, slots := 0, locals := 22 }) [.ref a0, .int v1] (dC, dI) ck (wX6 ck a0 a0_z a0_past a0_slots a0_isSaved a0_pad a0_yes a0_no a0_yesThen a0_noThen a0_yesRound a0_yesRule a0_noRound a0_noRule a0_orders c_z c_past c_slots c_isSaved c_pastMany c_pad c_typed c_yes c_no c_yesThen c_noThen c_yesRound c_yesRule c_noRound c_noRule c_rounds c_isMore c_orders c_orderMany c_spot c_bad) (wX6 ck a0 a0_z a0_past a0_slots a0_isSaved a0_pad a0_yes a0_no a0_yesThen a0_noThen a0_yesRound a0_yesRule a0_noRound a0_noRule a0_orders c_z c_past c_slots c_isSaved c_pastMany c_pad c_typed c_yes c_no c_yesThen c_noThen c_yesRound c_yesRule c_noRound c_noRule c_rounds c_isMore c_orders c_orderMany o1 o2) o0 := by
  refine MI.ofW (cc := cX6_digit) (maxL := 3) (ret := (some .int)) (by decide +kernel) rfl (Nat.le_of_ble_eq_true rfl) ?_
  intro p e s m below meth c hx hb hr hml hts hown hlk hK hP A hA hD ls hl
  have hS : va_S A s.heap s.heap [] := va_S.rf
  have hown : s.vm.findClass RX6 = some m.cls := hown
  have hl : lv_has ls 3 [(0, .ref a0), (1, .int v1)] := hl
  unfold f_X6_digit at h
  refine lv_aload_n hx hb dX6_digit_0 rfl (lv_at hl 0 rfl) ?_
  obtain ⟨r_1, q_1, h⟩ := ob1_e h
  refine cRV (wc := wX6 ck a0 a0_z a0_past a0_slots a0_isSaved a0_pad a0_yes a0_no a0_yesThen a0_noThen a0_yesRound a0_yesRule a0_noRound a0_noRule a0_orders c_z c_past c_slots c_isSaved c_pastMany c_pad c_typed c_yes c_no c_yesThen c_noThen c_yesRound c_yesRule c_noRound c_noRule c_rounds c_isMore c_orders c_orderMany c_spot c_bad) ⟨hx, hb, hml, hown, hts⟩ hK hP [0, 1, 2, 3, 4, 5, 6, 7, 8, 9, 10, 11, 12, 13, 14] rfl (c_X6_letter l dC dI ck a0 a0_z a0_past a0_slots a0_isSaved a0_pad a0_yes a0_no a0_yesThen a0_noThen a0_yesRound a0_yesRule a0_noRound a0_noRule a0_orders c_z c_past c_slots c_isSaved c_pastMany c_pad c_typed c_yes c_no c_yesThen c_noThen c_yesRound c_yesRule c_noRound c_noRule c_rounds c_isMore c_orders c_orderMany c_spot c_bad r_1 q_1) (cwV 0 hts gX6_digit_X6_letter rfl rfl rfl (by decide +kernel) ⟨Nat.le_of_ble_eq_true rfl, Nat.le_of_ble_eq_true rfl⟩) 0 rfl rfl rfl hl.1 rfl (Nat.le_of_ble_eq_true rfl) dX6_digit_1 ⟨Nat.zero_le _, Nat.zero_le _⟩ ?_
  refine lv_bipush (v := (48 : Int32)) hx hb dX6_digit_4 rfl ?_
  refine lv_isub hx hb dX6_digit_6 ?_
  refine lv_topi (fun v2_7 e_7 => ?_)
  have h := lt'_e e_7 h
  refine lv_istore_n (lv' := [(2, .int v2_7), (0, .ref a0), (1, .int v1)]) hx hb dX6_digit_7 rfl hl (by decide) rfl (fun ls hl => ?_)
  refine lv_aload_n hx hb dX6_digit_8 rfl (lv_at hl 1 rfl) ?_
  refine lv_iload_n hx hb dX6_digit_9 rfl (lv_at hl 0 rfl) ?_
  refine lv_iconst (v := (0 : Int32)) hx hb dX6_digit_10 rfl ?_
  refine lv_iload_n hx hb dX6_digit_11 rfl (lv_at hl 2 rfl) ?_
  obtain ⟨r_12, q_12, h⟩ := ob1_e h
  refine cRS (wc := []) ⟨hx, hb, hml, hown, hts⟩ hK hP [] rfl (c_X6_in l dC dI ck v2_7 (0 : Int32) v1 r_12 q_12) (va_cwS 3 hts gX6_digit_X6_in rfl rfl rfl (by decide +kernel) ⟨Nat.le_of_ble_eq_true rfl, Nat.le_of_ble_eq_true rfl⟩) rfl hl.1 rfl (Nat.le_of_ble_eq_true rfl) dX6_digit_12 ⟨Nat.zero_le _, Nat.zero_le _⟩ ?_
  obtain ⟨c_spot_15, c_bad_15, q_15, h⟩ := ob2_e h
  refine cMV (wc := wX6 ck a0 a0_z a0_past a0_slots a0_isSaved a0_pad a0_yes a0_no a0_yesThen a0_noThen a0_yesRound a0_yesRule a0_noRound a0_noRule a0_orders c_z c_past c_slots c_isSaved c_pastMany c_pad c_typed c_yes c_no c_yesThen c_noThen c_yesRound c_yesRule c_noRound c_noRule c_rounds c_isMore c_orders c_orderMany c_spot c_bad) (wr := []) (w1 := wX6 ck a0 a0_z a0_past a0_slots a0_isSaved a0_pad a0_yes a0_no a0_yesThen a0_noThen a0_yesRound a0_yesRule a0_noRound a0_noRule a0_orders c_z c_past c_slots c_isSaved c_pastMany c_pad c_typed c_yes c_no c_yesThen c_noThen c_yesRound c_yesRule c_noRound c_noRule c_rounds c_isMore c_orders c_orderMany c_spot_15 c_bad_15) (wn := wX6 ck a0 a0_z a0_past a0_slots a0_isSaved a0_pad a0_yes a0_no a0_yesThen a0_noThen a0_yesRound a0_yesRule a0_noRound a0_noRule a0_orders c_z c_past c_slots c_isSaved c_pastMany c_pad c_typed c_yes c_no c_yesThen c_noThen c_yesRound c_yesRule c_noRound c_noRule c_rounds c_isMore c_orders c_orderMany c_spot_15 c_bad_15) ⟨hx, hb, hml, hown, hts⟩ hK hP hD hS hA [0, 1, 2, 3, 4, 5, 6, 7, 8, 9, 10, 11, 12, 13, 14] [] [0, 1, 2, 3, 4, 5, 6, 7, 8, 9, 10, 11, 12, 13, 14] rfl (by decide) rfl (by decide) (by decide) rfl (by decide) (c_X6_wants l dC dI ck a0 a0_z a0_past a0_slots a0_isSaved a0_pad a0_yes a0_no a0_yesThen a0_noThen a0_yesRound a0_yesRule a0_noRound a0_noRule a0_orders c_z c_past c_slots c_isSaved c_pastMany c_pad c_typed c_yes c_no c_yesThen c_noThen c_yesRound c_yesRule c_noRound c_noRule c_rounds c_isMore c_orders c_orderMany c_spot c_bad r_12 c_spot_15 c_bad_15 q_15) (cwV 1 hts gX6_digit_X6_wants rfl rfl rfl (by decide +kernel) ⟨Nat.le_of_ble_eq_true rfl, Nat.le_of_ble_eq_true rfl⟩) 0 rfl rfl rfl hl.1 rfl (Nat.le_of_ble_eq_true rfl) dX6_digit_15 ⟨Nat.zero_le _, Nat.zero_le _⟩ (fun H locs hP hD hS => ?_)
  refine lv_iload_n hx hb dX6_digit_18 rfl (lv_at hl 0 rfl) ?_
  cases h
  exact eMi hx hb hr hlk hP hD hS rfl dX6_digit_19
noncomputable def f_X6_readThree_L2 (c_pad : Nat → Int32) (c_typed : Int32) (v1 : Int32) (rec2 : Int32 → (Nat → Int32) → Int32 → Int32 → Option ((Nat → Int32) × Int32 × Int32)) (v2_L2 : Int32) (c_orders_L2 : Nat → Int32) (c_spot_L2 : Int32) (c_bad_L2 : Int32) : Option ((Nat → Int32) × Int32 × Int32) :=
  if (4 : Int32) < v2_L2 then (some (c_orders_L2, c_spot_L2, c_bad_L2)) else (ob3 (f_X6_digit c_pad c_typed c_spot_L2 c_bad_L2 (5 : Int32)) (fun (r_16 : Int32) (c_spot_16 : Int32) (c_bad_16 : Int32) => gd (v1 + v2_L2) 160 (lt' (upd c_orders_L2 (v1 + v2_L2).toNatClampNeg r_16) (fun c_orders_19 : Nat → Int32 => rec2 (v2_L2 + (1 : Int32)) c_orders_19 c_spot_16 c_bad_16))))
noncomputable def f_X6_readThree (c_pad : Nat → Int32) (c_typed : Int32) (c_orders : Nat → Int32) (c_spot : Int32) (c_bad : Int32) (v1 : Int32) : Option ((Nat → Int32) × Int32 × Int32) :=
  lo4 (f_X6_readThree_L2 c_pad c_typed v1) FU (2 : Int32) c_orders c_spot c_bad
set_option maxHeartbeats 4000000 in
set_option maxRecDepth 100000 in
theorem c_X6_readThree (l : Launch) (dC : Nat → ClassId) (dI : Nat → Nat → Nat) (ck : Nat → ClassId) (a0 a0_z a0_past a0_slots a0_isSaved a0_pad a0_yes a0_no a0_yesThen a0_noThen a0_yesRound a0_yesRule a0_noRound a0_noRule a0_orders : Nat) (c_z : Nat → Int32) (c_past : Nat → Int32) (c_slots : Nat → Int32) (c_isSaved : Nat → Int32) (c_pastMany : Int32) (c_pad : Nat → Int32) (c_typed : Int32) (c_yes : Nat → Int32) (c_no : Nat → Int32) (c_yesThen : Nat → Int32) (c_noThen : Nat → Int32) (c_yesRound : Nat → Int32) (c_yesRule : Nat → Int32) (c_noRound : Nat → Int32) (c_noRule : Nat → Int32) (c_rounds : Int32) (c_isMore : Int32) (c_orders : Nat → Int32) (c_orderMany : Int32) (c_spot : Int32) (c_bad : Int32) (v1 : Int32) (o0 : Nat → Int32) (o1 : Int32) (o2 : Int32) (h : f_X6_readThree c_pad c_typed c_orders c_spot c_bad v1 = some (o0, o1, o2)) : MV l yX6_readThree wsX6_readThree ({ frames := 2, cells := 0, slots := 0, locals := 44 }) [.ref a0, .int v1] (dC, dI) ck (wX6 ck a0 a0_z a0_past a0_slots a0_isSaved a0_pad a0_yes a0_no a0_yesThen a0_noThen a0_yesRound a0_yesRule a0_noRound a0_noRule a0_orders c_z c_past c_slots c_isSaved c_pastMany c_pad c_typed c_yes c_no c_yesThen c_noThen c_yesRound c_yesRule c_noRound c_noRule c_rounds c_isMore c_orders c_orderMany c_spot c_bad) (wX6 ck a0 a0_z a0_past a0_slots a0_isSaved a0_pad a0_yes a0_no a0_yesThen a0_noThen a0_yesRound a0_yesRule a0_noRound a0_noRule a0_orders c_z c_past c_slots c_isSaved c_pastMany c_pad c_typed c_yes c_no c_yesThen c_noThen c_yesRound c_yesRule c_noRound c_noRule c_rounds c_isMore o0 c_orderMany o1 o2) := by
  refine MV.ofW (cc := cX6_readThree) (maxL := 3) (ret := none) (by decide +kernel) rfl (Nat.le_of_ble_eq_true rfl) ?_
  intro p e s m below meth c hx hb hr hml hts hown hlk hK hP A hA hD ls hl
  have hS : va_S A s.heap s.heap [] := va_S.rf
  have hown : s.vm.findClass RX6 = some m.cls := hown
  have hl : lv_has ls 3 [(0, .ref a0), (1, .int v1)] := hl
  have iu_X6 : ∀ w ∈ u_ws RX6 TX6 21, w ∈ wsX6_readThree := fun w h => List.mem_cons_of_mem _ (List.mem_append_right _ h)
  unfold f_X6_readThree at h
  refine lv_iconst (v := (2 : Int32)) hx hb dX6_readThree_0 rfl ?_
  refine lv_istore_n (lv' := [(2, .int (2 : Int32)), (0, .ref a0), (1, .int v1)]) hx hb dX6_readThree_1 rfl hl (by decide) rfl (fun ls hl => ?_)
  have hL2 : ∀ (n2 : Nat) (v2_L2 : Int32) (c_orders_L2 : Nat → Int32) (c_spot_L2 : Int32) (c_bad_L2 : Int32), lo4 (f_X6_readThree_L2 c_pad c_typed v1) n2 v2_L2 c_orders_L2 c_spot_L2 c_bad_L2 = some (o0, o1, o2) → ∀ (H : Heap) (locs : List Loc), va_P (dC, dI) vwCl (wX6 ck a0 a0_z a0_past a0_slots a0_isSaved a0_pad a0_yes a0_no a0_yesThen a0_noThen a0_yesRound a0_yesRule a0_noRound a0_noRule a0_orders c_z c_past c_slots c_isSaved c_pastMany c_pad c_typed c_yes c_no c_yesThen c_noThen c_yesRound c_yesRule c_noRound c_noRule c_rounds c_isMore c_orders_L2 c_orderMany c_spot_L2 c_bad_L2) H → va_D A (wX6 ck a0 a0_z a0_past a0_slots a0_isSaved a0_pad a0_yes a0_no a0_yesThen a0_noThen a0_yesRound a0_yesRule a0_noRound a0_noRule a0_orders c_z c_past c_slots c_isSaved c_pastMany c_pad c_typed c_yes c_no c_yesThen c_noThen c_yesRound c_yesRule c_noRound c_noRule c_rounds c_isMore c_orders_L2 c_orderMany c_spot_L2 c_bad_L2) → va_S A s.heap H locs → ∀ ls : Array Slot, lv_has ls 3 [(2, .int v2_L2), (0, .ref a0), (1, .int v1)] → W p l e (headSpec wsX6_readThree ({ frames := 2, cells := 0, slots := 0, locals := 44 })).room s m [.ref a0, .int v1].toArray below meth c H locs 0 0 (MQ below (QV (dC, dI) (wX6 ck a0 a0_z a0_past a0_slots a0_isSaved a0_pad a0_yes a0_no a0_yesThen a0_noThen a0_yesRound a0_yesRule a0_noRound a0_noRule a0_orders c_z c_past c_slots c_isSaved c_pastMany c_pad c_typed c_yes c_no c_yesThen c_noThen c_yesRound c_yesRule c_noRound c_noRule c_rounds c_isMore o0 c_orderMany o1 o2) A) [.ref a0, .int v1].toArray s 0 0 A) (F0 m 2 ls []) := by
    intro n2
    induction n2 with
    | zero => intro v2_L2 c_orders_L2 c_spot_L2 c_bad_L2 h; exact lo4_z h
    | succ n2 ih2 =>
      intro v2_L2 c_orders_L2 c_spot_L2 c_bad_L2 h H locs hP hD hS ls hl
      have h := lo4_s h
      unfold f_X6_readThree_L2 at h
      refine lv_iload_n hx hb dX6_readThree_2 rfl (lv_at hl 0 rfl) ?_
      refine lv_iconst (v := (4 : Int32)) hx hb dX6_readThree_3 rfl ?_
      refine lv_icmp_gt (tgt := 26) hx hb dX6_readThree_4 (by decide) (fun c_4 => ?_) (fun c_4 => ?_)
      · have h := if_t h c_4
        cases h
        exact eMv hx hb hr hlk hP hD hS dX6_readThree_26
      · have h := if_f h c_4
        refine lv_aload_n hx hb dX6_readThree_7 rfl (lv_at hl 1 rfl) ?_
        refine va_get (ci := 6) (v := .ref a0_orders) (C := RX6) (T := TX6) (N := 21) hx hb hts iu_X6 hown hK.1 hP 0 rfl rfl 17 (by decide) (hts (.fieldLink RX6 51 "SheetMarksModel" "orders" "[I") (List.mem_of_getElem? (i := 1) rfl)) (fun _ h9 => h9) rfl dX6_readThree_8 ?_
        refine lv_iload_n hx hb dX6_readThree_11 rfl (lv_at hl 2 rfl) ?_
        refine lv_iload_n hx hb dX6_readThree_12 rfl (lv_at hl 0 rfl) ?_
        refine lv_iadd hx hb dX6_readThree_13 ?_
        refine lv_aload_n hx hb dX6_readThree_14 rfl (lv_at hl 1 rfl) ?_
        refine lv_iconst (v := (5 : Int32)) hx hb dX6_readThree_15 rfl ?_
        obtain ⟨r_16, c_spot_16, c_bad_16, q_16, h⟩ := ob3_e h
        refine cMI (wc := wX6 ck a0 a0_z a0_past a0_slots a0_isSaved a0_pad a0_yes a0_no a0_yesThen a0_noThen a0_yesRound a0_yesRule a0_noRound a0_noRule a0_orders c_z c_past c_slots c_isSaved c_pastMany c_pad c_typed c_yes c_no c_yesThen c_noThen c_yesRound c_yesRule c_noRound c_noRule c_rounds c_isMore c_orders_L2 c_orderMany c_spot_L2 c_bad_L2) (wr := []) (w1 := wX6 ck a0 a0_z a0_past a0_slots a0_isSaved a0_pad a0_yes a0_no a0_yesThen a0_noThen a0_yesRound a0_yesRule a0_noRound a0_noRule a0_orders c_z c_past c_slots c_isSaved c_pastMany c_pad c_typed c_yes c_no c_yesThen c_noThen c_yesRound c_yesRule c_noRound c_noRule c_rounds c_isMore c_orders_L2 c_orderMany c_spot_16 c_bad_16) (wn := wX6 ck a0 a0_z a0_past a0_slots a0_isSaved a0_pad a0_yes a0_no a0_yesThen a0_noThen a0_yesRound a0_yesRule a0_noRound a0_noRule a0_orders c_z c_past c_slots c_isSaved c_pastMany c_pad c_typed c_yes c_no c_yesThen c_noThen c_yesRound c_yesRule c_noRound c_noRule c_rounds c_isMore c_orders_L2 c_orderMany c_spot_16 c_bad_16) ⟨hx, hb, hml, hown, hts⟩ hK hP hD hS hA [0, 1, 2, 3, 4, 5, 6, 7, 8, 9, 10, 11, 12, 13, 14] [] [0, 1, 2, 3, 4, 5, 6, 7, 8, 9, 10, 11, 12, 13, 14] rfl (by decide) rfl (by decide) (by decide) rfl (by decide) (c_X6_digit l dC dI ck a0 a0_z a0_past a0_slots a0_isSaved a0_pad a0_yes a0_no a0_yesThen a0_noThen a0_yesRound a0_yesRule a0_noRound a0_noRule a0_orders c_z c_past c_slots c_isSaved c_pastMany c_pad c_typed c_yes c_no c_yesThen c_noThen c_yesRound c_yesRule c_noRound c_noRule c_rounds c_isMore c_orders_L2 c_orderMany c_spot_L2 c_bad_L2 (5 : Int32) r_16 c_spot_16 c_bad_16 q_16) (cwV 1 hts gX6_readThree_X6_digit rfl rfl rfl (by decide +kernel) ⟨Nat.le_of_ble_eq_true rfl, Nat.le_of_ble_eq_true rfl⟩) 0 rfl rfl rfl hl.1 rfl (Nat.le_of_ble_eq_true rfl) dX6_readThree_16 ⟨Nat.zero_le _, Nat.zero_le _⟩ (fun H locs hP hD hS => ?_)
        obtain ⟨g_19, h⟩ := gd_e h
        refine va_iast hx hb hK.1 hP hD hS 14 0 rfl rfl g_19 dX6_readThree_19 (fun H locs hP hD hS => ?_)
        obtain ⟨c_orders_19, e_19⟩ : ∃ y : Nat → Int32, y = (upd c_orders_L2 (v1 + v2_L2).toNatClampNeg r_16) := ⟨_, rfl⟩
        have h := lt'_e e_19 h
        have hP : va_P (dC, dI) vwCl (wX6 ck a0 a0_z a0_past a0_slots a0_isSaved a0_pad a0_yes a0_no a0_yesThen a0_noThen a0_yesRound a0_yesRule a0_noRound a0_noRule a0_orders c_z c_past c_slots c_isSaved c_pastMany c_pad c_typed c_yes c_no c_yesThen c_noThen c_yesRound c_yesRule c_noRound c_noRule c_rounds c_isMore c_orders_19 c_orderMany c_spot_16 c_bad_16) H := by subst e_19; exact hP
        have hD : va_D A (wX6 ck a0 a0_z a0_past a0_slots a0_isSaved a0_pad a0_yes a0_no a0_yesThen a0_noThen a0_yesRound a0_yesRule a0_noRound a0_noRule a0_orders c_z c_past c_slots c_isSaved c_pastMany c_pad c_typed c_yes c_no c_yesThen c_noThen c_yesRound c_yesRule c_noRound c_noRule c_rounds c_isMore c_orders_19 c_orderMany c_spot_16 c_bad_16) := by subst e_19; exact hD
        refine lv_iinc (v := (v2_L2 + (1 : Int32))) (lv' := [(2, .int (v2_L2 + (1 : Int32))), (0, .ref a0), (1, .int v1)]) hx hb dX6_readThree_20 hl (k := 0) rfl rfl (by decide) rfl (fun ls hl => ?_)
        refine lv_goto (tgt := 2) hx hb dX6_readThree_23 (by decide) ?_
        exact ih2 _ _ _ _ h _ _ hP hD hS _ (lv_sub hl [0, 1, 2] rfl)
  exact hL2 _ _ _ _ _ h _ _ hP hD hS _ (lv_sub hl [0, 1, 2] rfl)
noncomputable def f_X6_readCard (c_pad : Nat → Int32) (c_typed : Int32) (c_orders : Nat → Int32) (c_spot : Int32) (c_bad : Int32) (v1 : Int32) : Option ((Nat → Int32) × Int32 × Int32) :=
  ob1 (f_X6_letter c_pad c_typed c_spot) (fun (r_1 : Int32) => lt' (r_1 - (97 : Int32)) (fun v2_7 : Int32 => ob1 (f_X6_in v2_7 (0 : Int32) (2 : Int32)) (fun (r_12 : Int32) => ob2 (f_X6_wants c_spot c_bad r_12) (fun (c_spot_15 : Int32) (c_bad_15 : Int32) => ob3 (f_X6_digit c_pad c_typed c_spot_15 c_bad_15 (5 : Int32)) (fun (r_31 : Int32) (c_spot_31 : Int32) (c_bad_31 : Int32) => gd (v1 + (2 : Int32)) 160 (lt' (upd c_orders (v1 + (2 : Int32)).toNatClampNeg (((6 : Int32) * v2_7) + r_31)) (fun c_orders_35 : Nat → Int32 => some (c_orders_35, c_spot_31, c_bad_31))))))))
set_option maxHeartbeats 4000000 in
set_option maxRecDepth 100000 in
theorem c_X6_readCard (l : Launch) (dC : Nat → ClassId) (dI : Nat → Nat → Nat) (ck : Nat → ClassId) (a0 a0_z a0_past a0_slots a0_isSaved a0_pad a0_yes a0_no a0_yesThen a0_noThen a0_yesRound a0_yesRule a0_noRound a0_noRule a0_orders : Nat) (c_z : Nat → Int32) (c_past : Nat → Int32) (c_slots : Nat → Int32) (c_isSaved : Nat → Int32) (c_pastMany : Int32) (c_pad : Nat → Int32) (c_typed : Int32) (c_yes : Nat → Int32) (c_no : Nat → Int32) (c_yesThen : Nat → Int32) (c_noThen : Nat → Int32) (c_yesRound : Nat → Int32) (c_yesRule : Nat → Int32) (c_noRound : Nat → Int32) (c_noRule : Nat → Int32) (c_rounds : Int32) (c_isMore : Int32) (c_orders : Nat → Int32) (c_orderMany : Int32) (c_spot : Int32) (c_bad : Int32) (v1 : Int32) (o0 : Nat → Int32) (o1 : Int32) (o2 : Int32) (h : f_X6_readCard c_pad c_typed c_orders c_spot c_bad v1 = some (o0, o1, o2)) : MV l yX6_readCard wsX6_readCard ({ frames := 2, cells := 0, slots := 0, locals := 44 }) [.ref a0, .int v1] (dC, dI) ck (wX6 ck a0 a0_z a0_past a0_slots a0_isSaved a0_pad a0_yes a0_no a0_yesThen a0_noThen a0_yesRound a0_yesRule a0_noRound a0_noRule a0_orders c_z c_past c_slots c_isSaved c_pastMany c_pad c_typed c_yes c_no c_yesThen c_noThen c_yesRound c_yesRule c_noRound c_noRule c_rounds c_isMore c_orders c_orderMany c_spot c_bad) (wX6 ck a0 a0_z a0_past a0_slots a0_isSaved a0_pad a0_yes a0_no a0_yesThen a0_noThen a0_yesRound a0_yesRule a0_noRound a0_noRule a0_orders c_z c_past c_slots c_isSaved c_pastMany c_pad c_typed c_yes c_no c_yesThen c_noThen c_yesRound c_yesRule c_noRound c_noRule c_rounds c_isMore o0 c_orderMany o1 o2) := by
  refine MV.ofW (cc := cX6_readCard) (maxL := 3) (ret := none) (by decide +kernel) rfl (Nat.le_of_ble_eq_true rfl) ?_
  intro p e s m below meth c hx hb hr hml hts hown hlk hK hP A hA hD ls hl
  have hS : va_S A s.heap s.heap [] := va_S.rf
  have hown : s.vm.findClass RX6 = some m.cls := hown
  have hl : lv_has ls 3 [(0, .ref a0), (1, .int v1)] := hl
  have iu_X6 : ∀ w ∈ u_ws RX6 TX6 21, w ∈ wsX6_readCard := fun w h => List.mem_cons_of_mem _ (List.mem_append_right _ h)
  unfold f_X6_readCard at h
  refine lv_aload_n hx hb dX6_readCard_0 rfl (lv_at hl 0 rfl) ?_
  obtain ⟨r_1, q_1, h⟩ := ob1_e h
  refine cRV (wc := wX6 ck a0 a0_z a0_past a0_slots a0_isSaved a0_pad a0_yes a0_no a0_yesThen a0_noThen a0_yesRound a0_yesRule a0_noRound a0_noRule a0_orders c_z c_past c_slots c_isSaved c_pastMany c_pad c_typed c_yes c_no c_yesThen c_noThen c_yesRound c_yesRule c_noRound c_noRule c_rounds c_isMore c_orders c_orderMany c_spot c_bad) ⟨hx, hb, hml, hown, hts⟩ hK hP [0, 1, 2, 3, 4, 5, 6, 7, 8, 9, 10, 11, 12, 13, 14] rfl (c_X6_letter l dC dI ck a0 a0_z a0_past a0_slots a0_isSaved a0_pad a0_yes a0_no a0_yesThen a0_noThen a0_yesRound a0_yesRule a0_noRound a0_noRule a0_orders c_z c_past c_slots c_isSaved c_pastMany c_pad c_typed c_yes c_no c_yesThen c_noThen c_yesRound c_yesRule c_noRound c_noRule c_rounds c_isMore c_orders c_orderMany c_spot c_bad r_1 q_1) (cwV 0 hts gX6_readCard_X6_letter rfl rfl rfl (by decide +kernel) ⟨Nat.le_of_ble_eq_true rfl, Nat.le_of_ble_eq_true rfl⟩) 0 rfl rfl rfl hl.1 rfl (Nat.le_of_ble_eq_true rfl) dX6_readCard_1 ⟨Nat.zero_le _, Nat.zero_le _⟩ ?_
  refine lv_bipush (v := (97 : Int32)) hx hb dX6_readCard_4 rfl ?_
  refine lv_isub hx hb dX6_readCard_6 ?_
  refine lv_topi (fun v2_7 e_7 => ?_)
  have h := lt'_e e_7 h
  refine lv_istore_n (lv' := [(2, .int v2_7), (0, .ref a0), (1, .int v1)]) hx hb dX6_readCard_7 rfl hl (by decide) rfl (fun ls hl => ?_)
  refine lv_aload_n hx hb dX6_readCard_8 rfl (lv_at hl 1 rfl) ?_
  refine lv_iload_n hx hb dX6_readCard_9 rfl (lv_at hl 0 rfl) ?_
  refine lv_iconst (v := (0 : Int32)) hx hb dX6_readCard_10 rfl ?_
  refine lv_iconst (v := (2 : Int32)) hx hb dX6_readCard_11 rfl ?_
  obtain ⟨r_12, q_12, h⟩ := ob1_e h
  refine cRS (wc := []) ⟨hx, hb, hml, hown, hts⟩ hK hP [] rfl (c_X6_in l dC dI ck v2_7 (0 : Int32) (2 : Int32) r_12 q_12) (va_cwS 3 hts gX6_readCard_X6_in rfl rfl rfl (by decide +kernel) ⟨Nat.le_of_ble_eq_true rfl, Nat.le_of_ble_eq_true rfl⟩) rfl hl.1 rfl (Nat.le_of_ble_eq_true rfl) dX6_readCard_12 ⟨Nat.zero_le _, Nat.zero_le _⟩ ?_
  obtain ⟨c_spot_15, c_bad_15, q_15, h⟩ := ob2_e h
  refine cMV (wc := wX6 ck a0 a0_z a0_past a0_slots a0_isSaved a0_pad a0_yes a0_no a0_yesThen a0_noThen a0_yesRound a0_yesRule a0_noRound a0_noRule a0_orders c_z c_past c_slots c_isSaved c_pastMany c_pad c_typed c_yes c_no c_yesThen c_noThen c_yesRound c_yesRule c_noRound c_noRule c_rounds c_isMore c_orders c_orderMany c_spot c_bad) (wr := []) (w1 := wX6 ck a0 a0_z a0_past a0_slots a0_isSaved a0_pad a0_yes a0_no a0_yesThen a0_noThen a0_yesRound a0_yesRule a0_noRound a0_noRule a0_orders c_z c_past c_slots c_isSaved c_pastMany c_pad c_typed c_yes c_no c_yesThen c_noThen c_yesRound c_yesRule c_noRound c_noRule c_rounds c_isMore c_orders c_orderMany c_spot_15 c_bad_15) (wn := wX6 ck a0 a0_z a0_past a0_slots a0_isSaved a0_pad a0_yes a0_no a0_yesThen a0_noThen a0_yesRound a0_yesRule a0_noRound a0_noRule a0_orders c_z c_past c_slots c_isSaved c_pastMany c_pad c_typed c_yes c_no c_yesThen c_noThen c_yesRound c_yesRule c_noRound c_noRule c_rounds c_isMore c_orders c_orderMany c_spot_15 c_bad_15) ⟨hx, hb, hml, hown, hts⟩ hK hP hD hS hA [0, 1, 2, 3, 4, 5, 6, 7, 8, 9, 10, 11, 12, 13, 14] [] [0, 1, 2, 3, 4, 5, 6, 7, 8, 9, 10, 11, 12, 13, 14] rfl (by decide) rfl (by decide) (by decide) rfl (by decide) (c_X6_wants l dC dI ck a0 a0_z a0_past a0_slots a0_isSaved a0_pad a0_yes a0_no a0_yesThen a0_noThen a0_yesRound a0_yesRule a0_noRound a0_noRule a0_orders c_z c_past c_slots c_isSaved c_pastMany c_pad c_typed c_yes c_no c_yesThen c_noThen c_yesRound c_yesRule c_noRound c_noRule c_rounds c_isMore c_orders c_orderMany c_spot c_bad r_12 c_spot_15 c_bad_15 q_15) (cwV 1 hts gX6_readCard_X6_wants rfl rfl rfl (by decide +kernel) ⟨Nat.le_of_ble_eq_true rfl, Nat.le_of_ble_eq_true rfl⟩) 0 rfl rfl rfl hl.1 rfl (Nat.le_of_ble_eq_true rfl) dX6_readCard_15 ⟨Nat.zero_le _, Nat.zero_le _⟩ (fun H locs hP hD hS => ?_)
  refine lv_aload_n hx hb dX6_readCard_18 rfl (lv_at hl 1 rfl) ?_
  refine va_get (ci := 6) (v := .ref a0_orders) (C := RX6) (T := TX6) (N := 21) hx hb hts iu_X6 hown hK.1 hP 0 rfl rfl 17 (by decide) (hts (.fieldLink RX6 51 "SheetMarksModel" "orders" "[I") (List.mem_of_getElem? (i := 1) rfl)) (fun _ h9 => h9) rfl dX6_readCard_19 ?_
  refine lv_iload_n hx hb dX6_readCard_22 rfl (lv_at hl 2 rfl) ?_
  refine lv_iconst (v := (2 : Int32)) hx hb dX6_readCard_23 rfl ?_
  refine lv_iadd hx hb dX6_readCard_24 ?_
  refine lv_bipush (v := (6 : Int32)) hx hb dX6_readCard_25 rfl ?_
  refine lv_iload_n hx hb dX6_readCard_27 rfl (lv_at hl 0 rfl) ?_
  refine lv_imul hx hb dX6_readCard_28 ?_
  refine lv_aload_n hx hb dX6_readCard_29 rfl (lv_at hl 1 rfl) ?_
  refine lv_iconst (v := (5 : Int32)) hx hb dX6_readCard_30 rfl ?_
  obtain ⟨r_31, c_spot_31, c_bad_31, q_31, h⟩ := ob3_e h
  refine cMI (wc := wX6 ck a0 a0_z a0_past a0_slots a0_isSaved a0_pad a0_yes a0_no a0_yesThen a0_noThen a0_yesRound a0_yesRule a0_noRound a0_noRule a0_orders c_z c_past c_slots c_isSaved c_pastMany c_pad c_typed c_yes c_no c_yesThen c_noThen c_yesRound c_yesRule c_noRound c_noRule c_rounds c_isMore c_orders c_orderMany c_spot_15 c_bad_15) (wr := []) (w1 := wX6 ck a0 a0_z a0_past a0_slots a0_isSaved a0_pad a0_yes a0_no a0_yesThen a0_noThen a0_yesRound a0_yesRule a0_noRound a0_noRule a0_orders c_z c_past c_slots c_isSaved c_pastMany c_pad c_typed c_yes c_no c_yesThen c_noThen c_yesRound c_yesRule c_noRound c_noRule c_rounds c_isMore c_orders c_orderMany c_spot_31 c_bad_31) (wn := wX6 ck a0 a0_z a0_past a0_slots a0_isSaved a0_pad a0_yes a0_no a0_yesThen a0_noThen a0_yesRound a0_yesRule a0_noRound a0_noRule a0_orders c_z c_past c_slots c_isSaved c_pastMany c_pad c_typed c_yes c_no c_yesThen c_noThen c_yesRound c_yesRule c_noRound c_noRule c_rounds c_isMore c_orders c_orderMany c_spot_31 c_bad_31) ⟨hx, hb, hml, hown, hts⟩ hK hP hD hS hA [0, 1, 2, 3, 4, 5, 6, 7, 8, 9, 10, 11, 12, 13, 14] [] [0, 1, 2, 3, 4, 5, 6, 7, 8, 9, 10, 11, 12, 13, 14] rfl (by decide) rfl (by decide) (by decide) rfl (by decide) (c_X6_digit l dC dI ck a0 a0_z a0_past a0_slots a0_isSaved a0_pad a0_yes a0_no a0_yesThen a0_noThen a0_yesRound a0_yesRule a0_noRound a0_noRule a0_orders c_z c_past c_slots c_isSaved c_pastMany c_pad c_typed c_yes c_no c_yesThen c_noThen c_yesRound c_yesRule c_noRound c_noRule c_rounds c_isMore c_orders c_orderMany c_spot_15 c_bad_15 (5 : Int32) r_31 c_spot_31 c_bad_31 q_31) (cwV 1 hts gX6_readCard_X6_digit rfl rfl rfl (by decide +kernel) ⟨Nat.le_of_ble_eq_true rfl, Nat.le_of_ble_eq_true rfl⟩) 0 rfl rfl rfl hl.1 rfl (Nat.le_of_ble_eq_true rfl) dX6_readCard_31 ⟨Nat.zero_le _, Nat.zero_le _⟩ (fun H locs hP hD hS => ?_)
  refine lv_iadd hx hb dX6_readCard_34 ?_
  obtain ⟨g_35, h⟩ := gd_e h
  refine va_iast hx hb hK.1 hP hD hS 14 0 rfl rfl g_35 dX6_readCard_35 (fun H locs hP hD hS => ?_)
  obtain ⟨c_orders_35, e_35⟩ : ∃ y : Nat → Int32, y = (upd c_orders (v1 + (2 : Int32)).toNatClampNeg (((6 : Int32) * v2_7) + r_31)) := ⟨_, rfl⟩
  have h := lt'_e e_35 h
  have hP : va_P (dC, dI) vwCl (wX6 ck a0 a0_z a0_past a0_slots a0_isSaved a0_pad a0_yes a0_no a0_yesThen a0_noThen a0_yesRound a0_yesRule a0_noRound a0_noRule a0_orders c_z c_past c_slots c_isSaved c_pastMany c_pad c_typed c_yes c_no c_yesThen c_noThen c_yesRound c_yesRule c_noRound c_noRule c_rounds c_isMore c_orders_35 c_orderMany c_spot_31 c_bad_31) H := by subst e_35; exact hP
  have hD : va_D A (wX6 ck a0 a0_z a0_past a0_slots a0_isSaved a0_pad a0_yes a0_no a0_yesThen a0_noThen a0_yesRound a0_yesRule a0_noRound a0_noRule a0_orders c_z c_past c_slots c_isSaved c_pastMany c_pad c_typed c_yes c_no c_yesThen c_noThen c_yesRound c_yesRule c_noRound c_noRule c_rounds c_isMore c_orders_35 c_orderMany c_spot_31 c_bad_31) := by subst e_35; exact hD
  cases h
  exact eMv hx hb hr hlk hP hD hS dX6_readCard_36
noncomputable def f_X6_readNumber (c_pad : Nat → Int32) (c_typed : Int32) (c_orders : Nat → Int32) (c_spot : Int32) (c_bad : Int32) (v1 : Int32) : Option ((Nat → Int32) × Int32 × Int32) :=
  ob3 (f_X6_digit c_pad c_typed c_spot c_bad (9 : Int32)) (fun (r_3 : Int32) (c_spot_3 : Int32) (c_bad_3 : Int32) => ob1 (f_X6_letter c_pad c_typed c_spot_3) (fun (r_8 : Int32) => lt' (r_8 - (48 : Int32)) (fun v3_14 : Int32 => if c_bad_3 = (-6 : Int32) then (if r_3 ≤ (0 : Int32) then (gd (v1 + (1 : Int32)) 160 (lt' (upd c_orders (v1 + (1 : Int32)).toNatClampNeg r_3) (fun c_orders_63 : Nat → Int32 => some (c_orders_63, c_spot_3, c_bad_3)))) else (ob1 (f_X6_in v3_14 (0 : Int32) (9 : Int32)) (fun (r_32 : Int32) => if r_32 = (0 : Int32) then (gd (v1 + (1 : Int32)) 160 (lt' (upd c_orders (v1 + (1 : Int32)).toNatClampNeg r_3) (fun c_orders_63 : Nat → Int32 => some (c_orders_63, c_spot_3, c_bad_3)))) else (lt' (c_spot_3 + (1 : Int32)) (fun c_spot_45 : Int32 => lt' (((10 : Int32) * r_3) + v3_14) (fun v2_54 : Int32 => gd (v1 + (1 : Int32)) 160 (lt' (upd c_orders (v1 + (1 : Int32)).toNatClampNeg v2_54) (fun c_orders_63 : Nat → Int32 => some (c_orders_63, c_spot_45, c_bad_3))))))))) else (gd (v1 + (1 : Int32)) 160 (lt' (upd c_orders (v1 + (1 : Int32)).toNatClampNeg r_3) (fun c_orders_63 : Nat → Int32 => some (c_orders_63, c_spot_3, c_bad_3)))))))
set_option maxHeartbeats 4000000 in
set_option maxRecDepth 100000 in
theorem c_X6_readNumber (l : Launch) (dC : Nat → ClassId) (dI : Nat → Nat → Nat) (ck : Nat → ClassId) (a0 a0_z a0_past a0_slots a0_isSaved a0_pad a0_yes a0_no a0_yesThen a0_noThen a0_yesRound a0_yesRule a0_noRound a0_noRule a0_orders : Nat) (c_z : Nat → Int32) (c_past : Nat → Int32) (c_slots : Nat → Int32) (c_isSaved : Nat → Int32) (c_pastMany : Int32) (c_pad : Nat → Int32) (c_typed : Int32) (c_yes : Nat → Int32) (c_no : Nat → Int32) (c_yesThen : Nat → Int32) (c_noThen : Nat → Int32) (c_yesRound : Nat → Int32) (c_yesRule : Nat → Int32) (c_noRound : Nat → Int32) (c_noRule : Nat → Int32) (c_rounds : Int32) (c_isMore : Int32) (c_orders : Nat → Int32) (c_orderMany : Int32) (c_spot : Int32) (c_bad : Int32) (v1 : Int32) (o0 : Nat → Int32) (o1 : Int32) (o2 : Int32) (h : f_X6_readNumber c_pad c_typed c_orders c_spot c_bad v1 = some (o0, o1, o2)) : MV l yX6_readNumber wsX6_readNumber ({ frames := 2, cells := 0, slots := 0, locals := 44 }) [.ref a0, .int v1] (dC, dI) ck (wX6 ck a0 a0_z a0_past a0_slots a0_isSaved a0_pad a0_yes a0_no a0_yesThen a0_noThen a0_yesRound a0_yesRule a0_noRound a0_noRule a0_orders c_z c_past c_slots c_isSaved c_pastMany c_pad c_typed c_yes c_no c_yesThen c_noThen c_yesRound c_yesRule c_noRound c_noRule c_rounds c_isMore c_orders c_orderMany c_spot c_bad) (wX6 ck a0 a0_z a0_past a0_slots a0_isSaved a0_pad a0_yes a0_no a0_yesThen a0_noThen a0_yesRound a0_yesRule a0_noRound a0_noRule a0_orders c_z c_past c_slots c_isSaved c_pastMany c_pad c_typed c_yes c_no c_yesThen c_noThen c_yesRound c_yesRule c_noRound c_noRule c_rounds c_isMore o0 c_orderMany o1 o2) := by
  refine MV.ofW (cc := cX6_readNumber) (maxL := 4) (ret := none) (by decide +kernel) rfl (Nat.le_of_ble_eq_true rfl) ?_
  intro p e s m below meth c hx hb hr hml hts hown hlk hK hP A hA hD ls hl
  have hS : va_S A s.heap s.heap [] := va_S.rf
  have hown : s.vm.findClass RX6 = some m.cls := hown
  have hl : lv_has ls 4 [(0, .ref a0), (1, .int v1)] := hl
  have iu_X6 : ∀ w ∈ u_ws RX6 TX6 21, w ∈ wsX6_readNumber := fun w h => List.mem_cons_of_mem _ (List.mem_append_right _ h)
  unfold f_X6_readNumber at h
  refine lv_aload_n hx hb dX6_readNumber_0 rfl (lv_at hl 0 rfl) ?_
  refine lv_bipush (v := (9 : Int32)) hx hb dX6_readNumber_1 rfl ?_
  obtain ⟨r_3, c_spot_3, c_bad_3, q_3, h⟩ := ob3_e h
  refine cMI (wc := wX6 ck a0 a0_z a0_past a0_slots a0_isSaved a0_pad a0_yes a0_no a0_yesThen a0_noThen a0_yesRound a0_yesRule a0_noRound a0_noRule a0_orders c_z c_past c_slots c_isSaved c_pastMany c_pad c_typed c_yes c_no c_yesThen c_noThen c_yesRound c_yesRule c_noRound c_noRule c_rounds c_isMore c_orders c_orderMany c_spot c_bad) (wr := []) (w1 := wX6 ck a0 a0_z a0_past a0_slots a0_isSaved a0_pad a0_yes a0_no a0_yesThen a0_noThen a0_yesRound a0_yesRule a0_noRound a0_noRule a0_orders c_z c_past c_slots c_isSaved c_pastMany c_pad c_typed c_yes c_no c_yesThen c_noThen c_yesRound c_yesRule c_noRound c_noRule c_rounds c_isMore c_orders c_orderMany c_spot_3 c_bad_3) (wn := wX6 ck a0 a0_z a0_past a0_slots a0_isSaved a0_pad a0_yes a0_no a0_yesThen a0_noThen a0_yesRound a0_yesRule a0_noRound a0_noRule a0_orders c_z c_past c_slots c_isSaved c_pastMany c_pad c_typed c_yes c_no c_yesThen c_noThen c_yesRound c_yesRule c_noRound c_noRule c_rounds c_isMore c_orders c_orderMany c_spot_3 c_bad_3) ⟨hx, hb, hml, hown, hts⟩ hK hP hD hS hA [0, 1, 2, 3, 4, 5, 6, 7, 8, 9, 10, 11, 12, 13, 14] [] [0, 1, 2, 3, 4, 5, 6, 7, 8, 9, 10, 11, 12, 13, 14] rfl (by decide) rfl (by decide) (by decide) rfl (by decide) (c_X6_digit l dC dI ck a0 a0_z a0_past a0_slots a0_isSaved a0_pad a0_yes a0_no a0_yesThen a0_noThen a0_yesRound a0_yesRule a0_noRound a0_noRule a0_orders c_z c_past c_slots c_isSaved c_pastMany c_pad c_typed c_yes c_no c_yesThen c_noThen c_yesRound c_yesRule c_noRound c_noRule c_rounds c_isMore c_orders c_orderMany c_spot c_bad (9 : Int32) r_3 c_spot_3 c_bad_3 q_3) (cwV 1 hts gX6_readNumber_X6_digit rfl rfl rfl (by decide +kernel) ⟨Nat.le_of_ble_eq_true rfl, Nat.le_of_ble_eq_true rfl⟩) 0 rfl rfl rfl hl.1 rfl (Nat.le_of_ble_eq_true rfl) dX6_readNumber_3 ⟨Nat.zero_le _, Nat.zero_le _⟩ (fun H locs hP hD hS => ?_)
  refine lv_istore_n (lv' := [(2, .int r_3), (0, .ref a0), (1, .int v1)]) hx hb dX6_readNumber_6 rfl hl (by decide) rfl (fun ls hl => ?_)
  refine lv_aload_n hx hb dX6_readNumber_7 rfl (lv_at hl 1 rfl) ?_
  obtain ⟨r_8, q_8, h⟩ := ob1_e h
  refine cRV (wc := wX6 ck a0 a0_z a0_past a0_slots a0_isSaved a0_pad a0_yes a0_no a0_yesThen a0_noThen a0_yesRound a0_yesRule a0_noRound a0_noRule a0_orders c_z c_past c_slots c_isSaved c_pastMany c_pad c_typed c_yes c_no c_yesThen c_noThen c_yesRound c_yesRule c_noRound c_noRule c_rounds c_isMore c_orders c_orderMany c_spot_3 c_bad_3) ⟨hx, hb, hml, hown, hts⟩ hK hP [0, 1, 2, 3, 4, 5, 6, 7, 8, 9, 10, 11, 12, 13, 14] rfl (c_X6_letter l dC dI ck a0 a0_z a0_past a0_slots a0_isSaved a0_pad a0_yes a0_no a0_yesThen a0_noThen a0_yesRound a0_yesRule a0_noRound a0_noRule a0_orders c_z c_past c_slots c_isSaved c_pastMany c_pad c_typed c_yes c_no c_yesThen c_noThen c_yesRound c_yesRule c_noRound c_noRule c_rounds c_isMore c_orders c_orderMany c_spot_3 c_bad_3 r_8 q_8) (cwV 0 hts gX6_readNumber_X6_letter rfl rfl rfl (by decide +kernel) ⟨Nat.le_of_ble_eq_true rfl, Nat.le_of_ble_eq_true rfl⟩) 0 rfl rfl rfl hl.1 rfl (Nat.le_of_ble_eq_true rfl) dX6_readNumber_8 ⟨Nat.zero_le _, Nat.zero_le _⟩ ?_
  refine lv_bipush (v := (48 : Int32)) hx hb dX6_readNumber_11 rfl ?_
  refine lv_isub hx hb dX6_readNumber_13 ?_
  refine lv_topi (fun v3_14 e_14 => ?_)
  have h := lt'_e e_14 h
  refine lv_istore_n (lv' := [(3, .int v3_14), (2, .int r_3), (0, .ref a0), (1, .int v1)]) hx hb dX6_readNumber_14 rfl hl (by decide) rfl (fun ls hl => ?_)
  refine lv_aload_n hx hb dX6_readNumber_15 rfl (lv_at hl 2 rfl) ?_
  refine va_get (ci := 6) (v := .int c_bad_3) (C := RX6) (T := TX6) (N := 21) hx hb hts iu_X6 hown hK.1 hP 0 rfl rfl 20 (by decide) (hts (.fieldLink RX6 216 "SheetMarksModel" "bad" "I") (List.mem_of_getElem? (i := 1) rfl)) (fun _ h9 => h9) rfl dX6_readNumber_16 ?_
  refine lv_bipush (v := (-6 : Int32)) hx hb dX6_readNumber_19 rfl ?_
  refine lv_icmp_ne (tgt := 55) hx hb dX6_readNumber_21 (by decide) (fun c_21 => ?_) (fun c_21 => ?_)
  · have h := if_f h c_21
    refine lv_aload_n hx hb dX6_readNumber_55 rfl (lv_at hl 2 rfl) ?_
    refine va_get (ci := 6) (v := .ref a0_orders) (C := RX6) (T := TX6) (N := 21) hx hb hts iu_X6 hown hK.1 hP 0 rfl rfl 17 (by decide) (hts (.fieldLink RX6 51 "SheetMarksModel" "orders" "[I") (List.mem_of_getElem? (i := 3) rfl)) (fun _ h9 => h9) rfl dX6_readNumber_56 ?_
    refine lv_iload_n hx hb dX6_readNumber_59 rfl (lv_at hl 3 rfl) ?_
    refine lv_iconst (v := (1 : Int32)) hx hb dX6_readNumber_60 rfl ?_
    refine lv_iadd hx hb dX6_readNumber_61 ?_
    refine lv_iload_n hx hb dX6_readNumber_62 rfl (lv_at hl 1 rfl) ?_
    obtain ⟨g_63, h⟩ := gd_e h
    refine va_iast hx hb hK.1 hP hD hS 14 0 rfl rfl g_63 dX6_readNumber_63 (fun H locs hP hD hS => ?_)
    obtain ⟨c_orders_63, e_63⟩ : ∃ y : Nat → Int32, y = (upd c_orders (v1 + (1 : Int32)).toNatClampNeg r_3) := ⟨_, rfl⟩
    have h := lt'_e e_63 h
    have hP : va_P (dC, dI) vwCl (wX6 ck a0 a0_z a0_past a0_slots a0_isSaved a0_pad a0_yes a0_no a0_yesThen a0_noThen a0_yesRound a0_yesRule a0_noRound a0_noRule a0_orders c_z c_past c_slots c_isSaved c_pastMany c_pad c_typed c_yes c_no c_yesThen c_noThen c_yesRound c_yesRule c_noRound c_noRule c_rounds c_isMore c_orders_63 c_orderMany c_spot_3 c_bad_3) H := by subst e_63; exact hP
    have hD : va_D A (wX6 ck a0 a0_z a0_past a0_slots a0_isSaved a0_pad a0_yes a0_no a0_yesThen a0_noThen a0_yesRound a0_yesRule a0_noRound a0_noRule a0_orders c_z c_past c_slots c_isSaved c_pastMany c_pad c_typed c_yes c_no c_yesThen c_noThen c_yesRound c_yesRule c_noRound c_noRule c_rounds c_isMore c_orders_63 c_orderMany c_spot_3 c_bad_3) := by subst e_63; exact hD
    cases h
    exact eMv hx hb hr hlk hP hD hS dX6_readNumber_64
  · have h := if_t h c_21
    refine lv_iload_n hx hb dX6_readNumber_24 rfl (lv_at hl 1 rfl) ?_
    refine lv_if_le (tgt := 55) hx hb dX6_readNumber_25 (by decide) (fun c_25 => ?_) (fun c_25 => ?_)
    · have h := if_t h c_25
      refine lv_aload_n hx hb dX6_readNumber_55 rfl (lv_at hl 2 rfl) ?_
      refine va_get (ci := 6) (v := .ref a0_orders) (C := RX6) (T := TX6) (N := 21) hx hb hts iu_X6 hown hK.1 hP 0 rfl rfl 17 (by decide) (hts (.fieldLink RX6 51 "SheetMarksModel" "orders" "[I") (List.mem_of_getElem? (i := 3) rfl)) (fun _ h9 => h9) rfl dX6_readNumber_56 ?_
      refine lv_iload_n hx hb dX6_readNumber_59 rfl (lv_at hl 3 rfl) ?_
      refine lv_iconst (v := (1 : Int32)) hx hb dX6_readNumber_60 rfl ?_
      refine lv_iadd hx hb dX6_readNumber_61 ?_
      refine lv_iload_n hx hb dX6_readNumber_62 rfl (lv_at hl 1 rfl) ?_
      obtain ⟨g_63, h⟩ := gd_e h
      refine va_iast hx hb hK.1 hP hD hS 14 0 rfl rfl g_63 dX6_readNumber_63 (fun H locs hP hD hS => ?_)
      obtain ⟨c_orders_63, e_63⟩ : ∃ y : Nat → Int32, y = (upd c_orders (v1 + (1 : Int32)).toNatClampNeg r_3) := ⟨_, rfl⟩
      have h := lt'_e e_63 h
      have hP : va_P (dC, dI) vwCl (wX6 ck a0 a0_z a0_past a0_slots a0_isSaved a0_pad a0_yes a0_no a0_yesThen a0_noThen a0_yesRound a0_yesRule a0_noRound a0_noRule a0_orders c_z c_past c_slots c_isSaved c_pastMany c_pad c_typed c_yes c_no c_yesThen c_noThen c_yesRound c_yesRule c_noRound c_noRule c_rounds c_isMore c_orders_63 c_orderMany c_spot_3 c_bad_3) H := by subst e_63; exact hP
      have hD : va_D A (wX6 ck a0 a0_z a0_past a0_slots a0_isSaved a0_pad a0_yes a0_no a0_yesThen a0_noThen a0_yesRound a0_yesRule a0_noRound a0_noRule a0_orders c_z c_past c_slots c_isSaved c_pastMany c_pad c_typed c_yes c_no c_yesThen c_noThen c_yesRound c_yesRule c_noRound c_noRule c_rounds c_isMore c_orders_63 c_orderMany c_spot_3 c_bad_3) := by subst e_63; exact hD
      cases h
      exact eMv hx hb hr hlk hP hD hS dX6_readNumber_64
    · have h := if_f h c_25
      refine lv_iload_n hx hb dX6_readNumber_28 rfl (lv_at hl 0 rfl) ?_
      refine lv_iconst (v := (0 : Int32)) hx hb dX6_readNumber_29 rfl ?_
      refine lv_bipush (v := (9 : Int32)) hx hb dX6_readNumber_30 rfl ?_
      obtain ⟨r_32, q_32, h⟩ := ob1_e h
      refine cRS (wc := []) ⟨hx, hb, hml, hown, hts⟩ hK hP [] rfl (c_X6_in l dC dI ck v3_14 (0 : Int32) (9 : Int32) r_32 q_32) (va_cwS 3 hts gX6_readNumber_X6_in rfl rfl rfl (by decide +kernel) ⟨Nat.le_of_ble_eq_true rfl, Nat.le_of_ble_eq_true rfl⟩) rfl hl.1 rfl (Nat.le_of_ble_eq_true rfl) dX6_readNumber_32 ⟨Nat.zero_le _, Nat.zero_le _⟩ ?_
      refine lv_if_eq (tgt := 55) hx hb dX6_readNumber_35 (by decide) (fun c_35 => ?_) (fun c_35 => ?_)
      · have h := if_t h c_35
        refine lv_aload_n hx hb dX6_readNumber_55 rfl (lv_at hl 2 rfl) ?_
        refine va_get (ci := 6) (v := .ref a0_orders) (C := RX6) (T := TX6) (N := 21) hx hb hts iu_X6 hown hK.1 hP 0 rfl rfl 17 (by decide) (hts (.fieldLink RX6 51 "SheetMarksModel" "orders" "[I") (List.mem_of_getElem? (i := 3) rfl)) (fun _ h9 => h9) rfl dX6_readNumber_56 ?_
        refine lv_iload_n hx hb dX6_readNumber_59 rfl (lv_at hl 3 rfl) ?_
        refine lv_iconst (v := (1 : Int32)) hx hb dX6_readNumber_60 rfl ?_
        refine lv_iadd hx hb dX6_readNumber_61 ?_
        refine lv_iload_n hx hb dX6_readNumber_62 rfl (lv_at hl 1 rfl) ?_
        obtain ⟨g_63, h⟩ := gd_e h
        refine va_iast hx hb hK.1 hP hD hS 14 0 rfl rfl g_63 dX6_readNumber_63 (fun H locs hP hD hS => ?_)
        obtain ⟨c_orders_63, e_63⟩ : ∃ y : Nat → Int32, y = (upd c_orders (v1 + (1 : Int32)).toNatClampNeg r_3) := ⟨_, rfl⟩
        have h := lt'_e e_63 h
        have hP : va_P (dC, dI) vwCl (wX6 ck a0 a0_z a0_past a0_slots a0_isSaved a0_pad a0_yes a0_no a0_yesThen a0_noThen a0_yesRound a0_yesRule a0_noRound a0_noRule a0_orders c_z c_past c_slots c_isSaved c_pastMany c_pad c_typed c_yes c_no c_yesThen c_noThen c_yesRound c_yesRule c_noRound c_noRule c_rounds c_isMore c_orders_63 c_orderMany c_spot_3 c_bad_3) H := by subst e_63; exact hP
        have hD : va_D A (wX6 ck a0 a0_z a0_past a0_slots a0_isSaved a0_pad a0_yes a0_no a0_yesThen a0_noThen a0_yesRound a0_yesRule a0_noRound a0_noRule a0_orders c_z c_past c_slots c_isSaved c_pastMany c_pad c_typed c_yes c_no c_yesThen c_noThen c_yesRound c_yesRule c_noRound c_noRule c_rounds c_isMore c_orders_63 c_orderMany c_spot_3 c_bad_3) := by subst e_63; exact hD
        cases h
        exact eMv hx hb hr hlk hP hD hS dX6_readNumber_64
      · have h := if_f h c_35
        refine lv_aload_n hx hb dX6_readNumber_38 rfl (lv_at hl 2 rfl) ?_
        refine lv_dup hx hb dX6_readNumber_39 rfl ?_
        refine va_get (ci := 6) (v := .int c_spot_3) (C := RX6) (T := TX6) (N := 21) hx hb hts iu_X6 hown hK.1 hP 0 rfl rfl 19 (by decide) (hts (.fieldLink RX6 213 "SheetMarksModel" "spot" "I") (List.mem_of_getElem? (i := 2) rfl)) (fun _ h9 => h9) rfl dX6_readNumber_40 ?_
        refine lv_iconst (v := (1 : Int32)) hx hb dX6_readNumber_43 rfl ?_
        refine lv_iadd hx hb dX6_readNumber_44 ?_
        refine lv_topi (fun c_spot_45 e_45 => ?_)
        have h := lt'_e e_45 h
        refine va_put (ci := 6) (v := .int c_spot_45) (ty := .int) (C := RX6) (T := TX6) (N := 21) hx hb hts iu_X6 tyX6 tyX6_ok nmX6 hown hK.1 hP hD hS 0 rfl rfl 19 (by decide) (hts (.fieldLink RX6 213 "SheetMarksModel" "spot" "I") (List.mem_of_getElem? (i := 2) rfl)) (fun _ h9 => h9) rfl (by decide +kernel) rfl rfl (Nat.le_of_ble_eq_true rfl) dX6_readNumber_45 (fun H locs hP hD hS => ?_)
        have hP : va_P (dC, dI) vwCl (wX6 ck a0 a0_z a0_past a0_slots a0_isSaved a0_pad a0_yes a0_no a0_yesThen a0_noThen a0_yesRound a0_yesRule a0_noRound a0_noRule a0_orders c_z c_past c_slots c_isSaved c_pastMany c_pad c_typed c_yes c_no c_yesThen c_noThen c_yesRound c_yesRule c_noRound c_noRule c_rounds c_isMore c_orders c_orderMany c_spot_45 c_bad_3) H := hP
        have hD : va_D A (wX6 ck a0 a0_z a0_past a0_slots a0_isSaved a0_pad a0_yes a0_no a0_yesThen a0_noThen a0_yesRound a0_yesRule a0_noRound a0_noRule a0_orders c_z c_past c_slots c_isSaved c_pastMany c_pad c_typed c_yes c_no c_yesThen c_noThen c_yesRound c_yesRule c_noRound c_noRule c_rounds c_isMore c_orders c_orderMany c_spot_45 c_bad_3) := hD
        refine lv_bipush (v := (10 : Int32)) hx hb dX6_readNumber_48 rfl ?_
        refine lv_iload_n hx hb dX6_readNumber_50 rfl (lv_at hl 1 rfl) ?_
        refine lv_imul hx hb dX6_readNumber_51 ?_
        refine lv_iload_n hx hb dX6_readNumber_52 rfl (lv_at hl 0 rfl) ?_
        refine lv_iadd hx hb dX6_readNumber_53 ?_
        refine lv_topi (fun v2_54 e_54 => ?_)
        have h := lt'_e e_54 h
        refine lv_istore_n (lv' := [(2, .int v2_54), (3, .int v3_14), (0, .ref a0), (1, .int v1)]) hx hb dX6_readNumber_54 rfl hl (by decide) rfl (fun ls hl => ?_)
        refine lv_aload_n hx hb dX6_readNumber_55 rfl (lv_at hl 2 rfl) ?_
        refine va_get (ci := 6) (v := .ref a0_orders) (C := RX6) (T := TX6) (N := 21) hx hb hts iu_X6 hown hK.1 hP 0 rfl rfl 17 (by decide) (hts (.fieldLink RX6 51 "SheetMarksModel" "orders" "[I") (List.mem_of_getElem? (i := 3) rfl)) (fun _ h9 => h9) rfl dX6_readNumber_56 ?_
        refine lv_iload_n hx hb dX6_readNumber_59 rfl (lv_at hl 3 rfl) ?_
        refine lv_iconst (v := (1 : Int32)) hx hb dX6_readNumber_60 rfl ?_
        refine lv_iadd hx hb dX6_readNumber_61 ?_
        refine lv_iload_n hx hb dX6_readNumber_62 rfl (lv_at hl 0 rfl) ?_
        obtain ⟨g_63, h⟩ := gd_e h
        refine va_iast hx hb hK.1 hP hD hS 14 0 rfl rfl g_63 dX6_readNumber_63 (fun H locs hP hD hS => ?_)
        obtain ⟨c_orders_63, e_63⟩ : ∃ y : Nat → Int32, y = (upd c_orders (v1 + (1 : Int32)).toNatClampNeg v2_54) := ⟨_, rfl⟩
        have h := lt'_e e_63 h
        have hP : va_P (dC, dI) vwCl (wX6 ck a0 a0_z a0_past a0_slots a0_isSaved a0_pad a0_yes a0_no a0_yesThen a0_noThen a0_yesRound a0_yesRule a0_noRound a0_noRule a0_orders c_z c_past c_slots c_isSaved c_pastMany c_pad c_typed c_yes c_no c_yesThen c_noThen c_yesRound c_yesRule c_noRound c_noRule c_rounds c_isMore c_orders_63 c_orderMany c_spot_45 c_bad_3) H := by subst e_63; exact hP
        have hD : va_D A (wX6 ck a0 a0_z a0_past a0_slots a0_isSaved a0_pad a0_yes a0_no a0_yesThen a0_noThen a0_yesRound a0_yesRule a0_noRound a0_noRule a0_orders c_z c_past c_slots c_isSaved c_pastMany c_pad c_typed c_yes c_no c_yesThen c_noThen c_yesRound c_yesRule c_noRound c_noRule c_rounds c_isMore c_orders_63 c_orderMany c_spot_45 c_bad_3) := by subst e_63; exact hD
        cases h
        exact eMv hx hb hr hlk hP hD hS dX6_readNumber_64
noncomputable def f_X6_readOrder_J95 (c_pad : Nat → Int32) (c_typed : Int32) (c_orderMany : Int32) (v1_6 : Int32) (r_8 : Int32) (c_orders_18 : Nat → Int32) (t1_J95 : Int32) (t2_J95 : Int32) (c_spot_J95 : Int32) (c_bad_J95 : Int32) : Option ((Nat → Int32) × Int32 × Int32 × Int32) :=
  gd t1_J95 160 (lt' (upd c_orders_18 t1_J95.toNatClampNeg t2_J95) (fun c_orders_95 : Nat → Int32 => if r_8 = (104 : Int32) then (ob3 (f_X6_readCard c_pad c_typed c_orders_95 c_spot_J95 c_bad_J95 v1_6) (fun (c_orders_104 : Nat → Int32) (c_spot_104 : Int32) (c_bad_104 : Int32) => lt' (c_orderMany + (1 : Int32)) (fun c_orderMany_122 : Int32 => some (c_orders_104, c_orderMany_122, c_spot_104, c_bad_104)))) else (ob3 (f_X6_readThree c_pad c_typed c_orders_95 c_spot_J95 c_bad_J95 v1_6) (fun (c_orders_112 : Nat → Int32) (c_spot_112 : Int32) (c_bad_112 : Int32) => lt' (c_orderMany + (1 : Int32)) (fun c_orderMany_122 : Int32 => some (c_orders_112, c_orderMany_122, c_spot_112, c_bad_112))))))
noncomputable def f_X6_readOrder_J55 (c_pad : Nat → Int32) (c_typed : Int32) (c_orderMany : Int32) (c_spot : Int32) (c_bad : Int32) (v1_6 : Int32) (r_8 : Int32) (c_orders_18 : Nat → Int32) (t1_J55 : Int32) : Option ((Nat → Int32) × Int32 × Int32 × Int32) :=
  ob2 (f_X6_wants c_spot c_bad t1_J55) (fun (c_spot_55 : Int32) (c_bad_55 : Int32) => if r_8 = (45 : Int32) then (ob3 (f_X6_readNumber c_pad c_typed c_orders_18 c_spot_55 c_bad_55 v1_6) (fun (c_orders_66 : Nat → Int32) (c_spot_66 : Int32) (c_bad_66 : Int32) => lt' (c_orderMany + (1 : Int32)) (fun c_orderMany_122 : Int32 => some (c_orders_66, c_orderMany_122, c_spot_66, c_bad_66)))) else (if r_8 = (119 : Int32) then (f_X6_readOrder_J95 c_pad c_typed c_orderMany v1_6 r_8 c_orders_18 (v1_6 + (1 : Int32)) (-6 : Int32) c_spot_55 c_bad_55) else (ob3 (f_X6_digit c_pad c_typed c_spot_55 c_bad_55 (4 : Int32)) (fun (r_92 : Int32) (c_spot_92 : Int32) (c_bad_92 : Int32) => f_X6_readOrder_J95 c_pad c_typed c_orderMany v1_6 r_8 c_orders_18 (v1_6 + (1 : Int32)) r_92 c_spot_92 c_bad_92))))
noncomputable def f_X6_readOrder_J50 (c_pad : Nat → Int32) (c_typed : Int32) (c_orderMany : Int32) (c_spot : Int32) (c_bad : Int32) (v1_6 : Int32) (r_8 : Int32) (c_orders_18 : Nat → Int32) : Option ((Nat → Int32) × Int32 × Int32 × Int32) :=
  f_X6_readOrder_J55 c_pad c_typed c_orderMany c_spot c_bad v1_6 r_8 c_orders_18 (1 : Int32)
noncomputable def f_X6_readOrder (c_pad : Nat → Int32) (c_typed : Int32) (c_orders : Nat → Int32) (c_orderMany : Int32) (c_spot : Int32) (c_bad : Int32) : Option ((Nat → Int32) × Int32 × Int32 × Int32) :=
  lt' ((5 : Int32) * c_orderMany) (fun v1_6 : Int32 => ob1 (f_X6_letter c_pad c_typed c_spot) (fun (r_8 : Int32) => gd v1_6 160 (lt' (upd c_orders v1_6.toNatClampNeg r_8) (fun c_orders_18 : Nat → Int32 => if r_8 = (104 : Int32) then (f_X6_readOrder_J50 c_pad c_typed c_orderMany c_spot c_bad v1_6 r_8 c_orders_18) else (if r_8 = (114 : Int32) then (f_X6_readOrder_J50 c_pad c_typed c_orderMany c_spot c_bad v1_6 r_8 c_orders_18) else (if r_8 = (115 : Int32) then (f_X6_readOrder_J50 c_pad c_typed c_orderMany c_spot c_bad v1_6 r_8 c_orders_18) else (if r_8 = (119 : Int32) then (f_X6_readOrder_J50 c_pad c_typed c_orderMany c_spot c_bad v1_6 r_8 c_orders_18) else (if r_8 = (45 : Int32) then (f_X6_readOrder_J50 c_pad c_typed c_orderMany c_spot c_bad v1_6 r_8 c_orders_18) else (f_X6_readOrder_J55 c_pad c_typed c_orderMany c_spot c_bad v1_6 r_8 c_orders_18 (0 : Int32))))))))))
set_option maxHeartbeats 4000000 in
set_option maxRecDepth 100000 in
theorem c_X6_readOrder (l : Launch) (dC : Nat → ClassId) (dI : Nat → Nat → Nat) (ck : Nat → ClassId) (a0 a0_z a0_past a0_slots a0_isSaved a0_pad a0_yes a0_no a0_yesThen a0_noThen a0_yesRound a0_yesRule a0_noRound a0_noRule a0_orders : Nat) (c_z : Nat → Int32) (c_past : Nat → Int32) (c_slots : Nat → Int32) (c_isSaved : Nat → Int32) (c_pastMany : Int32) (c_pad : Nat → Int32) (c_typed : Int32) (c_yes : Nat → Int32) (c_no : Nat → Int32) (c_yesThen : Nat → Int32) (c_noThen : Nat → Int32) (c_yesRound : Nat → Int32) (c_yesRule : Nat → Int32) (c_noRound : Nat → Int32) (c_noRule : Nat → Int32) (c_rounds : Int32) (c_isMore : Int32) (c_orders : Nat → Int32) (c_orderMany : Int32) (c_spot : Int32) (c_bad : Int32) (o0 : Nat → Int32) (o1 : Int32) (o2 : Int32) (o3 : Int32) (h : f_X6_readOrder c_pad c_typed c_orders c_orderMany c_spot c_bad = some (o0, o1, o2, o3)) : MV l yX6_readOrder wsX6_readOrder ({ frames := 3, cells := 0, slots := 0, locals := 67 }) [.ref a0] (dC, dI) ck (wX6 ck a0 a0_z a0_past a0_slots a0_isSaved a0_pad a0_yes a0_no a0_yesThen a0_noThen a0_yesRound a0_yesRule a0_noRound a0_noRule a0_orders c_z c_past c_slots c_isSaved c_pastMany c_pad c_typed c_yes c_no c_yesThen c_noThen c_yesRound c_yesRule c_noRound c_noRule c_rounds c_isMore c_orders c_orderMany c_spot c_bad) (wX6 ck a0 a0_z a0_past a0_slots a0_isSaved a0_pad a0_yes a0_no a0_yesThen a0_noThen a0_yesRound a0_yesRule a0_noRound a0_noRule a0_orders c_z c_past c_slots c_isSaved c_pastMany c_pad c_typed c_yes c_no c_yesThen c_noThen c_yesRound c_yesRule c_noRound c_noRule c_rounds c_isMore o0 o1 o2 o3) := by
  refine MV.ofW (cc := cX6_readOrder) (maxL := 3) (ret := none) (by decide +kernel) rfl (Nat.le_of_ble_eq_true rfl) ?_
  intro p e s m below meth c hx hb hr hml hts hown hlk hK hP A hA hD ls hl
  have hS : va_S A s.heap s.heap [] := va_S.rf
  have hown : s.vm.findClass RX6 = some m.cls := hown
  have hl : lv_has ls 3 [(0, .ref a0)] := hl
  have iu_X6 : ∀ w ∈ u_ws RX6 TX6 21, w ∈ wsX6_readOrder := fun w h => List.mem_cons_of_mem _ (List.mem_append_right _ h)
  unfold f_X6_readOrder at h
  refine lv_iconst (v := (5 : Int32)) hx hb dX6_readOrder_0 rfl ?_
  refine lv_aload_n hx hb dX6_readOrder_1 rfl (lv_at hl 0 rfl) ?_
  refine va_get (ci := 6) (v := .int c_orderMany) (C := RX6) (T := TX6) (N := 21) hx hb hts iu_X6 hown hK.1 hP 0 rfl rfl 18 (by decide) (hts (.fieldLink RX6 228 "SheetMarksModel" "orderMany" "I") (List.mem_of_getElem? (i := 1) rfl)) (fun _ h9 => h9) rfl dX6_readOrder_2 ?_
  refine lv_imul hx hb dX6_readOrder_5 ?_
  refine lv_topi (fun v1_6 e_6 => ?_)
  have h := lt'_e e_6 h
  refine lv_istore_n (lv' := [(1, .int v1_6), (0, .ref a0)]) hx hb dX6_readOrder_6 rfl hl (by decide) rfl (fun ls hl => ?_)
  refine lv_aload_n hx hb dX6_readOrder_7 rfl (lv_at hl 1 rfl) ?_
  obtain ⟨r_8, q_8, h⟩ := ob1_e h
  refine cRV (wc := wX6 ck a0 a0_z a0_past a0_slots a0_isSaved a0_pad a0_yes a0_no a0_yesThen a0_noThen a0_yesRound a0_yesRule a0_noRound a0_noRule a0_orders c_z c_past c_slots c_isSaved c_pastMany c_pad c_typed c_yes c_no c_yesThen c_noThen c_yesRound c_yesRule c_noRound c_noRule c_rounds c_isMore c_orders c_orderMany c_spot c_bad) ⟨hx, hb, hml, hown, hts⟩ hK hP [0, 1, 2, 3, 4, 5, 6, 7, 8, 9, 10, 11, 12, 13, 14] rfl (c_X6_letter l dC dI ck a0 a0_z a0_past a0_slots a0_isSaved a0_pad a0_yes a0_no a0_yesThen a0_noThen a0_yesRound a0_yesRule a0_noRound a0_noRule a0_orders c_z c_past c_slots c_isSaved c_pastMany c_pad c_typed c_yes c_no c_yesThen c_noThen c_yesRound c_yesRule c_noRound c_noRule c_rounds c_isMore c_orders c_orderMany c_spot c_bad r_8 q_8) (cwV 0 hts gX6_readOrder_X6_letter rfl rfl rfl (by decide +kernel) ⟨Nat.le_of_ble_eq_true rfl, Nat.le_of_ble_eq_true rfl⟩) 0 rfl rfl rfl hl.1 rfl (Nat.le_of_ble_eq_true rfl) dX6_readOrder_8 ⟨Nat.zero_le _, Nat.zero_le _⟩ ?_
  refine lv_istore_n (lv' := [(2, .int r_8), (1, .int v1_6), (0, .ref a0)]) hx hb dX6_readOrder_11 rfl hl (by decide) rfl (fun ls hl => ?_)
  refine lv_aload_n hx hb dX6_readOrder_12 rfl (lv_at hl 2 rfl) ?_
  refine va_get (ci := 6) (v := .ref a0_orders) (C := RX6) (T := TX6) (N := 21) hx hb hts iu_X6 hown hK.1 hP 0 rfl rfl 17 (by decide) (hts (.fieldLink RX6 51 "SheetMarksModel" "orders" "[I") (List.mem_of_getElem? (i := 2) rfl)) (fun _ h9 => h9) rfl dX6_readOrder_13 ?_
  refine lv_iload_n hx hb dX6_readOrder_16 rfl (lv_at hl 1 rfl) ?_
  refine lv_iload_n hx hb dX6_readOrder_17 rfl (lv_at hl 0 rfl) ?_
  obtain ⟨g_18, h⟩ := gd_e h
  refine va_iast hx hb hK.1 hP hD hS 14 0 rfl rfl g_18 dX6_readOrder_18 (fun H locs hP hD hS => ?_)
  obtain ⟨c_orders_18, e_18⟩ : ∃ y : Nat → Int32, y = (upd c_orders v1_6.toNatClampNeg r_8) := ⟨_, rfl⟩
  have h := lt'_e e_18 h
  have hP : va_P (dC, dI) vwCl (wX6 ck a0 a0_z a0_past a0_slots a0_isSaved a0_pad a0_yes a0_no a0_yesThen a0_noThen a0_yesRound a0_yesRule a0_noRound a0_noRule a0_orders c_z c_past c_slots c_isSaved c_pastMany c_pad c_typed c_yes c_no c_yesThen c_noThen c_yesRound c_yesRule c_noRound c_noRule c_rounds c_isMore c_orders_18 c_orderMany c_spot c_bad) H := by subst e_18; exact hP
  have hD : va_D A (wX6 ck a0 a0_z a0_past a0_slots a0_isSaved a0_pad a0_yes a0_no a0_yesThen a0_noThen a0_yesRound a0_yesRule a0_noRound a0_noRule a0_orders c_z c_past c_slots c_isSaved c_pastMany c_pad c_typed c_yes c_no c_yesThen c_noThen c_yesRound c_yesRule c_noRound c_noRule c_rounds c_isMore c_orders_18 c_orderMany c_spot c_bad) := by subst e_18; exact hD
  refine lv_aload_n hx hb dX6_readOrder_19 rfl (lv_at hl 2 rfl) ?_
  refine lv_iload_n hx hb dX6_readOrder_20 rfl (lv_at hl 0 rfl) ?_
  refine lv_bipush (v := (104 : Int32)) hx hb dX6_readOrder_21 rfl ?_
  have hJ55 : ∀ (t1_J55 : Int32), f_X6_readOrder_J55 c_pad c_typed c_orderMany c_spot c_bad v1_6 r_8 c_orders_18 t1_J55 = some (o0, o1, o2, o3) → ∀ (H : Heap) (locs : List Loc), va_P (dC, dI) vwCl (wX6 ck a0 a0_z a0_past a0_slots a0_isSaved a0_pad a0_yes a0_no a0_yesThen a0_noThen a0_yesRound a0_yesRule a0_noRound a0_noRule a0_orders c_z c_past c_slots c_isSaved c_pastMany c_pad c_typed c_yes c_no c_yesThen c_noThen c_yesRound c_yesRule c_noRound c_noRule c_rounds c_isMore c_orders_18 c_orderMany c_spot c_bad) H → va_D A (wX6 ck a0 a0_z a0_past a0_slots a0_isSaved a0_pad a0_yes a0_no a0_yesThen a0_noThen a0_yesRound a0_yesRule a0_noRound a0_noRule a0_orders c_z c_past c_slots c_isSaved c_pastMany c_pad c_typed c_yes c_no c_yesThen c_noThen c_yesRound c_yesRule c_noRound c_noRule c_rounds c_isMore c_orders_18 c_orderMany c_spot c_bad) → va_S A s.heap H locs → ∀ ls : Array Slot, lv_has ls 3 [(2, .int r_8), (1, .int v1_6), (0, .ref a0)] → W p l e (headSpec wsX6_readOrder ({ frames := 3, cells := 0, slots := 0, locals := 67 })).room s m [.ref a0].toArray below meth c H locs 0 0 (MQ below (QV (dC, dI) (wX6 ck a0 a0_z a0_past a0_slots a0_isSaved a0_pad a0_yes a0_no a0_yesThen a0_noThen a0_yesRound a0_yesRule a0_noRound a0_noRule a0_orders c_z c_past c_slots c_isSaved c_pastMany c_pad c_typed c_yes c_no c_yesThen c_noThen c_yesRound c_yesRule c_noRound c_noRule c_rounds c_isMore o0 o1 o2 o3) A) [.ref a0].toArray s 0 0 A) (F0 m 55 ls [.int t1_J55, .ref a0]) := by
    intro t1_J55 h H locs hP hD hS ls hl
    unfold f_X6_readOrder_J55 at h
    obtain ⟨c_spot_55, c_bad_55, q_55, h⟩ := ob2_e h
    refine cMV (wc := wX6 ck a0 a0_z a0_past a0_slots a0_isSaved a0_pad a0_yes a0_no a0_yesThen a0_noThen a0_yesRound a0_yesRule a0_noRound a0_noRule a0_orders c_z c_past c_slots c_isSaved c_pastMany c_pad c_typed c_yes c_no c_yesThen c_noThen c_yesRound c_yesRule c_noRound c_noRule c_rounds c_isMore c_orders_18 c_orderMany c_spot c_bad) (wr := []) (w1 := wX6 ck a0 a0_z a0_past a0_slots a0_isSaved a0_pad a0_yes a0_no a0_yesThen a0_noThen a0_yesRound a0_yesRule a0_noRound a0_noRule a0_orders c_z c_past c_slots c_isSaved c_pastMany c_pad c_typed c_yes c_no c_yesThen c_noThen c_yesRound c_yesRule c_noRound c_noRule c_rounds c_isMore c_orders_18 c_orderMany c_spot_55 c_bad_55) (wn := wX6 ck a0 a0_z a0_past a0_slots a0_isSaved a0_pad a0_yes a0_no a0_yesThen a0_noThen a0_yesRound a0_yesRule a0_noRound a0_noRule a0_orders c_z c_past c_slots c_isSaved c_pastMany c_pad c_typed c_yes c_no c_yesThen c_noThen c_yesRound c_yesRule c_noRound c_noRule c_rounds c_isMore c_orders_18 c_orderMany c_spot_55 c_bad_55) ⟨hx, hb, hml, hown, hts⟩ hK hP hD hS hA [0, 1, 2, 3, 4, 5, 6, 7, 8, 9, 10, 11, 12, 13, 14] [] [0, 1, 2, 3, 4, 5, 6, 7, 8, 9, 10, 11, 12, 13, 14] rfl (by decide) rfl (by decide) (by decide) rfl (by decide) (c_X6_wants l dC dI ck a0 a0_z a0_past a0_slots a0_isSaved a0_pad a0_yes a0_no a0_yesThen a0_noThen a0_yesRound a0_yesRule a0_noRound a0_noRule a0_orders c_z c_past c_slots c_isSaved c_pastMany c_pad c_typed c_yes c_no c_yesThen c_noThen c_yesRound c_yesRule c_noRound c_noRule c_rounds c_isMore c_orders_18 c_orderMany c_spot c_bad t1_J55 c_spot_55 c_bad_55 q_55) (cwV 1 hts gX6_readOrder_X6_wants rfl rfl rfl (by decide +kernel) ⟨Nat.le_of_ble_eq_true rfl, Nat.le_of_ble_eq_true rfl⟩) 0 rfl rfl rfl hl.1 rfl (Nat.le_of_ble_eq_true rfl) dX6_readOrder_55 ⟨Nat.zero_le _, Nat.zero_le _⟩ (fun H locs hP hD hS => ?_)
    refine lv_iload_n hx hb dX6_readOrder_58 rfl (lv_at hl 0 rfl) ?_
    refine lv_bipush (v := (45 : Int32)) hx hb dX6_readOrder_59 rfl ?_
    refine lv_icmp_ne (tgt := 72) hx hb dX6_readOrder_61 (by decide) (fun c_61 => ?_) (fun c_61 => ?_)
    · have h := if_f h c_61
      refine lv_aload_n hx hb dX6_readOrder_72 rfl (lv_at hl 2 rfl) ?_
      refine va_get (ci := 6) (v := .ref a0_orders) (C := RX6) (T := TX6) (N := 21) hx hb hts iu_X6 hown hK.1 hP 0 rfl rfl 17 (by decide) (hts (.fieldLink RX6 51 "SheetMarksModel" "orders" "[I") (List.mem_of_getElem? (i := 2) rfl)) (fun _ h9 => h9) rfl dX6_readOrder_73 ?_
      refine lv_iload_n hx hb dX6_readOrder_76 rfl (lv_at hl 1 rfl) ?_
      refine lv_iconst (v := (1 : Int32)) hx hb dX6_readOrder_77 rfl ?_
      refine lv_iadd hx hb dX6_readOrder_78 ?_
      refine lv_iload_n hx hb dX6_readOrder_79 rfl (lv_at hl 0 rfl) ?_
      refine lv_bipush (v := (119 : Int32)) hx hb dX6_readOrder_80 rfl ?_
      have hJ95 : ∀ (t1_J95 : Int32) (t2_J95 : Int32) (c_spot_J95 : Int32) (c_bad_J95 : Int32), f_X6_readOrder_J95 c_pad c_typed c_orderMany v1_6 r_8 c_orders_18 t1_J95 t2_J95 c_spot_J95 c_bad_J95 = some (o0, o1, o2, o3) → ∀ (H : Heap) (locs : List Loc), va_P (dC, dI) vwCl (wX6 ck a0 a0_z a0_past a0_slots a0_isSaved a0_pad a0_yes a0_no a0_yesThen a0_noThen a0_yesRound a0_yesRule a0_noRound a0_noRule a0_orders c_z c_past c_slots c_isSaved c_pastMany c_pad c_typed c_yes c_no c_yesThen c_noThen c_yesRound c_yesRule c_noRound c_noRule c_rounds c_isMore c_orders_18 c_orderMany c_spot_J95 c_bad_J95) H → va_D A (wX6 ck a0 a0_z a0_past a0_slots a0_isSaved a0_pad a0_yes a0_no a0_yesThen a0_noThen a0_yesRound a0_yesRule a0_noRound a0_noRule a0_orders c_z c_past c_slots c_isSaved c_pastMany c_pad c_typed c_yes c_no c_yesThen c_noThen c_yesRound c_yesRule c_noRound c_noRule c_rounds c_isMore c_orders_18 c_orderMany c_spot_J95 c_bad_J95) → va_S A s.heap H locs → ∀ ls : Array Slot, lv_has ls 3 [(2, .int r_8), (1, .int v1_6), (0, .ref a0)] → W p l e (headSpec wsX6_readOrder ({ frames := 3, cells := 0, slots := 0, locals := 67 })).room s m [.ref a0].toArray below meth c H locs 0 0 (MQ below (QV (dC, dI) (wX6 ck a0 a0_z a0_past a0_slots a0_isSaved a0_pad a0_yes a0_no a0_yesThen a0_noThen a0_yesRound a0_yesRule a0_noRound a0_noRule a0_orders c_z c_past c_slots c_isSaved c_pastMany c_pad c_typed c_yes c_no c_yesThen c_noThen c_yesRound c_yesRule c_noRound c_noRule c_rounds c_isMore o0 o1 o2 o3) A) [.ref a0].toArray s 0 0 A) (F0 m 95 ls [.int t2_J95, .int t1_J95, .ref a0_orders]) := by
        intro t1_J95 t2_J95 c_spot_J95 c_bad_J95 h H locs hP hD hS ls hl
        unfold f_X6_readOrder_J95 at h
        obtain ⟨g_95, h⟩ := gd_e h
        refine va_iast hx hb hK.1 hP hD hS 14 0 rfl rfl g_95 dX6_readOrder_95 (fun H locs hP hD hS => ?_)
        obtain ⟨c_orders_95, e_95⟩ : ∃ y : Nat → Int32, y = (upd c_orders_18 t1_J95.toNatClampNeg t2_J95) := ⟨_, rfl⟩
        have h := lt'_e e_95 h
        have hP : va_P (dC, dI) vwCl (wX6 ck a0 a0_z a0_past a0_slots a0_isSaved a0_pad a0_yes a0_no a0_yesThen a0_noThen a0_yesRound a0_yesRule a0_noRound a0_noRule a0_orders c_z c_past c_slots c_isSaved c_pastMany c_pad c_typed c_yes c_no c_yesThen c_noThen c_yesRound c_yesRule c_noRound c_noRule c_rounds c_isMore c_orders_95 c_orderMany c_spot_J95 c_bad_J95) H := by subst e_95; exact hP
        have hD : va_D A (wX6 ck a0 a0_z a0_past a0_slots a0_isSaved a0_pad a0_yes a0_no a0_yesThen a0_noThen a0_yesRound a0_yesRule a0_noRound a0_noRule a0_orders c_z c_past c_slots c_isSaved c_pastMany c_pad c_typed c_yes c_no c_yesThen c_noThen c_yesRound c_yesRule c_noRound c_noRule c_rounds c_isMore c_orders_95 c_orderMany c_spot_J95 c_bad_J95) := by subst e_95; exact hD
        refine lv_iload_n hx hb dX6_readOrder_96 rfl (lv_at hl 0 rfl) ?_
        refine lv_bipush (v := (104 : Int32)) hx hb dX6_readOrder_97 rfl ?_
        refine lv_icmp_ne (tgt := 110) hx hb dX6_readOrder_99 (by decide) (fun c_99 => ?_) (fun c_99 => ?_)
        · have h := if_f h c_99
          refine lv_aload_n hx hb dX6_readOrder_110 rfl (lv_at hl 2 rfl) ?_
          refine lv_iload_n hx hb dX6_readOrder_111 rfl (lv_at hl 1 rfl) ?_
          obtain ⟨c_orders_112, c_spot_112, c_bad_112, q_112, h⟩ := ob3_e h
          refine cMV (wc := wX6 ck a0 a0_z a0_past a0_slots a0_isSaved a0_pad a0_yes a0_no a0_yesThen a0_noThen a0_yesRound a0_yesRule a0_noRound a0_noRule a0_orders c_z c_past c_slots c_isSaved c_pastMany c_pad c_typed c_yes c_no c_yesThen c_noThen c_yesRound c_yesRule c_noRound c_noRule c_rounds c_isMore c_orders_95 c_orderMany c_spot_J95 c_bad_J95) (wr := []) (w1 := wX6 ck a0 a0_z a0_past a0_slots a0_isSaved a0_pad a0_yes a0_no a0_yesThen a0_noThen a0_yesRound a0_yesRule a0_noRound a0_noRule a0_orders c_z c_past c_slots c_isSaved c_pastMany c_pad c_typed c_yes c_no c_yesThen c_noThen c_yesRound c_yesRule c_noRound c_noRule c_rounds c_isMore c_orders_112 c_orderMany c_spot_112 c_bad_112) (wn := wX6 ck a0 a0_z a0_past a0_slots a0_isSaved a0_pad a0_yes a0_no a0_yesThen a0_noThen a0_yesRound a0_yesRule a0_noRound a0_noRule a0_orders c_z c_past c_slots c_isSaved c_pastMany c_pad c_typed c_yes c_no c_yesThen c_noThen c_yesRound c_yesRule c_noRound c_noRule c_rounds c_isMore c_orders_112 c_orderMany c_spot_112 c_bad_112) ⟨hx, hb, hml, hown, hts⟩ hK hP hD hS hA [0, 1, 2, 3, 4, 5, 6, 7, 8, 9, 10, 11, 12, 13, 14] [] [0, 1, 2, 3, 4, 5, 6, 7, 8, 9, 10, 11, 12, 13, 14] rfl (by decide) rfl (by decide) (by decide) rfl (by decide) (c_X6_readThree l dC dI ck a0 a0_z a0_past a0_slots a0_isSaved a0_pad a0_yes a0_no a0_yesThen a0_noThen a0_yesRound a0_yesRule a0_noRound a0_noRule a0_orders c_z c_past c_slots c_isSaved c_pastMany c_pad c_typed c_yes c_no c_yesThen c_noThen c_yesRound c_yesRule c_noRound c_noRule c_rounds c_isMore c_orders_95 c_orderMany c_spot_J95 c_bad_J95 v1_6 c_orders_112 c_spot_112 c_bad_112 q_112) (cwV 1 hts gX6_readOrder_X6_readThree rfl rfl rfl (by decide +kernel) ⟨Nat.le_of_ble_eq_true rfl, Nat.le_of_ble_eq_true rfl⟩) 0 rfl rfl rfl hl.1 rfl (Nat.le_of_ble_eq_true rfl) dX6_readOrder_112 ⟨Nat.zero_le _, Nat.zero_le _⟩ (fun H locs hP hD hS => ?_)
          refine lv_aload_n hx hb dX6_readOrder_115 rfl (lv_at hl 2 rfl) ?_
          refine lv_dup hx hb dX6_readOrder_116 rfl ?_
          refine va_get (ci := 6) (v := .int c_orderMany) (C := RX6) (T := TX6) (N := 21) hx hb hts iu_X6 hown hK.1 hP 0 rfl rfl 18 (by decide) (hts (.fieldLink RX6 228 "SheetMarksModel" "orderMany" "I") (List.mem_of_getElem? (i := 1) rfl)) (fun _ h9 => h9) rfl dX6_readOrder_117 ?_
          refine lv_iconst (v := (1 : Int32)) hx hb dX6_readOrder_120 rfl ?_
          refine lv_iadd hx hb dX6_readOrder_121 ?_
          refine lv_topi (fun c_orderMany_122 e_122 => ?_)
          have h := lt'_e e_122 h
          refine va_put (ci := 6) (v := .int c_orderMany_122) (ty := .int) (C := RX6) (T := TX6) (N := 21) hx hb hts iu_X6 tyX6 tyX6_ok nmX6 hown hK.1 hP hD hS 0 rfl rfl 18 (by decide) (hts (.fieldLink RX6 228 "SheetMarksModel" "orderMany" "I") (List.mem_of_getElem? (i := 1) rfl)) (fun _ h9 => h9) rfl (by decide +kernel) rfl rfl (Nat.le_of_ble_eq_true rfl) dX6_readOrder_122 (fun H locs hP hD hS => ?_)
          have hP : va_P (dC, dI) vwCl (wX6 ck a0 a0_z a0_past a0_slots a0_isSaved a0_pad a0_yes a0_no a0_yesThen a0_noThen a0_yesRound a0_yesRule a0_noRound a0_noRule a0_orders c_z c_past c_slots c_isSaved c_pastMany c_pad c_typed c_yes c_no c_yesThen c_noThen c_yesRound c_yesRule c_noRound c_noRule c_rounds c_isMore c_orders_112 c_orderMany_122 c_spot_112 c_bad_112) H := hP
          have hD : va_D A (wX6 ck a0 a0_z a0_past a0_slots a0_isSaved a0_pad a0_yes a0_no a0_yesThen a0_noThen a0_yesRound a0_yesRule a0_noRound a0_noRule a0_orders c_z c_past c_slots c_isSaved c_pastMany c_pad c_typed c_yes c_no c_yesThen c_noThen c_yesRound c_yesRule c_noRound c_noRule c_rounds c_isMore c_orders_112 c_orderMany_122 c_spot_112 c_bad_112) := hD
          cases h
          exact eMv hx hb hr hlk hP hD hS dX6_readOrder_125
        · have h := if_t h c_99
          refine lv_aload_n hx hb dX6_readOrder_102 rfl (lv_at hl 2 rfl) ?_
          refine lv_iload_n hx hb dX6_readOrder_103 rfl (lv_at hl 1 rfl) ?_
          obtain ⟨c_orders_104, c_spot_104, c_bad_104, q_104, h⟩ := ob3_e h
          refine cMV (wc := wX6 ck a0 a0_z a0_past a0_slots a0_isSaved a0_pad a0_yes a0_no a0_yesThen a0_noThen a0_yesRound a0_yesRule a0_noRound a0_noRule a0_orders c_z c_past c_slots c_isSaved c_pastMany c_pad c_typed c_yes c_no c_yesThen c_noThen c_yesRound c_yesRule c_noRound c_noRule c_rounds c_isMore c_orders_95 c_orderMany c_spot_J95 c_bad_J95) (wr := []) (w1 := wX6 ck a0 a0_z a0_past a0_slots a0_isSaved a0_pad a0_yes a0_no a0_yesThen a0_noThen a0_yesRound a0_yesRule a0_noRound a0_noRule a0_orders c_z c_past c_slots c_isSaved c_pastMany c_pad c_typed c_yes c_no c_yesThen c_noThen c_yesRound c_yesRule c_noRound c_noRule c_rounds c_isMore c_orders_104 c_orderMany c_spot_104 c_bad_104) (wn := wX6 ck a0 a0_z a0_past a0_slots a0_isSaved a0_pad a0_yes a0_no a0_yesThen a0_noThen a0_yesRound a0_yesRule a0_noRound a0_noRule a0_orders c_z c_past c_slots c_isSaved c_pastMany c_pad c_typed c_yes c_no c_yesThen c_noThen c_yesRound c_yesRule c_noRound c_noRule c_rounds c_isMore c_orders_104 c_orderMany c_spot_104 c_bad_104) ⟨hx, hb, hml, hown, hts⟩ hK hP hD hS hA [0, 1, 2, 3, 4, 5, 6, 7, 8, 9, 10, 11, 12, 13, 14] [] [0, 1, 2, 3, 4, 5, 6, 7, 8, 9, 10, 11, 12, 13, 14] rfl (by decide) rfl (by decide) (by decide) rfl (by decide) (c_X6_readCard l dC dI ck a0 a0_z a0_past a0_slots a0_isSaved a0_pad a0_yes a0_no a0_yesThen a0_noThen a0_yesRound a0_yesRule a0_noRound a0_noRule a0_orders c_z c_past c_slots c_isSaved c_pastMany c_pad c_typed c_yes c_no c_yesThen c_noThen c_yesRound c_yesRule c_noRound c_noRule c_rounds c_isMore c_orders_95 c_orderMany c_spot_J95 c_bad_J95 v1_6 c_orders_104 c_spot_104 c_bad_104 q_104) (cwV 1 hts gX6_readOrder_X6_readCard rfl rfl rfl (by decide +kernel) ⟨Nat.le_of_ble_eq_true rfl, Nat.le_of_ble_eq_true rfl⟩) 0 rfl rfl rfl hl.1 rfl (Nat.le_of_ble_eq_true rfl) dX6_readOrder_104 ⟨Nat.zero_le _, Nat.zero_le _⟩ (fun H locs hP hD hS => ?_)
          refine lv_goto (tgt := 115) hx hb dX6_readOrder_107 (by decide) ?_
          refine lv_aload_n hx hb dX6_readOrder_115 rfl (lv_at hl 2 rfl) ?_
          refine lv_dup hx hb dX6_readOrder_116 rfl ?_
          refine va_get (ci := 6) (v := .int c_orderMany) (C := RX6) (T := TX6) (N := 21) hx hb hts iu_X6 hown hK.1 hP 0 rfl rfl 18 (by decide) (hts (.fieldLink RX6 228 "SheetMarksModel" "orderMany" "I") (List.mem_of_getElem? (i := 1) rfl)) (fun _ h9 => h9) rfl dX6_readOrder_117 ?_
          refine lv_iconst (v := (1 : Int32)) hx hb dX6_readOrder_120 rfl ?_
          refine lv_iadd hx hb dX6_readOrder_121 ?_
          refine lv_topi (fun c_orderMany_122 e_122 => ?_)
          have h := lt'_e e_122 h
          refine va_put (ci := 6) (v := .int c_orderMany_122) (ty := .int) (C := RX6) (T := TX6) (N := 21) hx hb hts iu_X6 tyX6 tyX6_ok nmX6 hown hK.1 hP hD hS 0 rfl rfl 18 (by decide) (hts (.fieldLink RX6 228 "SheetMarksModel" "orderMany" "I") (List.mem_of_getElem? (i := 1) rfl)) (fun _ h9 => h9) rfl (by decide +kernel) rfl rfl (Nat.le_of_ble_eq_true rfl) dX6_readOrder_122 (fun H locs hP hD hS => ?_)
          have hP : va_P (dC, dI) vwCl (wX6 ck a0 a0_z a0_past a0_slots a0_isSaved a0_pad a0_yes a0_no a0_yesThen a0_noThen a0_yesRound a0_yesRule a0_noRound a0_noRule a0_orders c_z c_past c_slots c_isSaved c_pastMany c_pad c_typed c_yes c_no c_yesThen c_noThen c_yesRound c_yesRule c_noRound c_noRule c_rounds c_isMore c_orders_104 c_orderMany_122 c_spot_104 c_bad_104) H := hP
          have hD : va_D A (wX6 ck a0 a0_z a0_past a0_slots a0_isSaved a0_pad a0_yes a0_no a0_yesThen a0_noThen a0_yesRound a0_yesRule a0_noRound a0_noRule a0_orders c_z c_past c_slots c_isSaved c_pastMany c_pad c_typed c_yes c_no c_yesThen c_noThen c_yesRound c_yesRule c_noRound c_noRule c_rounds c_isMore c_orders_104 c_orderMany_122 c_spot_104 c_bad_104) := hD
          cases h
          exact eMv hx hb hr hlk hP hD hS dX6_readOrder_125
      refine lv_icmp_ne (tgt := 90) hx hb dX6_readOrder_82 (by decide) (fun c_82 => ?_) (fun c_82 => ?_)
      · have h := if_f h c_82
        refine lv_aload_n hx hb dX6_readOrder_90 rfl (lv_at hl 2 rfl) ?_
        refine lv_iconst (v := (4 : Int32)) hx hb dX6_readOrder_91 rfl ?_
        obtain ⟨r_92, c_spot_92, c_bad_92, q_92, h⟩ := ob3_e h
        refine cMI (wc := wX6 ck a0 a0_z a0_past a0_slots a0_isSaved a0_pad a0_yes a0_no a0_yesThen a0_noThen a0_yesRound a0_yesRule a0_noRound a0_noRule a0_orders c_z c_past c_slots c_isSaved c_pastMany c_pad c_typed c_yes c_no c_yesThen c_noThen c_yesRound c_yesRule c_noRound c_noRule c_rounds c_isMore c_orders_18 c_orderMany c_spot_55 c_bad_55) (wr := []) (w1 := wX6 ck a0 a0_z a0_past a0_slots a0_isSaved a0_pad a0_yes a0_no a0_yesThen a0_noThen a0_yesRound a0_yesRule a0_noRound a0_noRule a0_orders c_z c_past c_slots c_isSaved c_pastMany c_pad c_typed c_yes c_no c_yesThen c_noThen c_yesRound c_yesRule c_noRound c_noRule c_rounds c_isMore c_orders_18 c_orderMany c_spot_92 c_bad_92) (wn := wX6 ck a0 a0_z a0_past a0_slots a0_isSaved a0_pad a0_yes a0_no a0_yesThen a0_noThen a0_yesRound a0_yesRule a0_noRound a0_noRule a0_orders c_z c_past c_slots c_isSaved c_pastMany c_pad c_typed c_yes c_no c_yesThen c_noThen c_yesRound c_yesRule c_noRound c_noRule c_rounds c_isMore c_orders_18 c_orderMany c_spot_92 c_bad_92) ⟨hx, hb, hml, hown, hts⟩ hK hP hD hS hA [0, 1, 2, 3, 4, 5, 6, 7, 8, 9, 10, 11, 12, 13, 14] [] [0, 1, 2, 3, 4, 5, 6, 7, 8, 9, 10, 11, 12, 13, 14] rfl (by decide) rfl (by decide) (by decide) rfl (by decide) (c_X6_digit l dC dI ck a0 a0_z a0_past a0_slots a0_isSaved a0_pad a0_yes a0_no a0_yesThen a0_noThen a0_yesRound a0_yesRule a0_noRound a0_noRule a0_orders c_z c_past c_slots c_isSaved c_pastMany c_pad c_typed c_yes c_no c_yesThen c_noThen c_yesRound c_yesRule c_noRound c_noRule c_rounds c_isMore c_orders_18 c_orderMany c_spot_55 c_bad_55 (4 : Int32) r_92 c_spot_92 c_bad_92 q_92) (cwV 1 hts gX6_readOrder_X6_digit rfl rfl rfl (by decide +kernel) ⟨Nat.le_of_ble_eq_true rfl, Nat.le_of_ble_eq_true rfl⟩) 0 rfl rfl rfl hl.1 rfl (Nat.le_of_ble_eq_true rfl) dX6_readOrder_92 ⟨Nat.zero_le _, Nat.zero_le _⟩ (fun H locs hP hD hS => ?_)
        exact hJ95 _ _ _ _ h _ _ hP hD hS _ (lv_sub hl [0, 1, 2] rfl)
      · have h := if_t h c_82
        refine lv_bipush (v := (-6 : Int32)) hx hb dX6_readOrder_85 rfl ?_
        refine lv_goto (tgt := 95) hx hb dX6_readOrder_87 (by decide) ?_
        exact hJ95 _ _ _ _ h _ _ hP hD hS _ (lv_sub hl [0, 1, 2] rfl)
    · have h := if_t h c_61
      refine lv_aload_n hx hb dX6_readOrder_64 rfl (lv_at hl 2 rfl) ?_
      refine lv_iload_n hx hb dX6_readOrder_65 rfl (lv_at hl 1 rfl) ?_
      obtain ⟨c_orders_66, c_spot_66, c_bad_66, q_66, h⟩ := ob3_e h
      refine cMV (wc := wX6 ck a0 a0_z a0_past a0_slots a0_isSaved a0_pad a0_yes a0_no a0_yesThen a0_noThen a0_yesRound a0_yesRule a0_noRound a0_noRule a0_orders c_z c_past c_slots c_isSaved c_pastMany c_pad c_typed c_yes c_no c_yesThen c_noThen c_yesRound c_yesRule c_noRound c_noRule c_rounds c_isMore c_orders_18 c_orderMany c_spot_55 c_bad_55) (wr := []) (w1 := wX6 ck a0 a0_z a0_past a0_slots a0_isSaved a0_pad a0_yes a0_no a0_yesThen a0_noThen a0_yesRound a0_yesRule a0_noRound a0_noRule a0_orders c_z c_past c_slots c_isSaved c_pastMany c_pad c_typed c_yes c_no c_yesThen c_noThen c_yesRound c_yesRule c_noRound c_noRule c_rounds c_isMore c_orders_66 c_orderMany c_spot_66 c_bad_66) (wn := wX6 ck a0 a0_z a0_past a0_slots a0_isSaved a0_pad a0_yes a0_no a0_yesThen a0_noThen a0_yesRound a0_yesRule a0_noRound a0_noRule a0_orders c_z c_past c_slots c_isSaved c_pastMany c_pad c_typed c_yes c_no c_yesThen c_noThen c_yesRound c_yesRule c_noRound c_noRule c_rounds c_isMore c_orders_66 c_orderMany c_spot_66 c_bad_66) ⟨hx, hb, hml, hown, hts⟩ hK hP hD hS hA [0, 1, 2, 3, 4, 5, 6, 7, 8, 9, 10, 11, 12, 13, 14] [] [0, 1, 2, 3, 4, 5, 6, 7, 8, 9, 10, 11, 12, 13, 14] rfl (by decide) rfl (by decide) (by decide) rfl (by decide) (c_X6_readNumber l dC dI ck a0 a0_z a0_past a0_slots a0_isSaved a0_pad a0_yes a0_no a0_yesThen a0_noThen a0_yesRound a0_yesRule a0_noRound a0_noRule a0_orders c_z c_past c_slots c_isSaved c_pastMany c_pad c_typed c_yes c_no c_yesThen c_noThen c_yesRound c_yesRule c_noRound c_noRule c_rounds c_isMore c_orders_18 c_orderMany c_spot_55 c_bad_55 v1_6 c_orders_66 c_spot_66 c_bad_66 q_66) (cwV 1 hts gX6_readOrder_X6_readNumber rfl rfl rfl (by decide +kernel) ⟨Nat.le_of_ble_eq_true rfl, Nat.le_of_ble_eq_true rfl⟩) 0 rfl rfl rfl hl.1 rfl (Nat.le_of_ble_eq_true rfl) dX6_readOrder_66 ⟨Nat.zero_le _, Nat.zero_le _⟩ (fun H locs hP hD hS => ?_)
      refine lv_goto (tgt := 115) hx hb dX6_readOrder_69 (by decide) ?_
      refine lv_aload_n hx hb dX6_readOrder_115 rfl (lv_at hl 2 rfl) ?_
      refine lv_dup hx hb dX6_readOrder_116 rfl ?_
      refine va_get (ci := 6) (v := .int c_orderMany) (C := RX6) (T := TX6) (N := 21) hx hb hts iu_X6 hown hK.1 hP 0 rfl rfl 18 (by decide) (hts (.fieldLink RX6 228 "SheetMarksModel" "orderMany" "I") (List.mem_of_getElem? (i := 1) rfl)) (fun _ h9 => h9) rfl dX6_readOrder_117 ?_
      refine lv_iconst (v := (1 : Int32)) hx hb dX6_readOrder_120 rfl ?_
      refine lv_iadd hx hb dX6_readOrder_121 ?_
      refine lv_topi (fun c_orderMany_122 e_122 => ?_)
      have h := lt'_e e_122 h
      refine va_put (ci := 6) (v := .int c_orderMany_122) (ty := .int) (C := RX6) (T := TX6) (N := 21) hx hb hts iu_X6 tyX6 tyX6_ok nmX6 hown hK.1 hP hD hS 0 rfl rfl 18 (by decide) (hts (.fieldLink RX6 228 "SheetMarksModel" "orderMany" "I") (List.mem_of_getElem? (i := 1) rfl)) (fun _ h9 => h9) rfl (by decide +kernel) rfl rfl (Nat.le_of_ble_eq_true rfl) dX6_readOrder_122 (fun H locs hP hD hS => ?_)
      have hP : va_P (dC, dI) vwCl (wX6 ck a0 a0_z a0_past a0_slots a0_isSaved a0_pad a0_yes a0_no a0_yesThen a0_noThen a0_yesRound a0_yesRule a0_noRound a0_noRule a0_orders c_z c_past c_slots c_isSaved c_pastMany c_pad c_typed c_yes c_no c_yesThen c_noThen c_yesRound c_yesRule c_noRound c_noRule c_rounds c_isMore c_orders_66 c_orderMany_122 c_spot_66 c_bad_66) H := hP
      have hD : va_D A (wX6 ck a0 a0_z a0_past a0_slots a0_isSaved a0_pad a0_yes a0_no a0_yesThen a0_noThen a0_yesRound a0_yesRule a0_noRound a0_noRule a0_orders c_z c_past c_slots c_isSaved c_pastMany c_pad c_typed c_yes c_no c_yesThen c_noThen c_yesRound c_yesRule c_noRound c_noRule c_rounds c_isMore c_orders_66 c_orderMany_122 c_spot_66 c_bad_66) := hD
      cases h
      exact eMv hx hb hr hlk hP hD hS dX6_readOrder_125
  have hJ50 : f_X6_readOrder_J50 c_pad c_typed c_orderMany c_spot c_bad v1_6 r_8 c_orders_18 = some (o0, o1, o2, o3) → ∀ (H : Heap) (locs : List Loc), va_P (dC, dI) vwCl (wX6 ck a0 a0_z a0_past a0_slots a0_isSaved a0_pad a0_yes a0_no a0_yesThen a0_noThen a0_yesRound a0_yesRule a0_noRound a0_noRule a0_orders c_z c_past c_slots c_isSaved c_pastMany c_pad c_typed c_yes c_no c_yesThen c_noThen c_yesRound c_yesRule c_noRound c_noRule c_rounds c_isMore c_orders_18 c_orderMany c_spot c_bad) H → va_D A (wX6 ck a0 a0_z a0_past a0_slots a0_isSaved a0_pad a0_yes a0_no a0_yesThen a0_noThen a0_yesRound a0_yesRule a0_noRound a0_noRule a0_orders c_z c_past c_slots c_isSaved c_pastMany c_pad c_typed c_yes c_no c_yesThen c_noThen c_yesRound c_yesRule c_noRound c_noRule c_rounds c_isMore c_orders_18 c_orderMany c_spot c_bad) → va_S A s.heap H locs → ∀ ls : Array Slot, lv_has ls 3 [(2, .int r_8), (1, .int v1_6), (0, .ref a0)] → W p l e (headSpec wsX6_readOrder ({ frames := 3, cells := 0, slots := 0, locals := 67 })).room s m [.ref a0].toArray below meth c H locs 0 0 (MQ below (QV (dC, dI) (wX6 ck a0 a0_z a0_past a0_slots a0_isSaved a0_pad a0_yes a0_no a0_yesThen a0_noThen a0_yesRound a0_yesRule a0_noRound a0_noRule a0_orders c_z c_past c_slots c_isSaved c_pastMany c_pad c_typed c_yes c_no c_yesThen c_noThen c_yesRound c_yesRule c_noRound c_noRule c_rounds c_isMore o0 o1 o2 o3) A) [.ref a0].toArray s 0 0 A) (F0 m 50 ls [.ref a0]) := by
    intro  h H locs hP hD hS ls hl
    unfold f_X6_readOrder_J50 at h
    refine lv_iconst (v := (1 : Int32)) hx hb dX6_readOrder_50 rfl ?_
    refine lv_goto (tgt := 55) hx hb dX6_readOrder_51 (by decide) ?_
    exact hJ55 _ h _ _ hP hD hS _ (lv_sub hl [0, 1, 2] rfl)
  refine lv_icmp_eq (tgt := 50) hx hb dX6_readOrder_23 (by decide) (fun c_23 => ?_) (fun c_23 => ?_)
  · have h := if_t h c_23
    exact hJ50 h _ _ hP hD hS _ (lv_sub hl [0, 1, 2] rfl)
  · have h := if_f h c_23
    refine lv_iload_n hx hb dX6_readOrder_26 rfl (lv_at hl 0 rfl) ?_
    refine lv_bipush (v := (114 : Int32)) hx hb dX6_readOrder_27 rfl ?_
    refine lv_icmp_eq (tgt := 50) hx hb dX6_readOrder_29 (by decide) (fun c_29 => ?_) (fun c_29 => ?_)
    · have h := if_t h c_29
      exact hJ50 h _ _ hP hD hS _ (lv_sub hl [0, 1, 2] rfl)
    · have h := if_f h c_29
      refine lv_iload_n hx hb dX6_readOrder_32 rfl (lv_at hl 0 rfl) ?_
      refine lv_bipush (v := (115 : Int32)) hx hb dX6_readOrder_33 rfl ?_
      refine lv_icmp_eq (tgt := 50) hx hb dX6_readOrder_35 (by decide) (fun c_35 => ?_) (fun c_35 => ?_)
      · have h := if_t h c_35
        exact hJ50 h _ _ hP hD hS _ (lv_sub hl [0, 1, 2] rfl)
      · have h := if_f h c_35
        refine lv_iload_n hx hb dX6_readOrder_38 rfl (lv_at hl 0 rfl) ?_
        refine lv_bipush (v := (119 : Int32)) hx hb dX6_readOrder_39 rfl ?_
        refine lv_icmp_eq (tgt := 50) hx hb dX6_readOrder_41 (by decide) (fun c_41 => ?_) (fun c_41 => ?_)
        · have h := if_t h c_41
          exact hJ50 h _ _ hP hD hS _ (lv_sub hl [0, 1, 2] rfl)
        · have h := if_f h c_41
          refine lv_iload_n hx hb dX6_readOrder_44 rfl (lv_at hl 0 rfl) ?_
          refine lv_bipush (v := (45 : Int32)) hx hb dX6_readOrder_45 rfl ?_
          refine lv_icmp_ne (tgt := 54) hx hb dX6_readOrder_47 (by decide) (fun c_47 => ?_) (fun c_47 => ?_)
          · have h := if_f h c_47
            refine lv_iconst (v := (0 : Int32)) hx hb dX6_readOrder_54 rfl ?_
            exact hJ55 _ h _ _ hP hD hS _ (lv_sub hl [0, 1, 2] rfl)
          · have h := if_t h c_47
            exact hJ50 h _ _ hP hD hS _ (lv_sub hl [0, 1, 2] rfl)
noncomputable def f_X6_readPad_J51 (c_pad : Nat → Int32) (c_typed : Int32) (rec18 : Int32 → (Nat → Int32) → Int32 → Int32 → Int32 → Option (Int32 × (Nat → Int32) × Int32 × Int32 × Int32)) (c_orders_23 : Nat → Int32) (c_orderMany_23 : Int32) (c_spot_23 : Int32) (c_bad_23 : Int32) (t0_J51 : Int32) : Option (Int32 × (Nat → Int32) × Int32 × Int32 × Int32) :=
  if t0_J51 = (0 : Int32) then (rec18 t0_J51 c_orders_23 c_orderMany_23 c_spot_23 c_bad_23) else (ob1 (f_X6_letter c_pad c_typed c_spot_23) (fun (r_58 : Int32) => if r_58 = (59 : Int32) then (ob2 (f_X6_wants c_spot_23 c_bad_23 (1 : Int32)) (fun (c_spot_71 : Int32) (c_bad_71 : Int32) => if c_bad_71 = (-6 : Int32) then (rec18 (1 : Int32) c_orders_23 c_orderMany_23 c_spot_71 c_bad_71) else (rec18 (0 : Int32) c_orders_23 c_orderMany_23 c_spot_71 c_bad_71))) else (ob2 (f_X6_wants c_spot_23 c_bad_23 (0 : Int32)) (fun (c_spot_71 : Int32) (c_bad_71 : Int32) => if c_bad_71 = (-6 : Int32) then (rec18 (1 : Int32) c_orders_23 c_orderMany_23 c_spot_71 c_bad_71) else (rec18 (0 : Int32) c_orders_23 c_orderMany_23 c_spot_71 c_bad_71)))))
noncomputable def f_X6_readPad_J50 (c_pad : Nat → Int32) (c_typed : Int32) (rec18 : Int32 → (Nat → Int32) → Int32 → Int32 → Int32 → Option (Int32 × (Nat → Int32) × Int32 × Int32 × Int32)) (c_orders_23 : Nat → Int32) (c_orderMany_23 : Int32) (c_spot_23 : Int32) (c_bad_23 : Int32) : Option (Int32 × (Nat → Int32) × Int32 × Int32 × Int32) :=
  f_X6_readPad_J51 c_pad c_typed rec18 c_orders_23 c_orderMany_23 c_spot_23 c_bad_23 (0 : Int32)
noncomputable def f_X6_readPad_L18 (c_pad : Nat → Int32) (c_typed : Int32) (rec18 : Int32 → (Nat → Int32) → Int32 → Int32 → Int32 → Option (Int32 × (Nat → Int32) × Int32 × Int32 × Int32)) (v1_L18 : Int32) (c_orders_L18 : Nat → Int32) (c_orderMany_L18 : Int32) (c_spot_L18 : Int32) (c_bad_L18 : Int32) : Option (Int32 × (Nat → Int32) × Int32 × Int32 × Int32) :=
  if v1_L18 = (0 : Int32) then (some (c_bad_L18, c_orders_L18, c_orderMany_L18, c_spot_L18, c_bad_L18)) else (ob4 (f_X6_readOrder c_pad c_typed c_orders_L18 c_orderMany_L18 c_spot_L18 c_bad_L18) (fun (c_orders_23 : Nat → Int32) (c_orderMany_23 : Int32) (c_spot_23 : Int32) (c_bad_23 : Int32) => if c_bad_23 = (-6 : Int32) then (if c_typed ≤ c_spot_23 then (f_X6_readPad_J50 c_pad c_typed rec18 c_orders_23 c_orderMany_23 c_spot_23 c_bad_23) else (f_X6_readPad_J51 c_pad c_typed rec18 c_orders_23 c_orderMany_23 c_spot_23 c_bad_23 (1 : Int32))) else (f_X6_readPad_J50 c_pad c_typed rec18 c_orders_23 c_orderMany_23 c_spot_23 c_bad_23)))
noncomputable def f_X6_readPad (c_pad : Nat → Int32) (c_typed : Int32) (c_orders : Nat → Int32) (c_orderMany : Int32) (c_spot : Int32) (c_bad : Int32) : Option (Int32 × (Nat → Int32) × Int32 × Int32 × Int32) :=
  lo5 (f_X6_readPad_L18 c_pad c_typed) FU (1 : Int32) c_orders (0 : Int32) (0 : Int32) (-6 : Int32)
set_option maxHeartbeats 4000000 in
set_option maxRecDepth 100000 in
theorem c_X6_readPad (l : Launch) (dC : Nat → ClassId) (dI : Nat → Nat → Nat) (ck : Nat → ClassId) (a0 a0_z a0_past a0_slots a0_isSaved a0_pad a0_yes a0_no a0_yesThen a0_noThen a0_yesRound a0_yesRule a0_noRound a0_noRule a0_orders : Nat) (c_z : Nat → Int32) (c_past : Nat → Int32) (c_slots : Nat → Int32) (c_isSaved : Nat → Int32) (c_pastMany : Int32) (c_pad : Nat → Int32) (c_typed : Int32) (c_yes : Nat → Int32) (c_no : Nat → Int32) (c_yesThen : Nat → Int32) (c_noThen : Nat → Int32) (c_yesRound : Nat → Int32) (c_yesRule : Nat → Int32) (c_noRound : Nat → Int32) (c_noRule : Nat → Int32) (c_rounds : Int32) (c_isMore : Int32) (c_orders : Nat → Int32) (c_orderMany : Int32) (c_spot : Int32) (c_bad : Int32) (o0 : Int32) (o1 : Nat → Int32) (o2 : Int32) (o3 : Int32) (o4 : Int32) (h : f_X6_readPad c_pad c_typed c_orders c_orderMany c_spot c_bad = some (o0, o1, o2, o3, o4)) : MI l yX6_readPad wsX6_readPad ({ frames := 4, cells := 0, slots := 0, locals := 89 }) [.ref a0] (dC, dI) ck (wX6 ck a0 a0_z a0_past a0_slots a0_isSaved a0_pad a0_yes a0_no a0_yesThen a0_noThen a0_yesRound a0_yesRule a0_noRound a0_noRule a0_orders c_z c_past c_slots c_isSaved c_pastMany c_pad c_typed c_yes c_no c_yesThen c_noThen c_yesRound c_yesRule c_noRound c_noRule c_rounds c_isMore c_orders c_orderMany c_spot c_bad) (wX6 ck a0 a0_z a0_past a0_slots a0_isSaved a0_pad a0_yes a0_no a0_yesThen a0_noThen a0_yesRound a0_yesRule a0_noRound a0_noRule a0_orders c_z c_past c_slots c_isSaved c_pastMany c_pad c_typed c_yes c_no c_yesThen c_noThen c_yesRound c_yesRule c_noRound c_noRule c_rounds c_isMore o1 o2 o3 o4) o0 := by
  refine MI.ofW (cc := cX6_readPad) (maxL := 2) (ret := (some .int)) (by decide +kernel) rfl (Nat.le_of_ble_eq_true rfl) ?_
  intro p e s m below meth c hx hb hr hml hts hown hlk hK hP A hA hD ls hl
  have hS : va_S A s.heap s.heap [] := va_S.rf
  have hown : s.vm.findClass RX6 = some m.cls := hown
  have hl : lv_has ls 2 [(0, .ref a0)] := hl
  have iu_X6 : ∀ w ∈ u_ws RX6 TX6 21, w ∈ wsX6_readPad := fun w h => List.mem_cons_of_mem _ (List.mem_append_right _ h)
  unfold f_X6_readPad at h
  refine lv_aload_n hx hb dX6_readPad_0 rfl (lv_at hl 0 rfl) ?_
  refine lv_iconst (v := (0 : Int32)) hx hb dX6_readPad_1 rfl ?_
  refine va_put (ci := 6) (v := .int (0 : Int32)) (ty := .int) (C := RX6) (T := TX6) (N := 21) hx hb hts iu_X6 tyX6 tyX6_ok nmX6 hown hK.1 hP hD hS 0 rfl rfl 18 (by decide) (hts (.fieldLink RX6 228 "SheetMarksModel" "orderMany" "I") (List.mem_of_getElem? (i := 1) rfl)) (fun _ h9 => h9) rfl (by decide +kernel) rfl rfl (Nat.le_of_ble_eq_true rfl) dX6_readPad_2 (fun H locs hP hD hS => ?_)
  have hP : va_P (dC, dI) vwCl (wX6 ck a0 a0_z a0_past a0_slots a0_isSaved a0_pad a0_yes a0_no a0_yesThen a0_noThen a0_yesRound a0_yesRule a0_noRound a0_noRule a0_orders c_z c_past c_slots c_isSaved c_pastMany c_pad c_typed c_yes c_no c_yesThen c_noThen c_yesRound c_yesRule c_noRound c_noRule c_rounds c_isMore c_orders (0 : Int32) c_spot c_bad) H := hP
  have hD : va_D A (wX6 ck a0 a0_z a0_past a0_slots a0_isSaved a0_pad a0_yes a0_no a0_yesThen a0_noThen a0_yesRound a0_yesRule a0_noRound a0_noRule a0_orders c_z c_past c_slots c_isSaved c_pastMany c_pad c_typed c_yes c_no c_yesThen c_noThen c_yesRound c_yesRule c_noRound c_noRule c_rounds c_isMore c_orders (0 : Int32) c_spot c_bad) := hD
  refine lv_aload_n hx hb dX6_readPad_5 rfl (lv_at hl 0 rfl) ?_
  refine lv_iconst (v := (0 : Int32)) hx hb dX6_readPad_6 rfl ?_
  refine va_put (ci := 6) (v := .int (0 : Int32)) (ty := .int) (C := RX6) (T := TX6) (N := 21) hx hb hts iu_X6 tyX6 tyX6_ok nmX6 hown hK.1 hP hD hS 0 rfl rfl 19 (by decide) (hts (.fieldLink RX6 213 "SheetMarksModel" "spot" "I") (List.mem_of_getElem? (i := 2) rfl)) (fun _ h9 => h9) rfl (by decide +kernel) rfl rfl (Nat.le_of_ble_eq_true rfl) dX6_readPad_7 (fun H locs hP hD hS => ?_)
  have hP : va_P (dC, dI) vwCl (wX6 ck a0 a0_z a0_past a0_slots a0_isSaved a0_pad a0_yes a0_no a0_yesThen a0_noThen a0_yesRound a0_yesRule a0_noRound a0_noRule a0_orders c_z c_past c_slots c_isSaved c_pastMany c_pad c_typed c_yes c_no c_yesThen c_noThen c_yesRound c_yesRule c_noRound c_noRule c_rounds c_isMore c_orders (0 : Int32) (0 : Int32) c_bad) H := hP
  have hD : va_D A (wX6 ck a0 a0_z a0_past a0_slots a0_isSaved a0_pad a0_yes a0_no a0_yesThen a0_noThen a0_yesRound a0_yesRule a0_noRound a0_noRule a0_orders c_z c_past c_slots c_isSaved c_pastMany c_pad c_typed c_yes c_no c_yesThen c_noThen c_yesRound c_yesRule c_noRound c_noRule c_rounds c_isMore c_orders (0 : Int32) (0 : Int32) c_bad) := hD
  refine lv_aload_n hx hb dX6_readPad_10 rfl (lv_at hl 0 rfl) ?_
  refine lv_bipush (v := (-6 : Int32)) hx hb dX6_readPad_11 rfl ?_
  refine va_put (ci := 6) (v := .int (-6 : Int32)) (ty := .int) (C := RX6) (T := TX6) (N := 21) hx hb hts iu_X6 tyX6 tyX6_ok nmX6 hown hK.1 hP hD hS 0 rfl rfl 20 (by decide) (hts (.fieldLink RX6 216 "SheetMarksModel" "bad" "I") (List.mem_of_getElem? (i := 3) rfl)) (fun _ h9 => h9) rfl (by decide +kernel) rfl rfl (Nat.le_of_ble_eq_true rfl) dX6_readPad_13 (fun H locs hP hD hS => ?_)
  have hP : va_P (dC, dI) vwCl (wX6 ck a0 a0_z a0_past a0_slots a0_isSaved a0_pad a0_yes a0_no a0_yesThen a0_noThen a0_yesRound a0_yesRule a0_noRound a0_noRule a0_orders c_z c_past c_slots c_isSaved c_pastMany c_pad c_typed c_yes c_no c_yesThen c_noThen c_yesRound c_yesRule c_noRound c_noRule c_rounds c_isMore c_orders (0 : Int32) (0 : Int32) (-6 : Int32)) H := hP
  have hD : va_D A (wX6 ck a0 a0_z a0_past a0_slots a0_isSaved a0_pad a0_yes a0_no a0_yesThen a0_noThen a0_yesRound a0_yesRule a0_noRound a0_noRule a0_orders c_z c_past c_slots c_isSaved c_pastMany c_pad c_typed c_yes c_no c_yesThen c_noThen c_yesRound c_yesRule c_noRound c_noRule c_rounds c_isMore c_orders (0 : Int32) (0 : Int32) (-6 : Int32)) := hD
  refine lv_iconst (v := (1 : Int32)) hx hb dX6_readPad_16 rfl ?_
  refine lv_istore_n (lv' := [(1, .int (1 : Int32)), (0, .ref a0)]) hx hb dX6_readPad_17 rfl hl (by decide) rfl (fun ls hl => ?_)
  have hL18 : ∀ (n18 : Nat) (v1_L18 : Int32) (c_orders_L18 : Nat → Int32) (c_orderMany_L18 : Int32) (c_spot_L18 : Int32) (c_bad_L18 : Int32), lo5 (f_X6_readPad_L18 c_pad c_typed) n18 v1_L18 c_orders_L18 c_orderMany_L18 c_spot_L18 c_bad_L18 = some (o0, o1, o2, o3, o4) → ∀ (H : Heap) (locs : List Loc), va_P (dC, dI) vwCl (wX6 ck a0 a0_z a0_past a0_slots a0_isSaved a0_pad a0_yes a0_no a0_yesThen a0_noThen a0_yesRound a0_yesRule a0_noRound a0_noRule a0_orders c_z c_past c_slots c_isSaved c_pastMany c_pad c_typed c_yes c_no c_yesThen c_noThen c_yesRound c_yesRule c_noRound c_noRule c_rounds c_isMore c_orders_L18 c_orderMany_L18 c_spot_L18 c_bad_L18) H → va_D A (wX6 ck a0 a0_z a0_past a0_slots a0_isSaved a0_pad a0_yes a0_no a0_yesThen a0_noThen a0_yesRound a0_yesRule a0_noRound a0_noRule a0_orders c_z c_past c_slots c_isSaved c_pastMany c_pad c_typed c_yes c_no c_yesThen c_noThen c_yesRound c_yesRule c_noRound c_noRule c_rounds c_isMore c_orders_L18 c_orderMany_L18 c_spot_L18 c_bad_L18) → va_S A s.heap H locs → ∀ ls : Array Slot, lv_has ls 2 [(1, .int v1_L18), (0, .ref a0)] → W p l e (headSpec wsX6_readPad ({ frames := 4, cells := 0, slots := 0, locals := 89 })).room s m [.ref a0].toArray below meth c H locs 0 0 (MQ below (QI (dC, dI) (wX6 ck a0 a0_z a0_past a0_slots a0_isSaved a0_pad a0_yes a0_no a0_yesThen a0_noThen a0_yesRound a0_yesRule a0_noRound a0_noRule a0_orders c_z c_past c_slots c_isSaved c_pastMany c_pad c_typed c_yes c_no c_yesThen c_noThen c_yesRound c_yesRule c_noRound c_noRule c_rounds c_isMore o1 o2 o3 o4) o0 A) [.ref a0].toArray s 0 0 A) (F0 m 18 ls []) := by
    intro n18
    induction n18 with
    | zero => intro v1_L18 c_orders_L18 c_orderMany_L18 c_spot_L18 c_bad_L18 h; exact lo5_z h
    | succ n18 ih18 =>
      intro v1_L18 c_orders_L18 c_orderMany_L18 c_spot_L18 c_bad_L18 h H locs hP hD hS ls hl
      have h := lo5_s h
      unfold f_X6_readPad_L18 at h
      refine lv_iload_n hx hb dX6_readPad_18 rfl (lv_at hl 0 rfl) ?_
      refine lv_if_eq (tgt := 92) hx hb dX6_readPad_19 (by decide) (fun c_19 => ?_) (fun c_19 => ?_)
      · have h := if_t h c_19
        refine lv_aload_n hx hb dX6_readPad_92 rfl (lv_at hl 1 rfl) ?_
        refine va_get (ci := 6) (v := .int c_bad_L18) (C := RX6) (T := TX6) (N := 21) hx hb hts iu_X6 hown hK.1 hP 0 rfl rfl 20 (by decide) (hts (.fieldLink RX6 216 "SheetMarksModel" "bad" "I") (List.mem_of_getElem? (i := 3) rfl)) (fun _ h9 => h9) rfl dX6_readPad_93 ?_
        cases h
        exact eMi hx hb hr hlk hP hD hS rfl dX6_readPad_96
      · have h := if_f h c_19
        refine lv_aload_n hx hb dX6_readPad_22 rfl (lv_at hl 1 rfl) ?_
        obtain ⟨c_orders_23, c_orderMany_23, c_spot_23, c_bad_23, q_23, h⟩ := ob4_e h
        refine cMV (wc := wX6 ck a0 a0_z a0_past a0_slots a0_isSaved a0_pad a0_yes a0_no a0_yesThen a0_noThen a0_yesRound a0_yesRule a0_noRound a0_noRule a0_orders c_z c_past c_slots c_isSaved c_pastMany c_pad c_typed c_yes c_no c_yesThen c_noThen c_yesRound c_yesRule c_noRound c_noRule c_rounds c_isMore c_orders_L18 c_orderMany_L18 c_spot_L18 c_bad_L18) (wr := []) (w1 := wX6 ck a0 a0_z a0_past a0_slots a0_isSaved a0_pad a0_yes a0_no a0_yesThen a0_noThen a0_yesRound a0_yesRule a0_noRound a0_noRule a0_orders c_z c_past c_slots c_isSaved c_pastMany c_pad c_typed c_yes c_no c_yesThen c_noThen c_yesRound c_yesRule c_noRound c_noRule c_rounds c_isMore c_orders_23 c_orderMany_23 c_spot_23 c_bad_23) (wn := wX6 ck a0 a0_z a0_past a0_slots a0_isSaved a0_pad a0_yes a0_no a0_yesThen a0_noThen a0_yesRound a0_yesRule a0_noRound a0_noRule a0_orders c_z c_past c_slots c_isSaved c_pastMany c_pad c_typed c_yes c_no c_yesThen c_noThen c_yesRound c_yesRule c_noRound c_noRule c_rounds c_isMore c_orders_23 c_orderMany_23 c_spot_23 c_bad_23) ⟨hx, hb, hml, hown, hts⟩ hK hP hD hS hA [0, 1, 2, 3, 4, 5, 6, 7, 8, 9, 10, 11, 12, 13, 14] [] [0, 1, 2, 3, 4, 5, 6, 7, 8, 9, 10, 11, 12, 13, 14] rfl (by decide) rfl (by decide) (by decide) rfl (by decide) (c_X6_readOrder l dC dI ck a0 a0_z a0_past a0_slots a0_isSaved a0_pad a0_yes a0_no a0_yesThen a0_noThen a0_yesRound a0_yesRule a0_noRound a0_noRule a0_orders c_z c_past c_slots c_isSaved c_pastMany c_pad c_typed c_yes c_no c_yesThen c_noThen c_yesRound c_yesRule c_noRound c_noRule c_rounds c_isMore c_orders_L18 c_orderMany_L18 c_spot_L18 c_bad_L18 c_orders_23 c_orderMany_23 c_spot_23 c_bad_23 q_23) (cwV 0 hts gX6_readPad_X6_readOrder rfl rfl rfl (by decide +kernel) ⟨Nat.le_of_ble_eq_true rfl, Nat.le_of_ble_eq_true rfl⟩) 0 rfl rfl rfl hl.1 rfl (Nat.le_of_ble_eq_true rfl) dX6_readPad_23 ⟨Nat.zero_le _, Nat.zero_le _⟩ (fun H locs hP hD hS => ?_)
        refine lv_aload_n hx hb dX6_readPad_26 rfl (lv_at hl 1 rfl) ?_
        refine va_get (ci := 6) (v := .int c_bad_23) (C := RX6) (T := TX6) (N := 21) hx hb hts iu_X6 hown hK.1 hP 0 rfl rfl 20 (by decide) (hts (.fieldLink RX6 216 "SheetMarksModel" "bad" "I") (List.mem_of_getElem? (i := 3) rfl)) (fun _ h9 => h9) rfl dX6_readPad_27 ?_
        refine lv_bipush (v := (-6 : Int32)) hx hb dX6_readPad_30 rfl ?_
        have hJ51 : ∀ (t0_J51 : Int32), f_X6_readPad_J51 c_pad c_typed (lo5 (f_X6_readPad_L18 c_pad c_typed) n18) c_orders_23 c_orderMany_23 c_spot_23 c_bad_23 t0_J51 = some (o0, o1, o2, o3, o4) → ∀ (H : Heap) (locs : List Loc), va_P (dC, dI) vwCl (wX6 ck a0 a0_z a0_past a0_slots a0_isSaved a0_pad a0_yes a0_no a0_yesThen a0_noThen a0_yesRound a0_yesRule a0_noRound a0_noRule a0_orders c_z c_past c_slots c_isSaved c_pastMany c_pad c_typed c_yes c_no c_yesThen c_noThen c_yesRound c_yesRule c_noRound c_noRule c_rounds c_isMore c_orders_23 c_orderMany_23 c_spot_23 c_bad_23) H → va_D A (wX6 ck a0 a0_z a0_past a0_slots a0_isSaved a0_pad a0_yes a0_no a0_yesThen a0_noThen a0_yesRound a0_yesRule a0_noRound a0_noRule a0_orders c_z c_past c_slots c_isSaved c_pastMany c_pad c_typed c_yes c_no c_yesThen c_noThen c_yesRound c_yesRule c_noRound c_noRule c_rounds c_isMore c_orders_23 c_orderMany_23 c_spot_23 c_bad_23) → va_S A s.heap H locs → ∀ ls : Array Slot, lv_has ls 2 [(0, .ref a0)] → W p l e (headSpec wsX6_readPad ({ frames := 4, cells := 0, slots := 0, locals := 89 })).room s m [.ref a0].toArray below meth c H locs 0 0 (MQ below (QI (dC, dI) (wX6 ck a0 a0_z a0_past a0_slots a0_isSaved a0_pad a0_yes a0_no a0_yesThen a0_noThen a0_yesRound a0_yesRule a0_noRound a0_noRule a0_orders c_z c_past c_slots c_isSaved c_pastMany c_pad c_typed c_yes c_no c_yesThen c_noThen c_yesRound c_yesRule c_noRound c_noRule c_rounds c_isMore o1 o2 o3 o4) o0 A) [.ref a0].toArray s 0 0 A) (F0 m 51 ls [.int t0_J51]) := by
          intro t0_J51 h H locs hP hD hS ls hl
          unfold f_X6_readPad_J51 at h
          refine lv_istore_n (lv' := [(1, .int t0_J51), (0, .ref a0)]) hx hb dX6_readPad_51 rfl hl (by decide) rfl (fun ls hl => ?_)
          refine lv_iload_n hx hb dX6_readPad_52 rfl (lv_at hl 0 rfl) ?_
          refine lv_if_eq (tgt := 18) hx hb dX6_readPad_53 (by decide) (fun c_53 => ?_) (fun c_53 => ?_)
          · have h := if_t h c_53
            exact ih18 _ _ _ _ _ h _ _ hP hD hS _ (lv_sub hl [0, 1] rfl)
          · have h := if_f h c_53
            refine lv_aload_n hx hb dX6_readPad_56 rfl (lv_at hl 1 rfl) ?_
            refine lv_aload_n hx hb dX6_readPad_57 rfl (lv_at hl 1 rfl) ?_
            obtain ⟨r_58, q_58, h⟩ := ob1_e h
            refine cRV (wc := wX6 ck a0 a0_z a0_past a0_slots a0_isSaved a0_pad a0_yes a0_no a0_yesThen a0_noThen a0_yesRound a0_yesRule a0_noRound a0_noRule a0_orders c_z c_past c_slots c_isSaved c_pastMany c_pad c_typed c_yes c_no c_yesThen c_noThen c_yesRound c_yesRule c_noRound c_noRule c_rounds c_isMore c_orders_23 c_orderMany_23 c_spot_23 c_bad_23) ⟨hx, hb, hml, hown, hts⟩ hK hP [0, 1, 2, 3, 4, 5, 6, 7, 8, 9, 10, 11, 12, 13, 14] rfl (c_X6_letter l dC dI ck a0 a0_z a0_past a0_slots a0_isSaved a0_pad a0_yes a0_no a0_yesThen a0_noThen a0_yesRound a0_yesRule a0_noRound a0_noRule a0_orders c_z c_past c_slots c_isSaved c_pastMany c_pad c_typed c_yes c_no c_yesThen c_noThen c_yesRound c_yesRule c_noRound c_noRule c_rounds c_isMore c_orders_23 c_orderMany_23 c_spot_23 c_bad_23 r_58 q_58) (cwV 0 hts gX6_readPad_X6_letter rfl rfl rfl (by decide +kernel) ⟨Nat.le_of_ble_eq_true rfl, Nat.le_of_ble_eq_true rfl⟩) 0 rfl rfl rfl hl.1 rfl (Nat.le_of_ble_eq_true rfl) dX6_readPad_58 ⟨Nat.zero_le _, Nat.zero_le _⟩ ?_
            refine lv_bipush (v := (59 : Int32)) hx hb dX6_readPad_61 rfl ?_
            refine lv_icmp_ne (tgt := 70) hx hb dX6_readPad_63 (by decide) (fun c_63 => ?_) (fun c_63 => ?_)
            · have h := if_f h c_63
              refine lv_iconst (v := (0 : Int32)) hx hb dX6_readPad_70 rfl ?_
              obtain ⟨c_spot_71, c_bad_71, q_71, h⟩ := ob2_e h
              refine cMV (wc := wX6 ck a0 a0_z a0_past a0_slots a0_isSaved a0_pad a0_yes a0_no a0_yesThen a0_noThen a0_yesRound a0_yesRule a0_noRound a0_noRule a0_orders c_z c_past c_slots c_isSaved c_pastMany c_pad c_typed c_yes c_no c_yesThen c_noThen c_yesRound c_yesRule c_noRound c_noRule c_rounds c_isMore c_orders_23 c_orderMany_23 c_spot_23 c_bad_23) (wr := []) (w1 := wX6 ck a0 a0_z a0_past a0_slots a0_isSaved a0_pad a0_yes a0_no a0_yesThen a0_noThen a0_yesRound a0_yesRule a0_noRound a0_noRule a0_orders c_z c_past c_slots c_isSaved c_pastMany c_pad c_typed c_yes c_no c_yesThen c_noThen c_yesRound c_yesRule c_noRound c_noRule c_rounds c_isMore c_orders_23 c_orderMany_23 c_spot_71 c_bad_71) (wn := wX6 ck a0 a0_z a0_past a0_slots a0_isSaved a0_pad a0_yes a0_no a0_yesThen a0_noThen a0_yesRound a0_yesRule a0_noRound a0_noRule a0_orders c_z c_past c_slots c_isSaved c_pastMany c_pad c_typed c_yes c_no c_yesThen c_noThen c_yesRound c_yesRule c_noRound c_noRule c_rounds c_isMore c_orders_23 c_orderMany_23 c_spot_71 c_bad_71) ⟨hx, hb, hml, hown, hts⟩ hK hP hD hS hA [0, 1, 2, 3, 4, 5, 6, 7, 8, 9, 10, 11, 12, 13, 14] [] [0, 1, 2, 3, 4, 5, 6, 7, 8, 9, 10, 11, 12, 13, 14] rfl (by decide) rfl (by decide) (by decide) rfl (by decide) (c_X6_wants l dC dI ck a0 a0_z a0_past a0_slots a0_isSaved a0_pad a0_yes a0_no a0_yesThen a0_noThen a0_yesRound a0_yesRule a0_noRound a0_noRule a0_orders c_z c_past c_slots c_isSaved c_pastMany c_pad c_typed c_yes c_no c_yesThen c_noThen c_yesRound c_yesRule c_noRound c_noRule c_rounds c_isMore c_orders_23 c_orderMany_23 c_spot_23 c_bad_23 (0 : Int32) c_spot_71 c_bad_71 q_71) (cwV 1 hts gX6_readPad_X6_wants rfl rfl rfl (by decide +kernel) ⟨Nat.le_of_ble_eq_true rfl, Nat.le_of_ble_eq_true rfl⟩) 0 rfl rfl rfl hl.1 rfl (Nat.le_of_ble_eq_true rfl) dX6_readPad_71 ⟨Nat.zero_le _, Nat.zero_le _⟩ (fun H locs hP hD hS => ?_)
              refine lv_aload_n hx hb dX6_readPad_74 rfl (lv_at hl 1 rfl) ?_
              refine va_get (ci := 6) (v := .int c_bad_71) (C := RX6) (T := TX6) (N := 21) hx hb hts iu_X6 hown hK.1 hP 0 rfl rfl 20 (by decide) (hts (.fieldLink RX6 216 "SheetMarksModel" "bad" "I") (List.mem_of_getElem? (i := 3) rfl)) (fun _ h9 => h9) rfl dX6_readPad_75 ?_
              refine lv_bipush (v := (-6 : Int32)) hx hb dX6_readPad_78 rfl ?_
              refine lv_icmp_ne (tgt := 87) hx hb dX6_readPad_80 (by decide) (fun c_80 => ?_) (fun c_80 => ?_)
              · have h := if_f h c_80
                refine lv_iconst (v := (0 : Int32)) hx hb dX6_readPad_87 rfl ?_
                refine lv_istore_n (lv' := [(1, .int (0 : Int32)), (0, .ref a0)]) hx hb dX6_readPad_88 rfl hl (by decide) rfl (fun ls hl => ?_)
                refine lv_goto (tgt := 18) hx hb dX6_readPad_89 (by decide) ?_
                exact ih18 _ _ _ _ _ h _ _ hP hD hS _ (lv_sub hl [0, 1] rfl)
              · have h := if_t h c_80
                refine lv_iconst (v := (1 : Int32)) hx hb dX6_readPad_83 rfl ?_
                refine lv_goto (tgt := 88) hx hb dX6_readPad_84 (by decide) ?_
                refine lv_istore_n (lv' := [(1, .int (1 : Int32)), (0, .ref a0)]) hx hb dX6_readPad_88 rfl hl (by decide) rfl (fun ls hl => ?_)
                refine lv_goto (tgt := 18) hx hb dX6_readPad_89 (by decide) ?_
                exact ih18 _ _ _ _ _ h _ _ hP hD hS _ (lv_sub hl [0, 1] rfl)
            · have h := if_t h c_63
              refine lv_iconst (v := (1 : Int32)) hx hb dX6_readPad_66 rfl ?_
              refine lv_goto (tgt := 71) hx hb dX6_readPad_67 (by decide) ?_
              obtain ⟨c_spot_71, c_bad_71, q_71, h⟩ := ob2_e h
              refine cMV (wc := wX6 ck a0 a0_z a0_past a0_slots a0_isSaved a0_pad a0_yes a0_no a0_yesThen a0_noThen a0_yesRound a0_yesRule a0_noRound a0_noRule a0_orders c_z c_past c_slots c_isSaved c_pastMany c_pad c_typed c_yes c_no c_yesThen c_noThen c_yesRound c_yesRule c_noRound c_noRule c_rounds c_isMore c_orders_23 c_orderMany_23 c_spot_23 c_bad_23) (wr := []) (w1 := wX6 ck a0 a0_z a0_past a0_slots a0_isSaved a0_pad a0_yes a0_no a0_yesThen a0_noThen a0_yesRound a0_yesRule a0_noRound a0_noRule a0_orders c_z c_past c_slots c_isSaved c_pastMany c_pad c_typed c_yes c_no c_yesThen c_noThen c_yesRound c_yesRule c_noRound c_noRule c_rounds c_isMore c_orders_23 c_orderMany_23 c_spot_71 c_bad_71) (wn := wX6 ck a0 a0_z a0_past a0_slots a0_isSaved a0_pad a0_yes a0_no a0_yesThen a0_noThen a0_yesRound a0_yesRule a0_noRound a0_noRule a0_orders c_z c_past c_slots c_isSaved c_pastMany c_pad c_typed c_yes c_no c_yesThen c_noThen c_yesRound c_yesRule c_noRound c_noRule c_rounds c_isMore c_orders_23 c_orderMany_23 c_spot_71 c_bad_71) ⟨hx, hb, hml, hown, hts⟩ hK hP hD hS hA [0, 1, 2, 3, 4, 5, 6, 7, 8, 9, 10, 11, 12, 13, 14] [] [0, 1, 2, 3, 4, 5, 6, 7, 8, 9, 10, 11, 12, 13, 14] rfl (by decide) rfl (by decide) (by decide) rfl (by decide) (c_X6_wants l dC dI ck a0 a0_z a0_past a0_slots a0_isSaved a0_pad a0_yes a0_no a0_yesThen a0_noThen a0_yesRound a0_yesRule a0_noRound a0_noRule a0_orders c_z c_past c_slots c_isSaved c_pastMany c_pad c_typed c_yes c_no c_yesThen c_noThen c_yesRound c_yesRule c_noRound c_noRule c_rounds c_isMore c_orders_23 c_orderMany_23 c_spot_23 c_bad_23 (1 : Int32) c_spot_71 c_bad_71 q_71) (cwV 1 hts gX6_readPad_X6_wants rfl rfl rfl (by decide +kernel) ⟨Nat.le_of_ble_eq_true rfl, Nat.le_of_ble_eq_true rfl⟩) 0 rfl rfl rfl hl.1 rfl (Nat.le_of_ble_eq_true rfl) dX6_readPad_71 ⟨Nat.zero_le _, Nat.zero_le _⟩ (fun H locs hP hD hS => ?_)
              refine lv_aload_n hx hb dX6_readPad_74 rfl (lv_at hl 1 rfl) ?_
              refine va_get (ci := 6) (v := .int c_bad_71) (C := RX6) (T := TX6) (N := 21) hx hb hts iu_X6 hown hK.1 hP 0 rfl rfl 20 (by decide) (hts (.fieldLink RX6 216 "SheetMarksModel" "bad" "I") (List.mem_of_getElem? (i := 3) rfl)) (fun _ h9 => h9) rfl dX6_readPad_75 ?_
              refine lv_bipush (v := (-6 : Int32)) hx hb dX6_readPad_78 rfl ?_
              refine lv_icmp_ne (tgt := 87) hx hb dX6_readPad_80 (by decide) (fun c_80 => ?_) (fun c_80 => ?_)
              · have h := if_f h c_80
                refine lv_iconst (v := (0 : Int32)) hx hb dX6_readPad_87 rfl ?_
                refine lv_istore_n (lv' := [(1, .int (0 : Int32)), (0, .ref a0)]) hx hb dX6_readPad_88 rfl hl (by decide) rfl (fun ls hl => ?_)
                refine lv_goto (tgt := 18) hx hb dX6_readPad_89 (by decide) ?_
                exact ih18 _ _ _ _ _ h _ _ hP hD hS _ (lv_sub hl [0, 1] rfl)
              · have h := if_t h c_80
                refine lv_iconst (v := (1 : Int32)) hx hb dX6_readPad_83 rfl ?_
                refine lv_goto (tgt := 88) hx hb dX6_readPad_84 (by decide) ?_
                refine lv_istore_n (lv' := [(1, .int (1 : Int32)), (0, .ref a0)]) hx hb dX6_readPad_88 rfl hl (by decide) rfl (fun ls hl => ?_)
                refine lv_goto (tgt := 18) hx hb dX6_readPad_89 (by decide) ?_
                exact ih18 _ _ _ _ _ h _ _ hP hD hS _ (lv_sub hl [0, 1] rfl)
        have hJ50 : f_X6_readPad_J50 c_pad c_typed (lo5 (f_X6_readPad_L18 c_pad c_typed) n18) c_orders_23 c_orderMany_23 c_spot_23 c_bad_23 = some (o0, o1, o2, o3, o4) → ∀ (H : Heap) (locs : List Loc), va_P (dC, dI) vwCl (wX6 ck a0 a0_z a0_past a0_slots a0_isSaved a0_pad a0_yes a0_no a0_yesThen a0_noThen a0_yesRound a0_yesRule a0_noRound a0_noRule a0_orders c_z c_past c_slots c_isSaved c_pastMany c_pad c_typed c_yes c_no c_yesThen c_noThen c_yesRound c_yesRule c_noRound c_noRule c_rounds c_isMore c_orders_23 c_orderMany_23 c_spot_23 c_bad_23) H → va_D A (wX6 ck a0 a0_z a0_past a0_slots a0_isSaved a0_pad a0_yes a0_no a0_yesThen a0_noThen a0_yesRound a0_yesRule a0_noRound a0_noRule a0_orders c_z c_past c_slots c_isSaved c_pastMany c_pad c_typed c_yes c_no c_yesThen c_noThen c_yesRound c_yesRule c_noRound c_noRule c_rounds c_isMore c_orders_23 c_orderMany_23 c_spot_23 c_bad_23) → va_S A s.heap H locs → ∀ ls : Array Slot, lv_has ls 2 [(0, .ref a0)] → W p l e (headSpec wsX6_readPad ({ frames := 4, cells := 0, slots := 0, locals := 89 })).room s m [.ref a0].toArray below meth c H locs 0 0 (MQ below (QI (dC, dI) (wX6 ck a0 a0_z a0_past a0_slots a0_isSaved a0_pad a0_yes a0_no a0_yesThen a0_noThen a0_yesRound a0_yesRule a0_noRound a0_noRule a0_orders c_z c_past c_slots c_isSaved c_pastMany c_pad c_typed c_yes c_no c_yesThen c_noThen c_yesRound c_yesRule c_noRound c_noRule c_rounds c_isMore o1 o2 o3 o4) o0 A) [.ref a0].toArray s 0 0 A) (F0 m 50 ls []) := by
          intro  h H locs hP hD hS ls hl
          unfold f_X6_readPad_J50 at h
          refine lv_iconst (v := (0 : Int32)) hx hb dX6_readPad_50 rfl ?_
          exact hJ51 _ h _ _ hP hD hS _ (lv_sub hl [0] rfl)
        refine lv_icmp_ne (tgt := 50) hx hb dX6_readPad_32 (by decide) (fun c_32 => ?_) (fun c_32 => ?_)
        · have h := if_f h c_32
          exact hJ50 h _ _ hP hD hS _ (lv_sub hl [1] rfl)
        · have h := if_t h c_32
          refine lv_aload_n hx hb dX6_readPad_35 rfl (lv_at hl 1 rfl) ?_
          refine va_get (ci := 6) (v := .int c_spot_23) (C := RX6) (T := TX6) (N := 21) hx hb hts iu_X6 hown hK.1 hP 0 rfl rfl 19 (by decide) (hts (.fieldLink RX6 213 "SheetMarksModel" "spot" "I") (List.mem_of_getElem? (i := 2) rfl)) (fun _ h9 => h9) rfl dX6_readPad_36 ?_
          refine lv_aload_n hx hb dX6_readPad_39 rfl (lv_at hl 1 rfl) ?_
          refine va_get (ci := 6) (v := .int c_typed) (C := RX6) (T := TX6) (N := 21) hx hb hts iu_X6 hown hK.1 hP 0 rfl rfl 6 (by decide) (hts (.fieldLink RX6 194 "SheetMarksModel" "typed" "I") (List.mem_of_getElem? (i := 4) rfl)) (fun _ h9 => h9) rfl dX6_readPad_40 ?_
          refine lv_icmp_ge (tgt := 50) hx hb dX6_readPad_43 (by decide) (fun c_43 => ?_) (fun c_43 => ?_)
          · have h := if_t h c_43
            exact hJ50 h _ _ hP hD hS _ (lv_sub hl [1] rfl)
          · have h := if_f h c_43
            refine lv_iconst (v := (1 : Int32)) hx hb dX6_readPad_46 rfl ?_
            refine lv_goto (tgt := 51) hx hb dX6_readPad_47 (by decide) ?_
            exact hJ51 _ h _ _ hP hD hS _ (lv_sub hl [1] rfl)
  exact hL18 _ _ _ _ _ _ h _ _ hP hD hS _ (lv_sub hl [0, 1] rfl)
noncomputable def f_X6_fault (c_pad : Nat → Int32) (c_typed : Int32) (c_orders : Nat → Int32) (c_orderMany : Int32) (c_spot : Int32) (c_bad : Int32) : Option (Int32 × (Nat → Int32) × Int32 × Int32 × Int32) :=
  ob5 (f_X6_readPad c_pad c_typed c_orders c_orderMany c_spot c_bad) (fun (r_1 : Int32) (c_orders_1 : Nat → Int32) (c_orderMany_1 : Int32) (c_spot_1 : Int32) (c_bad_1 : Int32) => some (r_1, c_orders_1, c_orderMany_1, c_spot_1, c_bad_1))
set_option maxHeartbeats 4000000 in
set_option maxRecDepth 100000 in
theorem c_X6_fault (l : Launch) (dC : Nat → ClassId) (dI : Nat → Nat → Nat) (ck : Nat → ClassId) (a0 a0_z a0_past a0_slots a0_isSaved a0_pad a0_yes a0_no a0_yesThen a0_noThen a0_yesRound a0_yesRule a0_noRound a0_noRule a0_orders : Nat) (c_z : Nat → Int32) (c_past : Nat → Int32) (c_slots : Nat → Int32) (c_isSaved : Nat → Int32) (c_pastMany : Int32) (c_pad : Nat → Int32) (c_typed : Int32) (c_yes : Nat → Int32) (c_no : Nat → Int32) (c_yesThen : Nat → Int32) (c_noThen : Nat → Int32) (c_yesRound : Nat → Int32) (c_yesRule : Nat → Int32) (c_noRound : Nat → Int32) (c_noRule : Nat → Int32) (c_rounds : Int32) (c_isMore : Int32) (c_orders : Nat → Int32) (c_orderMany : Int32) (c_spot : Int32) (c_bad : Int32) (o0 : Int32) (o1 : Nat → Int32) (o2 : Int32) (o3 : Int32) (o4 : Int32) (h : f_X6_fault c_pad c_typed c_orders c_orderMany c_spot c_bad = some (o0, o1, o2, o3, o4)) : MI l yX6_fault wsX6_fault ({ frames := 5, cells := 0, slots := 0, locals := 110 }) [.ref a0] (dC, dI) ck (wX6 ck a0 a0_z a0_past a0_slots a0_isSaved a0_pad a0_yes a0_no a0_yesThen a0_noThen a0_yesRound a0_yesRule a0_noRound a0_noRule a0_orders c_z c_past c_slots c_isSaved c_pastMany c_pad c_typed c_yes c_no c_yesThen c_noThen c_yesRound c_yesRule c_noRound c_noRule c_rounds c_isMore c_orders c_orderMany c_spot c_bad) (wX6 ck a0 a0_z a0_past a0_slots a0_isSaved a0_pad a0_yes a0_no a0_yesThen a0_noThen a0_yesRound a0_yesRule a0_noRound a0_noRule a0_orders c_z c_past c_slots c_isSaved c_pastMany c_pad c_typed c_yes c_no c_yesThen c_noThen c_yesRound c_yesRule c_noRound c_noRule c_rounds c_isMore o1 o2 o3 o4) o0 := by
  refine MI.ofW (cc := cX6_fault) (maxL := 1) (ret := (some .int)) (by decide +kernel) rfl (Nat.le_of_ble_eq_true rfl) ?_
  intro p e s m below meth c hx hb hr hml hts hown hlk hK hP A hA hD ls hl
  have hS : va_S A s.heap s.heap [] := va_S.rf
  have hown : s.vm.findClass RX6 = some m.cls := hown
  have hl : lv_has ls 1 [(0, .ref a0)] := hl
  unfold f_X6_fault at h
  refine lv_aload_n hx hb dX6_fault_0 rfl (lv_at hl 0 rfl) ?_
  obtain ⟨r_1, c_orders_1, c_orderMany_1, c_spot_1, c_bad_1, q_1, h⟩ := ob5_e h
  refine cMI (wc := wX6 ck a0 a0_z a0_past a0_slots a0_isSaved a0_pad a0_yes a0_no a0_yesThen a0_noThen a0_yesRound a0_yesRule a0_noRound a0_noRule a0_orders c_z c_past c_slots c_isSaved c_pastMany c_pad c_typed c_yes c_no c_yesThen c_noThen c_yesRound c_yesRule c_noRound c_noRule c_rounds c_isMore c_orders c_orderMany c_spot c_bad) (wr := []) (w1 := wX6 ck a0 a0_z a0_past a0_slots a0_isSaved a0_pad a0_yes a0_no a0_yesThen a0_noThen a0_yesRound a0_yesRule a0_noRound a0_noRule a0_orders c_z c_past c_slots c_isSaved c_pastMany c_pad c_typed c_yes c_no c_yesThen c_noThen c_yesRound c_yesRule c_noRound c_noRule c_rounds c_isMore c_orders_1 c_orderMany_1 c_spot_1 c_bad_1) (wn := wX6 ck a0 a0_z a0_past a0_slots a0_isSaved a0_pad a0_yes a0_no a0_yesThen a0_noThen a0_yesRound a0_yesRule a0_noRound a0_noRule a0_orders c_z c_past c_slots c_isSaved c_pastMany c_pad c_typed c_yes c_no c_yesThen c_noThen c_yesRound c_yesRule c_noRound c_noRule c_rounds c_isMore c_orders_1 c_orderMany_1 c_spot_1 c_bad_1) ⟨hx, hb, hml, hown, hts⟩ hK hP hD hS hA [0, 1, 2, 3, 4, 5, 6, 7, 8, 9, 10, 11, 12, 13, 14] [] [0, 1, 2, 3, 4, 5, 6, 7, 8, 9, 10, 11, 12, 13, 14] rfl (by decide) rfl (by decide) (by decide) rfl (by decide) (c_X6_readPad l dC dI ck a0 a0_z a0_past a0_slots a0_isSaved a0_pad a0_yes a0_no a0_yesThen a0_noThen a0_yesRound a0_yesRule a0_noRound a0_noRule a0_orders c_z c_past c_slots c_isSaved c_pastMany c_pad c_typed c_yes c_no c_yesThen c_noThen c_yesRound c_yesRule c_noRound c_noRule c_rounds c_isMore c_orders c_orderMany c_spot c_bad r_1 c_orders_1 c_orderMany_1 c_spot_1 c_bad_1 q_1) (cwV 0 hts gX6_fault_X6_readPad rfl rfl rfl (by decide +kernel) ⟨Nat.le_of_ble_eq_true rfl, Nat.le_of_ble_eq_true rfl⟩) 0 rfl rfl rfl hl.1 rfl (Nat.le_of_ble_eq_true rfl) dX6_fault_1 ⟨Nat.zero_le _, Nat.zero_le _⟩ (fun H locs hP hD hS => ?_)
  cases h
  exact eMi hx hb hr hlk hP hD hS rfl dX6_fault_4
noncomputable def f_X6_does_J166 (c_z : Nat → Int32) (v2_10 : Int32) (v3_21 : Int32) (v4_32 : Int32) (v5_44 : Int32) (v6_54 : Int32) (t0_J166 : Int32) : Option (Int32 × (Nat → Int32)) :=
  if t0_J166 = (0 : Int32) then (bo t0_J166 (some (t0_J166, c_z))) else (if v6_54 = (119 : Int32) then (ob1 (f_X6_addThree c_z (3 : Int32) v2_10 v3_21 v4_32 v5_44) (fun (c_z_203 : Nat → Int32) => bo t0_J166 (some (t0_J166, c_z_203)))) else (if v6_54 = (115 : Int32) then (ob1 (f_X6_addThree c_z (2 : Int32) v2_10 v3_21 v4_32 v5_44) (fun (c_z_203 : Nat → Int32) => bo t0_J166 (some (t0_J166, c_z_203)))) else (ob1 (f_X6_addThree c_z (1 : Int32) v2_10 v3_21 v4_32 v5_44) (fun (c_z_203 : Nat → Int32) => bo t0_J166 (some (t0_J166, c_z_203))))))
noncomputable def f_X6_does_J165 (c_z : Nat → Int32) (v2_10 : Int32) (v3_21 : Int32) (v4_32 : Int32) (v5_44 : Int32) (v6_54 : Int32) : Option (Int32 × (Nat → Int32)) :=
  f_X6_does_J166 c_z v2_10 v3_21 v4_32 v5_44 v6_54 (0 : Int32)
noncomputable def f_X6_does_J161 (c_z : Nat → Int32) (v2_10 : Int32) (v3_21 : Int32) (v4_32 : Int32) (v5_44 : Int32) (v6_54 : Int32) : Option (Int32 × (Nat → Int32)) :=
  f_X6_does_J166 c_z v2_10 v3_21 v4_32 v5_44 v6_54 (1 : Int32)
noncomputable def f_X6_does (c_z : Nat → Int32) (c_orders : Nat → Int32) (v1 : Int32) : Option (Int32 × (Nat → Int32)) :=
  gd (((5 : Int32) * v1) + (1 : Int32)) 160 (lt' (c_orders (((5 : Int32) * v1) + (1 : Int32)).toNatClampNeg) (fun v2_10 : Int32 => gd (((5 : Int32) * v1) + (2 : Int32)) 160 (lt' (c_orders (((5 : Int32) * v1) + (2 : Int32)).toNatClampNeg) (fun v3_21 : Int32 => gd (((5 : Int32) * v1) + (3 : Int32)) 160 (lt' (c_orders (((5 : Int32) * v1) + (3 : Int32)).toNatClampNeg) (fun v4_32 : Int32 => gd (((5 : Int32) * v1) + (4 : Int32)) 160 (lt' (c_orders (((5 : Int32) * v1) + (4 : Int32)).toNatClampNeg) (fun v5_44 : Int32 => gd ((5 : Int32) * v1) 160 (lt' (c_orders ((5 : Int32) * v1).toNatClampNeg) (fun v6_54 : Int32 => if v6_54 = (45 : Int32) then (gd (1 : Int32) 207 (if (c_z (1 : Int32).toNatClampNeg) ≤ v2_10 then (if (0 : Int32) = (0 : Int32) then (some ((0 : Int32), c_z)) else (ob1 (f_X6_drop c_z v2_10) (fun (c_z_87 : Nat → Int32) => some ((0 : Int32), c_z_87)))) else (if (1 : Int32) = (0 : Int32) then (some ((1 : Int32), c_z)) else (ob1 (f_X6_drop c_z v2_10) (fun (c_z_87 : Nat → Int32) => some ((1 : Int32), c_z_87)))))) else (if v6_54 = (104 : Int32) then (ob1 (f_X6_whyNotHolds c_z v2_10 v3_21) (fun (r_103 : Int32) => if r_103 = (0 : Int32) then (if (1 : Int32) = (0 : Int32) then (some ((1 : Int32), c_z)) else (ob1 (f_X6_add c_z (0 : Int32) v2_10 v3_21 (-6 : Int32) (-6 : Int32)) (fun (c_z_129 : Nat → Int32) => some ((1 : Int32), c_z_129)))) else (if (0 : Int32) = (0 : Int32) then (some ((0 : Int32), c_z)) else (ob1 (f_X6_add c_z (0 : Int32) v2_10 v3_21 (-6 : Int32) (-6 : Int32)) (fun (c_z_129 : Nat → Int32) => some ((0 : Int32), c_z_129)))))) else (gd (1 : Int32) 207 (if (40 : Int32) ≤ (c_z (1 : Int32).toNatClampNeg) then (f_X6_does_J165 c_z v2_10 v3_21 v4_32 v5_44 v6_54) else (if v6_54 = (119 : Int32) then (f_X6_does_J161 c_z v2_10 v3_21 v4_32 v5_44 v6_54) else (ob1 (f_X6_isPlayer c_z v2_10) (fun (r_155 : Int32) => if r_155 = (0 : Int32) then (f_X6_does_J165 c_z v2_10 v3_21 v4_32 v5_44 v6_54) else (f_X6_does_J161 c_z v2_10 v3_21 v4_32 v5_44 v6_54)))))))))))))))))
set_option maxHeartbeats 4000000 in
set_option maxRecDepth 100000 in
theorem c_X6_does (l : Launch) (dC : Nat → ClassId) (dI : Nat → Nat → Nat) (ck : Nat → ClassId) (a0 a0_z a0_past a0_slots a0_isSaved a0_pad a0_yes a0_no a0_yesThen a0_noThen a0_yesRound a0_yesRule a0_noRound a0_noRule a0_orders : Nat) (c_z : Nat → Int32) (c_past : Nat → Int32) (c_slots : Nat → Int32) (c_isSaved : Nat → Int32) (c_pastMany : Int32) (c_pad : Nat → Int32) (c_typed : Int32) (c_yes : Nat → Int32) (c_no : Nat → Int32) (c_yesThen : Nat → Int32) (c_noThen : Nat → Int32) (c_yesRound : Nat → Int32) (c_yesRule : Nat → Int32) (c_noRound : Nat → Int32) (c_noRule : Nat → Int32) (c_rounds : Int32) (c_isMore : Int32) (c_orders : Nat → Int32) (c_orderMany : Int32) (c_spot : Int32) (c_bad : Int32) (v1 : Int32) (o0 : Int32) (o1 : Nat → Int32) (h : f_X6_does c_z c_orders v1 = some (o0, o1)) : MI l yX6_does wsX6_does ({ frames := 3, cells := 0, slots := 0, locals := 64 }) [.ref a0, .int v1] (dC, dI) ck (wX6 ck a0 a0_z a0_past a0_slots a0_isSaved a0_pad a0_yes a0_no a0_yesThen a0_noThen a0_yesRound a0_yesRule a0_noRound a0_noRule a0_orders c_z c_past c_slots c_isSaved c_pastMany c_pad c_typed c_yes c_no c_yesThen c_noThen c_yesRound c_yesRule c_noRound c_noRule c_rounds c_isMore c_orders c_orderMany c_spot c_bad) (wX6 ck a0 a0_z a0_past a0_slots a0_isSaved a0_pad a0_yes a0_no a0_yesThen a0_noThen a0_yesRound a0_yesRule a0_noRound a0_noRule a0_orders o1 c_past c_slots c_isSaved c_pastMany c_pad c_typed c_yes c_no c_yesThen c_noThen c_yesRound c_yesRule c_noRound c_noRule c_rounds c_isMore c_orders c_orderMany c_spot c_bad) o0 := by
  refine MI.ofW (cc := cX6_does) (maxL := 8) (ret := (some .boolean)) (by decide +kernel) rfl (Nat.le_of_ble_eq_true rfl) ?_
  intro p e s m below meth c hx hb hr hml hts hown hlk hK hP A hA hD ls hl
  have hS : va_S A s.heap s.heap [] := va_S.rf
  have hown : s.vm.findClass RX6 = some m.cls := hown
  have hl : lv_has ls 8 [(0, .ref a0), (1, .int v1)] := hl
  have iu_X6 : ∀ w ∈ u_ws RX6 TX6 21, w ∈ wsX6_does := fun w h => List.mem_cons_of_mem _ (List.mem_append_right _ h)
  unfold f_X6_does at h
  refine lv_aload_n hx hb dX6_does_0 rfl (lv_at hl 0 rfl) ?_
  refine va_get (ci := 6) (v := .ref a0_orders) (C := RX6) (T := TX6) (N := 21) hx hb hts iu_X6 hown hK.1 hP 0 rfl rfl 17 (by decide) (hts (.fieldLink RX6 51 "SheetMarksModel" "orders" "[I") (List.mem_of_getElem? (i := 1) rfl)) (fun _ h9 => h9) rfl dX6_does_1 ?_
  refine lv_iconst (v := (5 : Int32)) hx hb dX6_does_4 rfl ?_
  refine lv_iload_n hx hb dX6_does_5 rfl (lv_at hl 1 rfl) ?_
  refine lv_imul hx hb dX6_does_6 ?_
  refine lv_iconst (v := (1 : Int32)) hx hb dX6_does_7 rfl ?_
  refine lv_iadd hx hb dX6_does_8 ?_
  obtain ⟨g_9, h⟩ := gd_e h
  refine va_iald hx hb hK.1 hP 14 0 rfl rfl g_9 dX6_does_9 ?_
  refine lv_topi (fun v2_10 e_10 => ?_)
  have h := lt'_e e_10 h
  refine lv_istore_n (lv' := [(2, .int v2_10), (0, .ref a0), (1, .int v1)]) hx hb dX6_does_10 rfl hl (by decide) rfl (fun ls hl => ?_)
  refine lv_aload_n hx hb dX6_does_11 rfl (lv_at hl 1 rfl) ?_
  refine va_get (ci := 6) (v := .ref a0_orders) (C := RX6) (T := TX6) (N := 21) hx hb hts iu_X6 hown hK.1 hP 0 rfl rfl 17 (by decide) (hts (.fieldLink RX6 51 "SheetMarksModel" "orders" "[I") (List.mem_of_getElem? (i := 1) rfl)) (fun _ h9 => h9) rfl dX6_does_12 ?_
  refine lv_iconst (v := (5 : Int32)) hx hb dX6_does_15 rfl ?_
  refine lv_iload_n hx hb dX6_does_16 rfl (lv_at hl 2 rfl) ?_
  refine lv_imul hx hb dX6_does_17 ?_
  refine lv_iconst (v := (2 : Int32)) hx hb dX6_does_18 rfl ?_
  refine lv_iadd hx hb dX6_does_19 ?_
  obtain ⟨g_20, h⟩ := gd_e h
  refine va_iald hx hb hK.1 hP 14 0 rfl rfl g_20 dX6_does_20 ?_
  refine lv_topi (fun v3_21 e_21 => ?_)
  have h := lt'_e e_21 h
  refine lv_istore_n (lv' := [(3, .int v3_21), (2, .int v2_10), (0, .ref a0), (1, .int v1)]) hx hb dX6_does_21 rfl hl (by decide) rfl (fun ls hl => ?_)
  refine lv_aload_n hx hb dX6_does_22 rfl (lv_at hl 2 rfl) ?_
  refine va_get (ci := 6) (v := .ref a0_orders) (C := RX6) (T := TX6) (N := 21) hx hb hts iu_X6 hown hK.1 hP 0 rfl rfl 17 (by decide) (hts (.fieldLink RX6 51 "SheetMarksModel" "orders" "[I") (List.mem_of_getElem? (i := 1) rfl)) (fun _ h9 => h9) rfl dX6_does_23 ?_
  refine lv_iconst (v := (5 : Int32)) hx hb dX6_does_26 rfl ?_
  refine lv_iload_n hx hb dX6_does_27 rfl (lv_at hl 3 rfl) ?_
  refine lv_imul hx hb dX6_does_28 ?_
  refine lv_iconst (v := (3 : Int32)) hx hb dX6_does_29 rfl ?_
  refine lv_iadd hx hb dX6_does_30 ?_
  obtain ⟨g_31, h⟩ := gd_e h
  refine va_iald hx hb hK.1 hP 14 0 rfl rfl g_31 dX6_does_31 ?_
  refine lv_topi (fun v4_32 e_32 => ?_)
  have h := lt'_e e_32 h
  refine lv_istore (lv' := [(4, .int v4_32), (3, .int v3_21), (2, .int v2_10), (0, .ref a0), (1, .int v1)]) hx hb dX6_does_32 hl (by decide) rfl (fun ls hl => ?_)
  refine lv_aload_n hx hb dX6_does_34 rfl (lv_at hl 3 rfl) ?_
  refine va_get (ci := 6) (v := .ref a0_orders) (C := RX6) (T := TX6) (N := 21) hx hb hts iu_X6 hown hK.1 hP 0 rfl rfl 17 (by decide) (hts (.fieldLink RX6 51 "SheetMarksModel" "orders" "[I") (List.mem_of_getElem? (i := 1) rfl)) (fun _ h9 => h9) rfl dX6_does_35 ?_
  refine lv_iconst (v := (5 : Int32)) hx hb dX6_does_38 rfl ?_
  refine lv_iload_n hx hb dX6_does_39 rfl (lv_at hl 4 rfl) ?_
  refine lv_imul hx hb dX6_does_40 ?_
  refine lv_iconst (v := (4 : Int32)) hx hb dX6_does_41 rfl ?_
  refine lv_iadd hx hb dX6_does_42 ?_
  obtain ⟨g_43, h⟩ := gd_e h
  refine va_iald hx hb hK.1 hP 14 0 rfl rfl g_43 dX6_does_43 ?_
  refine lv_topi (fun v5_44 e_44 => ?_)
  have h := lt'_e e_44 h
  refine lv_istore (lv' := [(5, .int v5_44), (4, .int v4_32), (3, .int v3_21), (2, .int v2_10), (0, .ref a0), (1, .int v1)]) hx hb dX6_does_44 hl (by decide) rfl (fun ls hl => ?_)
  refine lv_aload_n hx hb dX6_does_46 rfl (lv_at hl 4 rfl) ?_
  refine va_get (ci := 6) (v := .ref a0_orders) (C := RX6) (T := TX6) (N := 21) hx hb hts iu_X6 hown hK.1 hP 0 rfl rfl 17 (by decide) (hts (.fieldLink RX6 51 "SheetMarksModel" "orders" "[I") (List.mem_of_getElem? (i := 1) rfl)) (fun _ h9 => h9) rfl dX6_does_47 ?_
  refine lv_iconst (v := (5 : Int32)) hx hb dX6_does_50 rfl ?_
  refine lv_iload_n hx hb dX6_does_51 rfl (lv_at hl 5 rfl) ?_
  refine lv_imul hx hb dX6_does_52 ?_
  obtain ⟨g_53, h⟩ := gd_e h
  refine va_iald hx hb hK.1 hP 14 0 rfl rfl g_53 dX6_does_53 ?_
  refine lv_topi (fun v6_54 e_54 => ?_)
  have h := lt'_e e_54 h
  refine lv_istore (lv' := [(6, .int v6_54), (5, .int v5_44), (4, .int v4_32), (3, .int v3_21), (2, .int v2_10), (0, .ref a0), (1, .int v1)]) hx hb dX6_does_54 hl (by decide) rfl (fun ls hl => ?_)
  refine lv_iload hx hb dX6_does_56 (lv_at hl 0 rfl) ?_
  refine lv_bipush (v := (45 : Int32)) hx hb dX6_does_58 rfl ?_
  refine lv_icmp_ne (tgt := 93) hx hb dX6_does_60 (by decide) (fun c_60 => ?_) (fun c_60 => ?_)
  · have h := if_f h c_60
    refine lv_iload hx hb dX6_does_93 (lv_at hl 0 rfl) ?_
    refine lv_bipush (v := (104 : Int32)) hx hb dX6_does_95 rfl ?_
    refine lv_icmp_ne (tgt := 135) hx hb dX6_does_97 (by decide) (fun c_97 => ?_) (fun c_97 => ?_)
    · have h := if_f h c_97
      refine lv_aload_n hx hb dX6_does_135 rfl (lv_at hl 5 rfl) ?_
      refine va_get (ci := 6) (v := .ref a0_z) (C := RX6) (T := TX6) (N := 21) hx hb hts iu_X6 hown hK.1 hP 0 rfl rfl 0 (by decide) (hts (.fieldLink RX6 7 "SheetMarksModel" "z" "[I") (List.mem_of_getElem? (i := 2) rfl)) (fun _ h9 => h9) rfl dX6_does_136 ?_
      refine lv_iconst (v := (1 : Int32)) hx hb dX6_does_139 rfl ?_
      obtain ⟨g_140, h⟩ := gd_e h
      refine va_iald hx hb hK.1 hP 1 0 rfl rfl g_140 dX6_does_140 ?_
      refine lv_bipush (v := (40 : Int32)) hx hb dX6_does_141 rfl ?_
      have hJ166 : ∀ (t0_J166 : Int32), f_X6_does_J166 c_z v2_10 v3_21 v4_32 v5_44 v6_54 t0_J166 = some (o0, o1) → ∀ (H : Heap) (locs : List Loc), va_P (dC, dI) vwCl (wX6 ck a0 a0_z a0_past a0_slots a0_isSaved a0_pad a0_yes a0_no a0_yesThen a0_noThen a0_yesRound a0_yesRule a0_noRound a0_noRule a0_orders c_z c_past c_slots c_isSaved c_pastMany c_pad c_typed c_yes c_no c_yesThen c_noThen c_yesRound c_yesRule c_noRound c_noRule c_rounds c_isMore c_orders c_orderMany c_spot c_bad) H → va_D A (wX6 ck a0 a0_z a0_past a0_slots a0_isSaved a0_pad a0_yes a0_no a0_yesThen a0_noThen a0_yesRound a0_yesRule a0_noRound a0_noRule a0_orders c_z c_past c_slots c_isSaved c_pastMany c_pad c_typed c_yes c_no c_yesThen c_noThen c_yesRound c_yesRule c_noRound c_noRule c_rounds c_isMore c_orders c_orderMany c_spot c_bad) → va_S A s.heap H locs → ∀ ls : Array Slot, lv_has ls 8 [(6, .int v6_54), (5, .int v5_44), (4, .int v4_32), (3, .int v3_21), (2, .int v2_10), (0, .ref a0)] → W p l e (headSpec wsX6_does ({ frames := 3, cells := 0, slots := 0, locals := 64 })).room s m [.ref a0, .int v1].toArray below meth c H locs 0 0 (MQ below (QI (dC, dI) (wX6 ck a0 a0_z a0_past a0_slots a0_isSaved a0_pad a0_yes a0_no a0_yesThen a0_noThen a0_yesRound a0_yesRule a0_noRound a0_noRule a0_orders o1 c_past c_slots c_isSaved c_pastMany c_pad c_typed c_yes c_no c_yesThen c_noThen c_yesRound c_yesRule c_noRound c_noRule c_rounds c_isMore c_orders c_orderMany c_spot c_bad) o0 A) [.ref a0, .int v1].toArray s 0 0 A) (F0 m 166 ls [.int t0_J166]) := by
        intro t0_J166 h H locs hP hD hS ls hl
        unfold f_X6_does_J166 at h
        refine lv_istore (lv' := [(7, .int t0_J166), (6, .int v6_54), (5, .int v5_44), (4, .int v4_32), (3, .int v3_21), (2, .int v2_10), (0, .ref a0)]) hx hb dX6_does_166 hl (by decide) rfl (fun ls hl => ?_)
        refine lv_iload hx hb dX6_does_168 (lv_at hl 0 rfl) ?_
        refine lv_if_eq (tgt := 206) hx hb dX6_does_170 (by decide) (fun c_170 => ?_) (fun c_170 => ?_)
        · have h := if_t h c_170
          refine lv_iload hx hb dX6_does_206 (lv_at hl 0 rfl) ?_
          obtain ⟨n_208, h⟩ := bo_e h
          cases h
          exact eMz hx hb hr hlk hP hD hS rfl n_208.1 dX6_does_208
        · have h := if_f h c_170
          refine lv_aload_n hx hb dX6_does_173 rfl (lv_at hl 6 rfl) ?_
          refine lv_iload hx hb dX6_does_174 (lv_at hl 1 rfl) ?_
          refine lv_bipush (v := (119 : Int32)) hx hb dX6_does_176 rfl ?_
          refine lv_icmp_ne (tgt := 185) hx hb dX6_does_178 (by decide) (fun c_178 => ?_) (fun c_178 => ?_)
          · have h := if_f h c_178
            refine lv_iload hx hb dX6_does_185 (lv_at hl 1 rfl) ?_
            refine lv_bipush (v := (115 : Int32)) hx hb dX6_does_187 rfl ?_
            refine lv_icmp_ne (tgt := 196) hx hb dX6_does_189 (by decide) (fun c_189 => ?_) (fun c_189 => ?_)
            · have h := if_f h c_189
              refine lv_iconst (v := (1 : Int32)) hx hb dX6_does_196 rfl ?_
              refine lv_iload_n hx hb dX6_does_197 rfl (lv_at hl 5 rfl) ?_
              refine lv_iload_n hx hb dX6_does_198 rfl (lv_at hl 4 rfl) ?_
              refine lv_iload hx hb dX6_does_199 (lv_at hl 3 rfl) ?_
              refine lv_iload hx hb dX6_does_201 (lv_at hl 2 rfl) ?_
              obtain ⟨c_z_203, q_203, h⟩ := ob1_e h
              refine cMV (wc := wX6 ck a0 a0_z a0_past a0_slots a0_isSaved a0_pad a0_yes a0_no a0_yesThen a0_noThen a0_yesRound a0_yesRule a0_noRound a0_noRule a0_orders c_z c_past c_slots c_isSaved c_pastMany c_pad c_typed c_yes c_no c_yesThen c_noThen c_yesRound c_yesRule c_noRound c_noRule c_rounds c_isMore c_orders c_orderMany c_spot c_bad) (wr := []) (w1 := wX6 ck a0 a0_z a0_past a0_slots a0_isSaved a0_pad a0_yes a0_no a0_yesThen a0_noThen a0_yesRound a0_yesRule a0_noRound a0_noRule a0_orders c_z_203 c_past c_slots c_isSaved c_pastMany c_pad c_typed c_yes c_no c_yesThen c_noThen c_yesRound c_yesRule c_noRound c_noRule c_rounds c_isMore c_orders c_orderMany c_spot c_bad) (wn := wX6 ck a0 a0_z a0_past a0_slots a0_isSaved a0_pad a0_yes a0_no a0_yesThen a0_noThen a0_yesRound a0_yesRule a0_noRound a0_noRule a0_orders c_z_203 c_past c_slots c_isSaved c_pastMany c_pad c_typed c_yes c_no c_yesThen c_noThen c_yesRound c_yesRule c_noRound c_noRule c_rounds c_isMore c_orders c_orderMany c_spot c_bad) ⟨hx, hb, hml, hown, hts⟩ hK hP hD hS hA [0, 1, 2, 3, 4, 5, 6, 7, 8, 9, 10, 11, 12, 13, 14] [] [0, 1, 2, 3, 4, 5, 6, 7, 8, 9, 10, 11, 12, 13, 14] rfl (by decide) rfl (by decide) (by decide) rfl (by decide) (c_X6_addThree l dC dI ck a0 a0_z a0_past a0_slots a0_isSaved a0_pad a0_yes a0_no a0_yesThen a0_noThen a0_yesRound a0_yesRule a0_noRound a0_noRule a0_orders c_z c_past c_slots c_isSaved c_pastMany c_pad c_typed c_yes c_no c_yesThen c_noThen c_yesRound c_yesRule c_noRound c_noRule c_rounds c_isMore c_orders c_orderMany c_spot c_bad (1 : Int32) v2_10 v3_21 v4_32 v5_44 c_z_203 q_203) (cwV 5 hts gX6_does_X6_addThree rfl rfl rfl (by decide +kernel) ⟨Nat.le_of_ble_eq_true rfl, Nat.le_of_ble_eq_true rfl⟩) 0 rfl rfl rfl hl.1 rfl (Nat.le_of_ble_eq_true rfl) dX6_does_203 ⟨Nat.zero_le _, Nat.zero_le _⟩ (fun H locs hP hD hS => ?_)
              refine lv_iload hx hb dX6_does_206 (lv_at hl 0 rfl) ?_
              obtain ⟨n_208, h⟩ := bo_e h
              cases h
              exact eMz hx hb hr hlk hP hD hS rfl n_208.1 dX6_does_208
            · have h := if_t h c_189
              refine lv_iconst (v := (2 : Int32)) hx hb dX6_does_192 rfl ?_
              refine lv_goto (tgt := 197) hx hb dX6_does_193 (by decide) ?_
              refine lv_iload_n hx hb dX6_does_197 rfl (lv_at hl 5 rfl) ?_
              refine lv_iload_n hx hb dX6_does_198 rfl (lv_at hl 4 rfl) ?_
              refine lv_iload hx hb dX6_does_199 (lv_at hl 3 rfl) ?_
              refine lv_iload hx hb dX6_does_201 (lv_at hl 2 rfl) ?_
              obtain ⟨c_z_203, q_203, h⟩ := ob1_e h
              refine cMV (wc := wX6 ck a0 a0_z a0_past a0_slots a0_isSaved a0_pad a0_yes a0_no a0_yesThen a0_noThen a0_yesRound a0_yesRule a0_noRound a0_noRule a0_orders c_z c_past c_slots c_isSaved c_pastMany c_pad c_typed c_yes c_no c_yesThen c_noThen c_yesRound c_yesRule c_noRound c_noRule c_rounds c_isMore c_orders c_orderMany c_spot c_bad) (wr := []) (w1 := wX6 ck a0 a0_z a0_past a0_slots a0_isSaved a0_pad a0_yes a0_no a0_yesThen a0_noThen a0_yesRound a0_yesRule a0_noRound a0_noRule a0_orders c_z_203 c_past c_slots c_isSaved c_pastMany c_pad c_typed c_yes c_no c_yesThen c_noThen c_yesRound c_yesRule c_noRound c_noRule c_rounds c_isMore c_orders c_orderMany c_spot c_bad) (wn := wX6 ck a0 a0_z a0_past a0_slots a0_isSaved a0_pad a0_yes a0_no a0_yesThen a0_noThen a0_yesRound a0_yesRule a0_noRound a0_noRule a0_orders c_z_203 c_past c_slots c_isSaved c_pastMany c_pad c_typed c_yes c_no c_yesThen c_noThen c_yesRound c_yesRule c_noRound c_noRule c_rounds c_isMore c_orders c_orderMany c_spot c_bad) ⟨hx, hb, hml, hown, hts⟩ hK hP hD hS hA [0, 1, 2, 3, 4, 5, 6, 7, 8, 9, 10, 11, 12, 13, 14] [] [0, 1, 2, 3, 4, 5, 6, 7, 8, 9, 10, 11, 12, 13, 14] rfl (by decide) rfl (by decide) (by decide) rfl (by decide) (c_X6_addThree l dC dI ck a0 a0_z a0_past a0_slots a0_isSaved a0_pad a0_yes a0_no a0_yesThen a0_noThen a0_yesRound a0_yesRule a0_noRound a0_noRule a0_orders c_z c_past c_slots c_isSaved c_pastMany c_pad c_typed c_yes c_no c_yesThen c_noThen c_yesRound c_yesRule c_noRound c_noRule c_rounds c_isMore c_orders c_orderMany c_spot c_bad (2 : Int32) v2_10 v3_21 v4_32 v5_44 c_z_203 q_203) (cwV 5 hts gX6_does_X6_addThree rfl rfl rfl (by decide +kernel) ⟨Nat.le_of_ble_eq_true rfl, Nat.le_of_ble_eq_true rfl⟩) 0 rfl rfl rfl hl.1 rfl (Nat.le_of_ble_eq_true rfl) dX6_does_203 ⟨Nat.zero_le _, Nat.zero_le _⟩ (fun H locs hP hD hS => ?_)
              refine lv_iload hx hb dX6_does_206 (lv_at hl 0 rfl) ?_
              obtain ⟨n_208, h⟩ := bo_e h
              cases h
              exact eMz hx hb hr hlk hP hD hS rfl n_208.1 dX6_does_208
          · have h := if_t h c_178
            refine lv_iconst (v := (3 : Int32)) hx hb dX6_does_181 rfl ?_
            refine lv_goto (tgt := 197) hx hb dX6_does_182 (by decide) ?_
            refine lv_iload_n hx hb dX6_does_197 rfl (lv_at hl 5 rfl) ?_
            refine lv_iload_n hx hb dX6_does_198 rfl (lv_at hl 4 rfl) ?_
            refine lv_iload hx hb dX6_does_199 (lv_at hl 3 rfl) ?_
            refine lv_iload hx hb dX6_does_201 (lv_at hl 2 rfl) ?_
            obtain ⟨c_z_203, q_203, h⟩ := ob1_e h
            refine cMV (wc := wX6 ck a0 a0_z a0_past a0_slots a0_isSaved a0_pad a0_yes a0_no a0_yesThen a0_noThen a0_yesRound a0_yesRule a0_noRound a0_noRule a0_orders c_z c_past c_slots c_isSaved c_pastMany c_pad c_typed c_yes c_no c_yesThen c_noThen c_yesRound c_yesRule c_noRound c_noRule c_rounds c_isMore c_orders c_orderMany c_spot c_bad) (wr := []) (w1 := wX6 ck a0 a0_z a0_past a0_slots a0_isSaved a0_pad a0_yes a0_no a0_yesThen a0_noThen a0_yesRound a0_yesRule a0_noRound a0_noRule a0_orders c_z_203 c_past c_slots c_isSaved c_pastMany c_pad c_typed c_yes c_no c_yesThen c_noThen c_yesRound c_yesRule c_noRound c_noRule c_rounds c_isMore c_orders c_orderMany c_spot c_bad) (wn := wX6 ck a0 a0_z a0_past a0_slots a0_isSaved a0_pad a0_yes a0_no a0_yesThen a0_noThen a0_yesRound a0_yesRule a0_noRound a0_noRule a0_orders c_z_203 c_past c_slots c_isSaved c_pastMany c_pad c_typed c_yes c_no c_yesThen c_noThen c_yesRound c_yesRule c_noRound c_noRule c_rounds c_isMore c_orders c_orderMany c_spot c_bad) ⟨hx, hb, hml, hown, hts⟩ hK hP hD hS hA [0, 1, 2, 3, 4, 5, 6, 7, 8, 9, 10, 11, 12, 13, 14] [] [0, 1, 2, 3, 4, 5, 6, 7, 8, 9, 10, 11, 12, 13, 14] rfl (by decide) rfl (by decide) (by decide) rfl (by decide) (c_X6_addThree l dC dI ck a0 a0_z a0_past a0_slots a0_isSaved a0_pad a0_yes a0_no a0_yesThen a0_noThen a0_yesRound a0_yesRule a0_noRound a0_noRule a0_orders c_z c_past c_slots c_isSaved c_pastMany c_pad c_typed c_yes c_no c_yesThen c_noThen c_yesRound c_yesRule c_noRound c_noRule c_rounds c_isMore c_orders c_orderMany c_spot c_bad (3 : Int32) v2_10 v3_21 v4_32 v5_44 c_z_203 q_203) (cwV 5 hts gX6_does_X6_addThree rfl rfl rfl (by decide +kernel) ⟨Nat.le_of_ble_eq_true rfl, Nat.le_of_ble_eq_true rfl⟩) 0 rfl rfl rfl hl.1 rfl (Nat.le_of_ble_eq_true rfl) dX6_does_203 ⟨Nat.zero_le _, Nat.zero_le _⟩ (fun H locs hP hD hS => ?_)
            refine lv_iload hx hb dX6_does_206 (lv_at hl 0 rfl) ?_
            obtain ⟨n_208, h⟩ := bo_e h
            cases h
            exact eMz hx hb hr hlk hP hD hS rfl n_208.1 dX6_does_208
      have hJ165 : f_X6_does_J165 c_z v2_10 v3_21 v4_32 v5_44 v6_54 = some (o0, o1) → ∀ (H : Heap) (locs : List Loc), va_P (dC, dI) vwCl (wX6 ck a0 a0_z a0_past a0_slots a0_isSaved a0_pad a0_yes a0_no a0_yesThen a0_noThen a0_yesRound a0_yesRule a0_noRound a0_noRule a0_orders c_z c_past c_slots c_isSaved c_pastMany c_pad c_typed c_yes c_no c_yesThen c_noThen c_yesRound c_yesRule c_noRound c_noRule c_rounds c_isMore c_orders c_orderMany c_spot c_bad) H → va_D A (wX6 ck a0 a0_z a0_past a0_slots a0_isSaved a0_pad a0_yes a0_no a0_yesThen a0_noThen a0_yesRound a0_yesRule a0_noRound a0_noRule a0_orders c_z c_past c_slots c_isSaved c_pastMany c_pad c_typed c_yes c_no c_yesThen c_noThen c_yesRound c_yesRule c_noRound c_noRule c_rounds c_isMore c_orders c_orderMany c_spot c_bad) → va_S A s.heap H locs → ∀ ls : Array Slot, lv_has ls 8 [(6, .int v6_54), (5, .int v5_44), (4, .int v4_32), (3, .int v3_21), (2, .int v2_10), (0, .ref a0)] → W p l e (headSpec wsX6_does ({ frames := 3, cells := 0, slots := 0, locals := 64 })).room s m [.ref a0, .int v1].toArray below meth c H locs 0 0 (MQ below (QI (dC, dI) (wX6 ck a0 a0_z a0_past a0_slots a0_isSaved a0_pad a0_yes a0_no a0_yesThen a0_noThen a0_yesRound a0_yesRule a0_noRound a0_noRule a0_orders o1 c_past c_slots c_isSaved c_pastMany c_pad c_typed c_yes c_no c_yesThen c_noThen c_yesRound c_yesRule c_noRound c_noRule c_rounds c_isMore c_orders c_orderMany c_spot c_bad) o0 A) [.ref a0, .int v1].toArray s 0 0 A) (F0 m 165 ls []) := by
        intro  h H locs hP hD hS ls hl
        unfold f_X6_does_J165 at h
        refine lv_iconst (v := (0 : Int32)) hx hb dX6_does_165 rfl ?_
        exact hJ166 _ h _ _ hP hD hS _ (lv_sub hl [0, 1, 2, 3, 4, 5] rfl)
      refine lv_icmp_ge (tgt := 165) hx hb dX6_does_143 (by decide) (fun c_143 => ?_) (fun c_143 => ?_)
      · have h := if_t h c_143
        exact hJ165 h _ _ hP hD hS _ (lv_sub hl [0, 1, 2, 3, 4, 5] rfl)
      · have h := if_f h c_143
        refine lv_iload hx hb dX6_does_146 (lv_at hl 0 rfl) ?_
        refine lv_bipush (v := (119 : Int32)) hx hb dX6_does_148 rfl ?_
        have hJ161 : f_X6_does_J161 c_z v2_10 v3_21 v4_32 v5_44 v6_54 = some (o0, o1) → ∀ (H : Heap) (locs : List Loc), va_P (dC, dI) vwCl (wX6 ck a0 a0_z a0_past a0_slots a0_isSaved a0_pad a0_yes a0_no a0_yesThen a0_noThen a0_yesRound a0_yesRule a0_noRound a0_noRule a0_orders c_z c_past c_slots c_isSaved c_pastMany c_pad c_typed c_yes c_no c_yesThen c_noThen c_yesRound c_yesRule c_noRound c_noRule c_rounds c_isMore c_orders c_orderMany c_spot c_bad) H → va_D A (wX6 ck a0 a0_z a0_past a0_slots a0_isSaved a0_pad a0_yes a0_no a0_yesThen a0_noThen a0_yesRound a0_yesRule a0_noRound a0_noRule a0_orders c_z c_past c_slots c_isSaved c_pastMany c_pad c_typed c_yes c_no c_yesThen c_noThen c_yesRound c_yesRule c_noRound c_noRule c_rounds c_isMore c_orders c_orderMany c_spot c_bad) → va_S A s.heap H locs → ∀ ls : Array Slot, lv_has ls 8 [(6, .int v6_54), (5, .int v5_44), (4, .int v4_32), (3, .int v3_21), (2, .int v2_10), (0, .ref a0)] → W p l e (headSpec wsX6_does ({ frames := 3, cells := 0, slots := 0, locals := 64 })).room s m [.ref a0, .int v1].toArray below meth c H locs 0 0 (MQ below (QI (dC, dI) (wX6 ck a0 a0_z a0_past a0_slots a0_isSaved a0_pad a0_yes a0_no a0_yesThen a0_noThen a0_yesRound a0_yesRule a0_noRound a0_noRule a0_orders o1 c_past c_slots c_isSaved c_pastMany c_pad c_typed c_yes c_no c_yesThen c_noThen c_yesRound c_yesRule c_noRound c_noRule c_rounds c_isMore c_orders c_orderMany c_spot c_bad) o0 A) [.ref a0, .int v1].toArray s 0 0 A) (F0 m 161 ls []) := by
          intro  h H locs hP hD hS ls hl
          unfold f_X6_does_J161 at h
          refine lv_iconst (v := (1 : Int32)) hx hb dX6_does_161 rfl ?_
          refine lv_goto (tgt := 166) hx hb dX6_does_162 (by decide) ?_
          exact hJ166 _ h _ _ hP hD hS _ (lv_sub hl [0, 1, 2, 3, 4, 5] rfl)
        refine lv_icmp_eq (tgt := 161) hx hb dX6_does_150 (by decide) (fun c_150 => ?_) (fun c_150 => ?_)
        · have h := if_t h c_150
          exact hJ161 h _ _ hP hD hS _ (lv_sub hl [0, 1, 2, 3, 4, 5] rfl)
        · have h := if_f h c_150
          refine lv_aload_n hx hb dX6_does_153 rfl (lv_at hl 5 rfl) ?_
          refine lv_iload_n hx hb dX6_does_154 rfl (lv_at hl 4 rfl) ?_
          obtain ⟨r_155, q_155, h⟩ := ob1_e h
          refine cRV (wc := wX6 ck a0 a0_z a0_past a0_slots a0_isSaved a0_pad a0_yes a0_no a0_yesThen a0_noThen a0_yesRound a0_yesRule a0_noRound a0_noRule a0_orders c_z c_past c_slots c_isSaved c_pastMany c_pad c_typed c_yes c_no c_yesThen c_noThen c_yesRound c_yesRule c_noRound c_noRule c_rounds c_isMore c_orders c_orderMany c_spot c_bad) ⟨hx, hb, hml, hown, hts⟩ hK hP [0, 1, 2, 3, 4, 5, 6, 7, 8, 9, 10, 11, 12, 13, 14] rfl (c_X6_isPlayer l dC dI ck a0 a0_z a0_past a0_slots a0_isSaved a0_pad a0_yes a0_no a0_yesThen a0_noThen a0_yesRound a0_yesRule a0_noRound a0_noRule a0_orders c_z c_past c_slots c_isSaved c_pastMany c_pad c_typed c_yes c_no c_yesThen c_noThen c_yesRound c_yesRule c_noRound c_noRule c_rounds c_isMore c_orders c_orderMany c_spot c_bad v2_10 r_155 q_155) (cwV 1 hts gX6_does_X6_isPlayer rfl rfl rfl (by decide +kernel) ⟨Nat.le_of_ble_eq_true rfl, Nat.le_of_ble_eq_true rfl⟩) 0 rfl rfl rfl hl.1 rfl (Nat.le_of_ble_eq_true rfl) dX6_does_155 ⟨Nat.zero_le _, Nat.zero_le _⟩ ?_
          refine lv_if_eq (tgt := 165) hx hb dX6_does_158 (by decide) (fun c_158 => ?_) (fun c_158 => ?_)
          · have h := if_t h c_158
            exact hJ165 h _ _ hP hD hS _ (lv_sub hl [0, 1, 2, 3, 4, 5] rfl)
          · have h := if_f h c_158
            exact hJ161 h _ _ hP hD hS _ (lv_sub hl [0, 1, 2, 3, 4, 5] rfl)
    · have h := if_t h c_97
      refine lv_aload_n hx hb dX6_does_100 rfl (lv_at hl 5 rfl) ?_
      refine lv_iload_n hx hb dX6_does_101 rfl (lv_at hl 4 rfl) ?_
      refine lv_iload_n hx hb dX6_does_102 rfl (lv_at hl 3 rfl) ?_
      obtain ⟨r_103, q_103, h⟩ := ob1_e h
      refine cRV (wc := wX6 ck a0 a0_z a0_past a0_slots a0_isSaved a0_pad a0_yes a0_no a0_yesThen a0_noThen a0_yesRound a0_yesRule a0_noRound a0_noRule a0_orders c_z c_past c_slots c_isSaved c_pastMany c_pad c_typed c_yes c_no c_yesThen c_noThen c_yesRound c_yesRule c_noRound c_noRule c_rounds c_isMore c_orders c_orderMany c_spot c_bad) ⟨hx, hb, hml, hown, hts⟩ hK hP [0, 1, 2, 3, 4, 5, 6, 7, 8, 9, 10, 11, 12, 13, 14] rfl (c_X6_whyNotHolds l dC dI ck a0 a0_z a0_past a0_slots a0_isSaved a0_pad a0_yes a0_no a0_yesThen a0_noThen a0_yesRound a0_yesRule a0_noRound a0_noRule a0_orders c_z c_past c_slots c_isSaved c_pastMany c_pad c_typed c_yes c_no c_yesThen c_noThen c_yesRound c_yesRule c_noRound c_noRule c_rounds c_isMore c_orders c_orderMany c_spot c_bad v2_10 v3_21 r_103 q_103) (cwV 2 hts gX6_does_X6_whyNotHolds rfl rfl rfl (by decide +kernel) ⟨Nat.le_of_ble_eq_true rfl, Nat.le_of_ble_eq_true rfl⟩) 0 rfl rfl rfl hl.1 rfl (Nat.le_of_ble_eq_true rfl) dX6_does_103 ⟨Nat.zero_le _, Nat.zero_le _⟩ ?_
      refine lv_if_ne (tgt := 113) hx hb dX6_does_106 (by decide) (fun c_106 => ?_) (fun c_106 => ?_)
      · have h := if_f h c_106
        refine lv_iconst (v := (0 : Int32)) hx hb dX6_does_113 rfl ?_
        refine lv_istore (lv' := [(7, .int (0 : Int32)), (6, .int v6_54), (5, .int v5_44), (4, .int v4_32), (3, .int v3_21), (2, .int v2_10), (0, .ref a0), (1, .int v1)]) hx hb dX6_does_114 hl (by decide) rfl (fun ls hl => ?_)
        refine lv_iload hx hb dX6_does_116 (lv_at hl 0 rfl) ?_
        refine lv_if_eq (tgt := 206) hx hb dX6_does_118 (by decide) (fun c_118 => ?_) (fun c_118 => ?_)
        · have h := if_t h c_118
          refine lv_iload hx hb dX6_does_206 (lv_at hl 0 rfl) ?_
          cases h
          exact eMz hx hb hr hlk hP hD hS rfl rfl dX6_does_208
        · have h := if_f h c_118
          refine lv_aload_n hx hb dX6_does_121 rfl (lv_at hl 6 rfl) ?_
          refine lv_iconst (v := (0 : Int32)) hx hb dX6_does_122 rfl ?_
          refine lv_iload_n hx hb dX6_does_123 rfl (lv_at hl 5 rfl) ?_
          refine lv_iload_n hx hb dX6_does_124 rfl (lv_at hl 4 rfl) ?_
          refine lv_bipush (v := (-6 : Int32)) hx hb dX6_does_125 rfl ?_
          refine lv_bipush (v := (-6 : Int32)) hx hb dX6_does_127 rfl ?_
          obtain ⟨c_z_129, q_129, h⟩ := ob1_e h
          refine cMV (wc := wX6 ck a0 a0_z a0_past a0_slots a0_isSaved a0_pad a0_yes a0_no a0_yesThen a0_noThen a0_yesRound a0_yesRule a0_noRound a0_noRule a0_orders c_z c_past c_slots c_isSaved c_pastMany c_pad c_typed c_yes c_no c_yesThen c_noThen c_yesRound c_yesRule c_noRound c_noRule c_rounds c_isMore c_orders c_orderMany c_spot c_bad) (wr := []) (w1 := wX6 ck a0 a0_z a0_past a0_slots a0_isSaved a0_pad a0_yes a0_no a0_yesThen a0_noThen a0_yesRound a0_yesRule a0_noRound a0_noRule a0_orders c_z_129 c_past c_slots c_isSaved c_pastMany c_pad c_typed c_yes c_no c_yesThen c_noThen c_yesRound c_yesRule c_noRound c_noRule c_rounds c_isMore c_orders c_orderMany c_spot c_bad) (wn := wX6 ck a0 a0_z a0_past a0_slots a0_isSaved a0_pad a0_yes a0_no a0_yesThen a0_noThen a0_yesRound a0_yesRule a0_noRound a0_noRule a0_orders c_z_129 c_past c_slots c_isSaved c_pastMany c_pad c_typed c_yes c_no c_yesThen c_noThen c_yesRound c_yesRule c_noRound c_noRule c_rounds c_isMore c_orders c_orderMany c_spot c_bad) ⟨hx, hb, hml, hown, hts⟩ hK hP hD hS hA [0, 1, 2, 3, 4, 5, 6, 7, 8, 9, 10, 11, 12, 13, 14] [] [0, 1, 2, 3, 4, 5, 6, 7, 8, 9, 10, 11, 12, 13, 14] rfl (by decide) rfl (by decide) (by decide) rfl (by decide) (c_X6_add l dC dI ck a0 a0_z a0_past a0_slots a0_isSaved a0_pad a0_yes a0_no a0_yesThen a0_noThen a0_yesRound a0_yesRule a0_noRound a0_noRule a0_orders c_z c_past c_slots c_isSaved c_pastMany c_pad c_typed c_yes c_no c_yesThen c_noThen c_yesRound c_yesRule c_noRound c_noRule c_rounds c_isMore c_orders c_orderMany c_spot c_bad (0 : Int32) v2_10 v3_21 (-6 : Int32) (-6 : Int32) c_z_129 q_129) (cwV 5 hts gX6_does_X6_add rfl rfl rfl (by decide +kernel) ⟨Nat.le_of_ble_eq_true rfl, Nat.le_of_ble_eq_true rfl⟩) 0 rfl rfl rfl hl.1 rfl (Nat.le_of_ble_eq_true rfl) dX6_does_129 ⟨Nat.zero_le _, Nat.zero_le _⟩ (fun H locs hP hD hS => ?_)
          refine lv_goto (tgt := 206) hx hb dX6_does_132 (by decide) ?_
          refine lv_iload hx hb dX6_does_206 (lv_at hl 0 rfl) ?_
          cases h
          exact eMz hx hb hr hlk hP hD hS rfl rfl dX6_does_208
      · have h := if_t h c_106
        refine lv_iconst (v := (1 : Int32)) hx hb dX6_does_109 rfl ?_
        refine lv_goto (tgt := 114) hx hb dX6_does_110 (by decide) ?_
        refine lv_istore (lv' := [(7, .int (1 : Int32)), (6, .int v6_54), (5, .int v5_44), (4, .int v4_32), (3, .int v3_21), (2, .int v2_10), (0, .ref a0), (1, .int v1)]) hx hb dX6_does_114 hl (by decide) rfl (fun ls hl => ?_)
        refine lv_iload hx hb dX6_does_116 (lv_at hl 0 rfl) ?_
        refine lv_if_eq (tgt := 206) hx hb dX6_does_118 (by decide) (fun c_118 => ?_) (fun c_118 => ?_)
        · have h := if_t h c_118
          refine lv_iload hx hb dX6_does_206 (lv_at hl 0 rfl) ?_
          cases h
          exact eMz hx hb hr hlk hP hD hS rfl rfl dX6_does_208
        · have h := if_f h c_118
          refine lv_aload_n hx hb dX6_does_121 rfl (lv_at hl 6 rfl) ?_
          refine lv_iconst (v := (0 : Int32)) hx hb dX6_does_122 rfl ?_
          refine lv_iload_n hx hb dX6_does_123 rfl (lv_at hl 5 rfl) ?_
          refine lv_iload_n hx hb dX6_does_124 rfl (lv_at hl 4 rfl) ?_
          refine lv_bipush (v := (-6 : Int32)) hx hb dX6_does_125 rfl ?_
          refine lv_bipush (v := (-6 : Int32)) hx hb dX6_does_127 rfl ?_
          obtain ⟨c_z_129, q_129, h⟩ := ob1_e h
          refine cMV (wc := wX6 ck a0 a0_z a0_past a0_slots a0_isSaved a0_pad a0_yes a0_no a0_yesThen a0_noThen a0_yesRound a0_yesRule a0_noRound a0_noRule a0_orders c_z c_past c_slots c_isSaved c_pastMany c_pad c_typed c_yes c_no c_yesThen c_noThen c_yesRound c_yesRule c_noRound c_noRule c_rounds c_isMore c_orders c_orderMany c_spot c_bad) (wr := []) (w1 := wX6 ck a0 a0_z a0_past a0_slots a0_isSaved a0_pad a0_yes a0_no a0_yesThen a0_noThen a0_yesRound a0_yesRule a0_noRound a0_noRule a0_orders c_z_129 c_past c_slots c_isSaved c_pastMany c_pad c_typed c_yes c_no c_yesThen c_noThen c_yesRound c_yesRule c_noRound c_noRule c_rounds c_isMore c_orders c_orderMany c_spot c_bad) (wn := wX6 ck a0 a0_z a0_past a0_slots a0_isSaved a0_pad a0_yes a0_no a0_yesThen a0_noThen a0_yesRound a0_yesRule a0_noRound a0_noRule a0_orders c_z_129 c_past c_slots c_isSaved c_pastMany c_pad c_typed c_yes c_no c_yesThen c_noThen c_yesRound c_yesRule c_noRound c_noRule c_rounds c_isMore c_orders c_orderMany c_spot c_bad) ⟨hx, hb, hml, hown, hts⟩ hK hP hD hS hA [0, 1, 2, 3, 4, 5, 6, 7, 8, 9, 10, 11, 12, 13, 14] [] [0, 1, 2, 3, 4, 5, 6, 7, 8, 9, 10, 11, 12, 13, 14] rfl (by decide) rfl (by decide) (by decide) rfl (by decide) (c_X6_add l dC dI ck a0 a0_z a0_past a0_slots a0_isSaved a0_pad a0_yes a0_no a0_yesThen a0_noThen a0_yesRound a0_yesRule a0_noRound a0_noRule a0_orders c_z c_past c_slots c_isSaved c_pastMany c_pad c_typed c_yes c_no c_yesThen c_noThen c_yesRound c_yesRule c_noRound c_noRule c_rounds c_isMore c_orders c_orderMany c_spot c_bad (0 : Int32) v2_10 v3_21 (-6 : Int32) (-6 : Int32) c_z_129 q_129) (cwV 5 hts gX6_does_X6_add rfl rfl rfl (by decide +kernel) ⟨Nat.le_of_ble_eq_true rfl, Nat.le_of_ble_eq_true rfl⟩) 0 rfl rfl rfl hl.1 rfl (Nat.le_of_ble_eq_true rfl) dX6_does_129 ⟨Nat.zero_le _, Nat.zero_le _⟩ (fun H locs hP hD hS => ?_)
          refine lv_goto (tgt := 206) hx hb dX6_does_132 (by decide) ?_
          refine lv_iload hx hb dX6_does_206 (lv_at hl 0 rfl) ?_
          cases h
          exact eMz hx hb hr hlk hP hD hS rfl rfl dX6_does_208
  · have h := if_t h c_60
    refine lv_iload_n hx hb dX6_does_63 rfl (lv_at hl 4 rfl) ?_
    refine lv_aload_n hx hb dX6_does_64 rfl (lv_at hl 5 rfl) ?_
    refine va_get (ci := 6) (v := .ref a0_z) (C := RX6) (T := TX6) (N := 21) hx hb hts iu_X6 hown hK.1 hP 0 rfl rfl 0 (by decide) (hts (.fieldLink RX6 7 "SheetMarksModel" "z" "[I") (List.mem_of_getElem? (i := 2) rfl)) (fun _ h9 => h9) rfl dX6_does_65 ?_
    refine lv_iconst (v := (1 : Int32)) hx hb dX6_does_68 rfl ?_
    obtain ⟨g_69, h⟩ := gd_e h
    refine va_iald hx hb hK.1 hP 1 0 rfl rfl g_69 dX6_does_69 ?_
    refine lv_icmp_ge (tgt := 77) hx hb dX6_does_70 (by decide) (fun c_70 => ?_) (fun c_70 => ?_)
    · have h := if_t h c_70
      refine lv_iconst (v := (0 : Int32)) hx hb dX6_does_77 rfl ?_
      refine lv_istore (lv' := [(7, .int (0 : Int32)), (6, .int v6_54), (5, .int v5_44), (4, .int v4_32), (3, .int v3_21), (2, .int v2_10), (0, .ref a0), (1, .int v1)]) hx hb dX6_does_78 hl (by decide) rfl (fun ls hl => ?_)
      refine lv_iload hx hb dX6_does_80 (lv_at hl 0 rfl) ?_
      refine lv_if_eq (tgt := 206) hx hb dX6_does_82 (by decide) (fun c_82 => ?_) (fun c_82 => ?_)
      · have h := if_t h c_82
        refine lv_iload hx hb dX6_does_206 (lv_at hl 0 rfl) ?_
        cases h
        exact eMz hx hb hr hlk hP hD hS rfl rfl dX6_does_208
      · have h := if_f h c_82
        refine lv_aload_n hx hb dX6_does_85 rfl (lv_at hl 6 rfl) ?_
        refine lv_iload_n hx hb dX6_does_86 rfl (lv_at hl 5 rfl) ?_
        obtain ⟨c_z_87, q_87, h⟩ := ob1_e h
        refine cMV (wc := wX6 ck a0 a0_z a0_past a0_slots a0_isSaved a0_pad a0_yes a0_no a0_yesThen a0_noThen a0_yesRound a0_yesRule a0_noRound a0_noRule a0_orders c_z c_past c_slots c_isSaved c_pastMany c_pad c_typed c_yes c_no c_yesThen c_noThen c_yesRound c_yesRule c_noRound c_noRule c_rounds c_isMore c_orders c_orderMany c_spot c_bad) (wr := []) (w1 := wX6 ck a0 a0_z a0_past a0_slots a0_isSaved a0_pad a0_yes a0_no a0_yesThen a0_noThen a0_yesRound a0_yesRule a0_noRound a0_noRule a0_orders c_z_87 c_past c_slots c_isSaved c_pastMany c_pad c_typed c_yes c_no c_yesThen c_noThen c_yesRound c_yesRule c_noRound c_noRule c_rounds c_isMore c_orders c_orderMany c_spot c_bad) (wn := wX6 ck a0 a0_z a0_past a0_slots a0_isSaved a0_pad a0_yes a0_no a0_yesThen a0_noThen a0_yesRound a0_yesRule a0_noRound a0_noRule a0_orders c_z_87 c_past c_slots c_isSaved c_pastMany c_pad c_typed c_yes c_no c_yesThen c_noThen c_yesRound c_yesRule c_noRound c_noRule c_rounds c_isMore c_orders c_orderMany c_spot c_bad) ⟨hx, hb, hml, hown, hts⟩ hK hP hD hS hA [0, 1, 2, 3, 4, 5, 6, 7, 8, 9, 10, 11, 12, 13, 14] [] [0, 1, 2, 3, 4, 5, 6, 7, 8, 9, 10, 11, 12, 13, 14] rfl (by decide) rfl (by decide) (by decide) rfl (by decide) (c_X6_drop l dC dI ck a0 a0_z a0_past a0_slots a0_isSaved a0_pad a0_yes a0_no a0_yesThen a0_noThen a0_yesRound a0_yesRule a0_noRound a0_noRule a0_orders c_z c_past c_slots c_isSaved c_pastMany c_pad c_typed c_yes c_no c_yesThen c_noThen c_yesRound c_yesRule c_noRound c_noRule c_rounds c_isMore c_orders c_orderMany c_spot c_bad v2_10 c_z_87 q_87) (cwV 1 hts gX6_does_X6_drop rfl rfl rfl (by decide +kernel) ⟨Nat.le_of_ble_eq_true rfl, Nat.le_of_ble_eq_true rfl⟩) 0 rfl rfl rfl hl.1 rfl (Nat.le_of_ble_eq_true rfl) dX6_does_87 ⟨Nat.zero_le _, Nat.zero_le _⟩ (fun H locs hP hD hS => ?_)
        refine lv_goto (tgt := 206) hx hb dX6_does_90 (by decide) ?_
        refine lv_iload hx hb dX6_does_206 (lv_at hl 0 rfl) ?_
        cases h
        exact eMz hx hb hr hlk hP hD hS rfl rfl dX6_does_208
    · have h := if_f h c_70
      refine lv_iconst (v := (1 : Int32)) hx hb dX6_does_73 rfl ?_
      refine lv_goto (tgt := 78) hx hb dX6_does_74 (by decide) ?_
      refine lv_istore (lv' := [(7, .int (1 : Int32)), (6, .int v6_54), (5, .int v5_44), (4, .int v4_32), (3, .int v3_21), (2, .int v2_10), (0, .ref a0), (1, .int v1)]) hx hb dX6_does_78 hl (by decide) rfl (fun ls hl => ?_)
      refine lv_iload hx hb dX6_does_80 (lv_at hl 0 rfl) ?_
      refine lv_if_eq (tgt := 206) hx hb dX6_does_82 (by decide) (fun c_82 => ?_) (fun c_82 => ?_)
      · have h := if_t h c_82
        refine lv_iload hx hb dX6_does_206 (lv_at hl 0 rfl) ?_
        cases h
        exact eMz hx hb hr hlk hP hD hS rfl rfl dX6_does_208
      · have h := if_f h c_82
        refine lv_aload_n hx hb dX6_does_85 rfl (lv_at hl 6 rfl) ?_
        refine lv_iload_n hx hb dX6_does_86 rfl (lv_at hl 5 rfl) ?_
        obtain ⟨c_z_87, q_87, h⟩ := ob1_e h
        refine cMV (wc := wX6 ck a0 a0_z a0_past a0_slots a0_isSaved a0_pad a0_yes a0_no a0_yesThen a0_noThen a0_yesRound a0_yesRule a0_noRound a0_noRule a0_orders c_z c_past c_slots c_isSaved c_pastMany c_pad c_typed c_yes c_no c_yesThen c_noThen c_yesRound c_yesRule c_noRound c_noRule c_rounds c_isMore c_orders c_orderMany c_spot c_bad) (wr := []) (w1 := wX6 ck a0 a0_z a0_past a0_slots a0_isSaved a0_pad a0_yes a0_no a0_yesThen a0_noThen a0_yesRound a0_yesRule a0_noRound a0_noRule a0_orders c_z_87 c_past c_slots c_isSaved c_pastMany c_pad c_typed c_yes c_no c_yesThen c_noThen c_yesRound c_yesRule c_noRound c_noRule c_rounds c_isMore c_orders c_orderMany c_spot c_bad) (wn := wX6 ck a0 a0_z a0_past a0_slots a0_isSaved a0_pad a0_yes a0_no a0_yesThen a0_noThen a0_yesRound a0_yesRule a0_noRound a0_noRule a0_orders c_z_87 c_past c_slots c_isSaved c_pastMany c_pad c_typed c_yes c_no c_yesThen c_noThen c_yesRound c_yesRule c_noRound c_noRule c_rounds c_isMore c_orders c_orderMany c_spot c_bad) ⟨hx, hb, hml, hown, hts⟩ hK hP hD hS hA [0, 1, 2, 3, 4, 5, 6, 7, 8, 9, 10, 11, 12, 13, 14] [] [0, 1, 2, 3, 4, 5, 6, 7, 8, 9, 10, 11, 12, 13, 14] rfl (by decide) rfl (by decide) (by decide) rfl (by decide) (c_X6_drop l dC dI ck a0 a0_z a0_past a0_slots a0_isSaved a0_pad a0_yes a0_no a0_yesThen a0_noThen a0_yesRound a0_yesRule a0_noRound a0_noRule a0_orders c_z c_past c_slots c_isSaved c_pastMany c_pad c_typed c_yes c_no c_yesThen c_noThen c_yesRound c_yesRule c_noRound c_noRule c_rounds c_isMore c_orders c_orderMany c_spot c_bad v2_10 c_z_87 q_87) (cwV 1 hts gX6_does_X6_drop rfl rfl rfl (by decide +kernel) ⟨Nat.le_of_ble_eq_true rfl, Nat.le_of_ble_eq_true rfl⟩) 0 rfl rfl rfl hl.1 rfl (Nat.le_of_ble_eq_true rfl) dX6_does_87 ⟨Nat.zero_le _, Nat.zero_le _⟩ (fun H locs hP hD hS => ?_)
        refine lv_goto (tgt := 206) hx hb dX6_does_90 (by decide) ?_
        refine lv_iload hx hb dX6_does_206 (lv_at hl 0 rfl) ?_
        cases h
        exact eMz hx hb hr hlk hP hD hS rfl rfl dX6_does_208
