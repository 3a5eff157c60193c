def rot {α : Type} (f : Nat → α) : Nat → α := va_up (va_up (va_up (va_up (va_up (va_up f 0 (f 1)) 1 (f 2)) 2 (f 3)) 3 (f 4)) 4 (f 5)) 5 (f 0)
theorem rot_refs (ad : Nat → Nat × Nat × Nat × Nat) : va_up (va_up (va_up (va_up (va_up (va_up (fun i => some (ad i).1) 0 (some (ad 1).1)) 1 (some (ad 2).1)) 2 (some (ad 3).1)) 3 (some (ad 4).1)) 4 (some (ad 5).1)) 5 (some (ad 0).1) = fun i => some (rot ad i).1 := by
  funext i
  by_cases h5 : i = 5
  · subst h5; rfl
  by_cases h4 : i = 4
  · subst h4; rfl
  by_cases h3 : i = 3
  · subst h3; rfl
  by_cases h2 : i = 2
  · subst h2; rfl
  by_cases h1 : i = 1
  · subst h1; rfl
  by_cases h0 : i = 0
  · subst h0; rfl
  simp only [rot, va_up, h5, h4, h3, h2, h1, h0, if_false]
noncomputable def f_X1_dropOldest (c_ad : Nat → Nat × Nat × Nat × Nat) (c_len : Int32) (c_st : Nat → Int32 × Int32 × (Nat → Int32) × (Nat → Int32) × (Nat → Int32)) : Option ((Nat → Nat × Nat × Nat × Nat) × Int32 × (Nat → Int32 × Int32 × (Nat → Int32) × (Nat → Int32) × (Nat → Int32))) := some (rot c_ad, c_len - 1, rot c_st)
set_option maxHeartbeats 4000000 in
set_option maxRecDepth 100000 in
theorem c_X1_dropOldest (l : Launch) (dC : Nat → ClassId) (dI : Nat → Nat → Nat) (ck : Nat → ClassId) (a0 a0s : Nat) (c_ad : Nat → Nat × Nat × Nat × Nat) (c_len : Int32) (c_st : Nat → Int32 × Int32 × (Nat → Int32) × (Nat → Int32) × (Nat → Int32)) (o0 : Nat → Nat × Nat × Nat × Nat) (o1 : Int32) (o2 : Nat → Int32 × Int32 × (Nat → Int32) × (Nat → Int32) × (Nat → Int32)) (h : f_X1_dropOldest c_ad c_len c_st = some (o0, o1, o2)) : MV l yX1_dropOldest wsX1_dropOldest ({ frames := 0, cells := 0, slots := 0, locals := 0 }) [.ref a0] (dC, dI) ck (wX1 ck a0 a0s c_ad c_len c_st) (wX1 ck a0 a0s o0 o1 o2) := by
  refine MV.ofW (cc := cX1_dropOldest) (maxL := 3) (ret := none) (by decide +kernel) rfl (Nat.le_of_ble_eq_true rfl) ?_
  intro p e s m below meth c hx hb hr hml hts hown hlk hK hP A hA hD ls hl
  have hS : va_S A s.heap s.heap [] := va_S.rf
  have hown : s.vm.findClass RX1 = some m.cls := hown
  have iu_X1 : ∀ w ∈ u_ws RX1 TX1 2, w ∈ wsX1_dropOldest := fun w h => List.mem_cons_of_mem _ (List.mem_append_right _ h)
  have hl : lv_has ls 3 [(0, .ref a0)] := hl
  cases h
  have hP : va_P (dC, dI) vwCl ([(a0, .inr (1, [.ref a0s, .int c_len])), (a0s, .inl (ck 4, 6, .inr (.inr (.inr (.inr (fun i => some (c_ad i).1))))))] ++ wF ck (c_ad 0) (c_st 0) ++ wF ck (c_ad 1) (c_st 1) ++ wF ck (c_ad 2) (c_st 2) ++ wF ck (c_ad 3) (c_st 3) ++ wF ck (c_ad 4) (c_st 4) ++ wF ck (c_ad 5) (c_st 5)) s.heap := hP
  have hD : va_D A ([(a0, .inr (1, [.ref a0s, .int c_len])), (a0s, .inl (ck 4, 6, .inr (.inr (.inr (.inr (fun i => some (c_ad i).1))))))] ++ wF ck (c_ad 0) (c_st 0) ++ wF ck (c_ad 1) (c_st 1) ++ wF ck (c_ad 2) (c_st 2) ++ wF ck (c_ad 3) (c_st 3) ++ wF ck (c_ad 4) (c_st 4) ++ wF ck (c_ad 5) (c_st 5)) := hD
  refine lv_aload_n hx hb dX1_dropOldest_0 rfl (lv_at hl 0 rfl) ?_
  refine va_get (ci := 1) (v := .ref a0s) (C := RX1) (T := TX1) (N := 2) hx hb hts iu_X1 hown hK.1 hP 0 rfl rfl 0 (by decide) (hts (.fieldLink RX1 11 "SheetMarks$History" "states" "[LSheetMarks$Facts;") (List.mem_of_getElem? (i := 1) rfl)) (fun _ h9 => h9) rfl dX1_dropOldest_1 ?_
  refine lv_iconst (v := (0 : Int32)) hx hb dX1_dropOldest_4 rfl ?_
  refine va_aldq hx hb hK.1 hP 1 4 rfl rfl (vp_in_nI (n := 0) (by decide) (by decide)) dX1_dropOldest_5 ?_
  refine lv_astore_n (x := (c_ad 0).1) (lv' := [(1, .ref (c_ad 0).1), (0, .ref a0)]) hx hb dX1_dropOldest_6 rfl hl (by decide) rfl (fun ls hl => ?_)
  refine lv_iconst (v := (0 : Int32)) hx hb dX1_dropOldest_7 rfl ?_
  refine lv_istore_n (lv' := [(2, .int (0 : Int32)), (1, .ref (c_ad 0).1), (0, .ref a0)]) hx hb dX1_dropOldest_8 rfl hl (by decide) rfl (fun ls hl => ?_)
  refine lv_iload_n hx hb dX1_dropOldest_9 rfl (lv_at hl 0 rfl) ?_
  refine lv_iconst (v := (1 : Int32)) hx hb dX1_dropOldest_10 rfl ?_
  refine lv_iadd hx hb dX1_dropOldest_11 ?_
  refine lv_aload_n hx hb dX1_dropOldest_12 rfl (lv_at hl 2 rfl) ?_
  refine va_get (ci := 1) (v := .ref a0s) (C := RX1) (T := TX1) (N := 2) hx hb hts iu_X1 hown hK.1 hP 0 rfl rfl 0 (by decide) (hts (.fieldLink RX1 11 "SheetMarks$History" "states" "[LSheetMarks$Facts;") (List.mem_of_getElem? (i := 1) rfl)) (fun _ h9 => h9) rfl dX1_dropOldest_13 ?_
  refine va_alen (v := (6 : Int32)) hx hb hK.1 hP 1 4 rfl rfl rfl dX1_dropOldest_16 ?_
  refine lv_icmp_ge (tgt := 40) hx hb dX1_dropOldest_17 (by decide) (fun q => absurd q (by decide)) (fun _ => ?_)
  refine lv_aload_n hx hb dX1_dropOldest_20 rfl (lv_at hl 2 rfl) ?_
  refine va_get (ci := 1) (v := .ref a0s) (C := RX1) (T := TX1) (N := 2) hx hb hts iu_X1 hown hK.1 hP 0 rfl rfl 0 (by decide) (hts (.fieldLink RX1 11 "SheetMarks$History" "states" "[LSheetMarks$Facts;") (List.mem_of_getElem? (i := 1) rfl)) (fun _ h9 => h9) rfl dX1_dropOldest_21 ?_
  refine lv_iload_n hx hb dX1_dropOldest_24 rfl (lv_at hl 0 rfl) ?_
  refine lv_aload_n hx hb dX1_dropOldest_25 rfl (lv_at hl 2 rfl) ?_
  refine va_get (ci := 1) (v := .ref a0s) (C := RX1) (T := TX1) (N := 2) hx hb hts iu_X1 hown hK.1 hP 0 rfl rfl 0 (by decide) (hts (.fieldLink RX1 11 "SheetMarks$History" "states" "[LSheetMarks$Facts;") (List.mem_of_getElem? (i := 1) rfl)) (fun _ h9 => h9) rfl dX1_dropOldest_26 ?_
  refine lv_iload_n hx hb dX1_dropOldest_29 rfl (lv_at hl 0 rfl) ?_
  refine lv_iconst (v := (1 : Int32)) hx hb dX1_dropOldest_30 rfl ?_
  refine lv_iadd hx hb dX1_dropOldest_31 ?_
  refine va_aldq hx hb hK.1 hP 1 4 rfl rfl (by unfold vp_in; decide) dX1_dropOldest_32 ?_
  refine va_astq (v := (c_ad 1).1) hx hb hK.1 hP hD hS 1 4 6 0 rfl rfl rfl rfl (by unfold vp_in; decide) dX1_dropOldest_33 (fun H locs hP hD hS => ?_)
  have hP : va_P (dC, dI) vwCl ([(a0, .inr (1, [.ref a0s, .int c_len])), (a0s, .inl (ck 4, 6, .inr (.inr (.inr (.inr (va_up (fun i => some (c_ad i).1) 0 (some (c_ad 1).1)))))))] ++ wF ck (c_ad 0) (c_st 0) ++ wF ck (c_ad 1) (c_st 1) ++ wF ck (c_ad 2) (c_st 2) ++ wF ck (c_ad 3) (c_st 3) ++ wF ck (c_ad 4) (c_st 4) ++ wF ck (c_ad 5) (c_st 5)) H := hP
  have hD : va_D A ([(a0, .inr (1, [.ref a0s, .int c_len])), (a0s, .inl (ck 4, 6, .inr (.inr (.inr (.inr (va_up (fun i => some (c_ad i).1) 0 (some (c_ad 1).1)))))))] ++ wF ck (c_ad 0) (c_st 0) ++ wF ck (c_ad 1) (c_st 1) ++ wF ck (c_ad 2) (c_st 2) ++ wF ck (c_ad 3) (c_st 3) ++ wF ck (c_ad 4) (c_st 4) ++ wF ck (c_ad 5) (c_st 5)) := hD
  refine lv_iinc (v := (1 : Int32)) (lv' := [(2, .int (1 : Int32)), (1, .ref (c_ad 0).1), (0, .ref a0)]) hx hb dX1_dropOldest_34 hl (k := 0) rfl (by decide) (by decide) rfl (fun ls hl => ?_)
  refine lv_goto (tgt := 9) hx hb dX1_dropOldest_37 (by decide) ?_
  refine lv_iload_n hx hb dX1_dropOldest_9 rfl (lv_at hl 0 rfl) ?_
  refine lv_iconst (v := (1 : Int32)) hx hb dX1_dropOldest_10 rfl ?_
  refine lv_iadd hx hb dX1_dropOldest_11 ?_
  refine lv_aload_n hx hb dX1_dropOldest_12 rfl (lv_at hl 2 rfl) ?_
  refine va_get (ci := 1) (v := .ref a0s) (C := RX1) (T := TX1) (N := 2) hx hb hts iu_X1 hown hK.1 hP 0 rfl rfl 0 (by decide) (hts (.fieldLink RX1 11 "SheetMarks$History" "states" "[LSheetMarks$Facts;") (List.mem_of_getElem? (i := 1) rfl)) (fun _ h9 => h9) rfl dX1_dropOldest_13 ?_
  refine va_alen (v := (6 : Int32)) hx hb hK.1 hP 1 4 rfl rfl rfl dX1_dropOldest_16 ?_
  refine lv_icmp_ge (tgt := 40) hx hb dX1_dropOldest_17 (by decide) (fun q => absurd q (by decide)) (fun _ => ?_)
  refine lv_aload_n hx hb dX1_dropOldest_20 rfl (lv_at hl 2 rfl) ?_
  refine va_get (ci := 1) (v := .ref a0s) (C := RX1) (T := TX1) (N := 2) hx hb hts iu_X1 hown hK.1 hP 0 rfl rfl 0 (by decide) (hts (.fieldLink RX1 11 "SheetMarks$History" "states" "[LSheetMarks$Facts;") (List.mem_of_getElem? (i := 1) rfl)) (fun _ h9 => h9) rfl dX1_dropOldest_21 ?_
  refine lv_iload_n hx hb dX1_dropOldest_24 rfl (lv_at hl 0 rfl) ?_
  refine lv_aload_n hx hb dX1_dropOldest_25 rfl (lv_at hl 2 rfl) ?_
  refine va_get (ci := 1) (v := .ref a0s) (C := RX1) (T := TX1) (N := 2) hx hb hts iu_X1 hown hK.1 hP 0 rfl rfl 0 (by decide) (hts (.fieldLink RX1 11 "SheetMarks$History" "states" "[LSheetMarks$Facts;") (List.mem_of_getElem? (i := 1) rfl)) (fun _ h9 => h9) rfl dX1_dropOldest_26 ?_
  refine lv_iload_n hx hb dX1_dropOldest_29 rfl (lv_at hl 0 rfl) ?_
  refine lv_iconst (v := (1 : Int32)) hx hb dX1_dropOldest_30 rfl ?_
  refine lv_iadd hx hb dX1_dropOldest_31 ?_
  refine va_aldq hx hb hK.1 hP 1 4 rfl rfl (by unfold vp_in; decide) dX1_dropOldest_32 ?_
  refine va_astq (v := (c_ad 2).1) hx hb hK.1 hP hD hS 1 4 10 0 rfl rfl rfl rfl (by unfold vp_in; decide) dX1_dropOldest_33 (fun H locs hP hD hS => ?_)
  have hP : va_P (dC, dI) vwCl ([(a0, .inr (1, [.ref a0s, .int c_len])), (a0s, .inl (ck 4, 6, .inr (.inr (.inr (.inr (va_up (va_up (fun i => some (c_ad i).1) 0 (some (c_ad 1).1)) 1 (some (c_ad 2).1)))))))] ++ wF ck (c_ad 0) (c_st 0) ++ wF ck (c_ad 1) (c_st 1) ++ wF ck (c_ad 2) (c_st 2) ++ wF ck (c_ad 3) (c_st 3) ++ wF ck (c_ad 4) (c_st 4) ++ wF ck (c_ad 5) (c_st 5)) H := hP
  have hD : va_D A ([(a0, .inr (1, [.ref a0s, .int c_len])), (a0s, .inl (ck 4, 6, .inr (.inr (.inr (.inr (va_up (va_up (fun i => some (c_ad i).1) 0 (some (c_ad 1).1)) 1 (some (c_ad 2).1)))))))] ++ wF ck (c_ad 0) (c_st 0) ++ wF ck (c_ad 1) (c_st 1) ++ wF ck (c_ad 2) (c_st 2) ++ wF ck (c_ad 3) (c_st 3) ++ wF ck (c_ad 4) (c_st 4) ++ wF ck (c_ad 5) (c_st 5)) := hD
  refine lv_iinc (v := (2 : Int32)) (lv' := [(2, .int (2 : Int32)), (1, .ref (c_ad 0).1), (0, .ref a0)]) hx hb dX1_dropOldest_34 hl (k := 0) rfl (by decide) (by decide) rfl (fun ls hl => ?_)
  refine lv_goto (tgt := 9) hx hb dX1_dropOldest_37 (by decide) ?_
  refine lv_iload_n hx hb dX1_dropOldest_9 rfl (lv_at hl 0 rfl) ?_
  refine lv_iconst (v := (1 : Int32)) hx hb dX1_dropOldest_10 rfl ?_
  refine lv_iadd hx hb dX1_dropOldest_11 ?_
  refine lv_aload_n hx hb dX1_dropOldest_12 rfl (lv_at hl 2 rfl) ?_
  refine va_get (ci := 1) (v := .ref a0s) (C := RX1) (T := TX1) (N := 2) hx hb hts iu_X1 hown hK.1 hP 0 rfl rfl 0 (by decide) (hts (.fieldLink RX1 11 "SheetMarks$History" "states" "[LSheetMarks$Facts;") (List.mem_of_getElem? (i := 1) rfl)) (fun _ h9 => h9) rfl dX1_dropOldest_13 ?_
  refine va_alen (v := (6 : Int32)) hx hb hK.1 hP 1 4 rfl rfl rfl dX1_dropOldest_16 ?_
  refine lv_icmp_ge (tgt := 40) hx hb dX1_dropOldest_17 (by decide) (fun q => absurd q (by decide)) (fun _ => ?_)
  refine lv_aload_n hx hb dX1_dropOldest_20 rfl (lv_at hl 2 rfl) ?_
  refine va_get (ci := 1) (v := .ref a0s) (C := RX1) (T := TX1) (N := 2) hx hb hts iu_X1 hown hK.1 hP 0 rfl rfl 0 (by decide) (hts (.fieldLink RX1 11 "SheetMarks$History" "states" "[LSheetMarks$Facts;") (List.mem_of_getElem? (i := 1) rfl)) (fun _ h9 => h9) rfl dX1_dropOldest_21 ?_
  refine lv_iload_n hx hb dX1_dropOldest_24 rfl (lv_at hl 0 rfl) ?_
  refine lv_aload_n hx hb dX1_dropOldest_25 rfl (lv_at hl 2 rfl) ?_
  refine va_get (ci := 1) (v := .ref a0s) (C := RX1) (T := TX1) (N := 2) hx hb hts iu_X1 hown hK.1 hP 0 rfl rfl 0 (by decide) (hts (.fieldLink RX1 11 "SheetMarks$History" "states" "[LSheetMarks$Facts;") (List.mem_of_getElem? (i := 1) rfl)) (fun _ h9 => h9) rfl dX1_dropOldest_26 ?_
  refine lv_iload_n hx hb dX1_dropOldest_29 rfl (lv_at hl 0 rfl) ?_
  refine lv_iconst (v := (1 : Int32)) hx hb dX1_dropOldest_30 rfl ?_
  refine lv_iadd hx hb dX1_dropOldest_31 ?_
  refine va_aldq hx hb hK.1 hP 1 4 rfl rfl (by unfold vp_in; decide) dX1_dropOldest_32 ?_
  refine va_astq (v := (c_ad 3).1) hx hb hK.1 hP hD hS 1 4 14 0 rfl rfl rfl rfl (by unfold vp_in; decide) dX1_dropOldest_33 (fun H locs hP hD hS => ?_)
  have hP : va_P (dC, dI) vwCl ([(a0, .inr (1, [.ref a0s, .int c_len])), (a0s, .inl (ck 4, 6, .inr (.inr (.inr (.inr (va_up (va_up (va_up (fun i => some (c_ad i).1) 0 (some (c_ad 1).1)) 1 (some (c_ad 2).1)) 2 (some (c_ad 3).1)))))))] ++ wF ck (c_ad 0) (c_st 0) ++ wF ck (c_ad 1) (c_st 1) ++ wF ck (c_ad 2) (c_st 2) ++ wF ck (c_ad 3) (c_st 3) ++ wF ck (c_ad 4) (c_st 4) ++ wF ck (c_ad 5) (c_st 5)) H := hP
  have hD : va_D A ([(a0, .inr (1, [.ref a0s, .int c_len])), (a0s, .inl (ck 4, 6, .inr (.inr (.inr (.inr (va_up (va_up (va_up (fun i => some (c_ad i).1) 0 (some (c_ad 1).1)) 1 (some (c_ad 2).1)) 2 (some (c_ad 3).1)))))))] ++ wF ck (c_ad 0) (c_st 0) ++ wF ck (c_ad 1) (c_st 1) ++ wF ck (c_ad 2) (c_st 2) ++ wF ck (c_ad 3) (c_st 3) ++ wF ck (c_ad 4) (c_st 4) ++ wF ck (c_ad 5) (c_st 5)) := hD
  refine lv_iinc (v := (3 : Int32)) (lv' := [(2, .int (3 : Int32)), (1, .ref (c_ad 0).1), (0, .ref a0)]) hx hb dX1_dropOldest_34 hl (k := 0) rfl (by decide) (by decide) rfl (fun ls hl => ?_)
  refine lv_goto (tgt := 9) hx hb dX1_dropOldest_37 (by decide) ?_
  refine lv_iload_n hx hb dX1_dropOldest_9 rfl (lv_at hl 0 rfl) ?_
  refine lv_iconst (v := (1 : Int32)) hx hb dX1_dropOldest_10 rfl ?_
  refine lv_iadd hx hb dX1_dropOldest_11 ?_
  refine lv_aload_n hx hb dX1_dropOldest_12 rfl (lv_at hl 2 rfl) ?_
  refine va_get (ci := 1) (v := .ref a0s) (C := RX1) (T := TX1) (N := 2) hx hb hts iu_X1 hown hK.1 hP 0 rfl rfl 0 (by decide) (hts (.fieldLink RX1 11 "SheetMarks$History" "states" "[LSheetMarks$Facts;") (List.mem_of_getElem? (i := 1) rfl)) (fun _ h9 => h9) rfl dX1_dropOldest_13 ?_
  refine va_alen (v := (6 : Int32)) hx hb hK.1 hP 1 4 rfl rfl rfl dX1_dropOldest_16 ?_
  refine lv_icmp_ge (tgt := 40) hx hb dX1_dropOldest_17 (by decide) (fun q => absurd q (by decide)) (fun _ => ?_)
  refine lv_aload_n hx hb dX1_dropOldest_20 rfl (lv_at hl 2 rfl) ?_
  refine va_get (ci := 1) (v := .ref a0s) (C := RX1) (T := TX1) (N := 2) hx hb hts iu_X1 hown hK.1 hP 0 rfl rfl 0 (by decide) (hts (.fieldLink RX1 11 "SheetMarks$History" "states" "[LSheetMarks$Facts;") (List.mem_of_getElem? (i := 1) rfl)) (fun _ h9 => h9) rfl dX1_dropOldest_21 ?_
  refine lv_iload_n hx hb dX1_dropOldest_24 rfl (lv_at hl 0 rfl) ?_
  refine lv_aload_n hx hb dX1_dropOldest_25 rfl (lv_at hl 2 rfl) ?_
  refine va_get (ci := 1) (v := .ref a0s) (C := RX1) (T := TX1) (N := 2) hx hb hts iu_X1 hown hK.1 hP 0 rfl rfl 0 (by decide) (hts (.fieldLink RX1 11 "SheetMarks$History" "states" "[LSheetMarks$Facts;") (List.mem_of_getElem? (i := 1) rfl)) (fun _ h9 => h9) rfl dX1_dropOldest_26 ?_
  refine lv_iload_n hx hb dX1_dropOldest_29 rfl (lv_at hl 0 rfl) ?_
  refine lv_iconst (v := (1 : Int32)) hx hb dX1_dropOldest_30 rfl ?_
  refine lv_iadd hx hb dX1_dropOldest_31 ?_
  refine va_aldq hx hb hK.1 hP 1 4 rfl rfl (by unfold vp_in; decide) dX1_dropOldest_32 ?_
  refine va_astq (v := (c_ad 4).1) hx hb hK.1 hP hD hS 1 4 18 0 rfl rfl rfl rfl (by unfold vp_in; decide) dX1_dropOldest_33 (fun H locs hP hD hS => ?_)
  have hP : va_P (dC, dI) vwCl ([(a0, .inr (1, [.ref a0s, .int c_len])), (a0s, .inl (ck 4, 6, .inr (.inr (.inr (.inr (va_up (va_up (va_up (va_up (fun i => some (c_ad i).1) 0 (some (c_ad 1).1)) 1 (some (c_ad 2).1)) 2 (some (c_ad 3).1)) 3 (some (c_ad 4).1)))))))] ++ wF ck (c_ad 0) (c_st 0) ++ wF ck (c_ad 1) (c_st 1) ++ wF ck (c_ad 2) (c_st 2) ++ wF ck (c_ad 3) (c_st 3) ++ wF ck (c_ad 4) (c_st 4) ++ wF ck (c_ad 5) (c_st 5)) H := hP
  have hD : va_D A ([(a0, .inr (1, [.ref a0s, .int c_len])), (a0s, .inl (ck 4, 6, .inr (.inr (.inr (.inr (va_up (va_up (va_up (va_up (fun i => some (c_ad i).1) 0 (some (c_ad 1).1)) 1 (some (c_ad 2).1)) 2 (some (c_ad 3).1)) 3 (some (c_ad 4).1)))))))] ++ wF ck (c_ad 0) (c_st 0) ++ wF ck (c_ad 1) (c_st 1) ++ wF ck (c_ad 2) (c_st 2) ++ wF ck (c_ad 3) (c_st 3) ++ wF ck (c_ad 4) (c_st 4) ++ wF ck (c_ad 5) (c_st 5)) := hD
  refine lv_iinc (v := (4 : Int32)) (lv' := [(2, .int (4 : Int32)), (1, .ref (c_ad 0).1), (0, .ref a0)]) hx hb dX1_dropOldest_34 hl (k := 0) rfl (by decide) (by decide) rfl (fun ls hl => ?_)
  refine lv_goto (tgt := 9) hx hb dX1_dropOldest_37 (by decide) ?_
  refine lv_iload_n hx hb dX1_dropOldest_9 rfl (lv_at hl 0 rfl) ?_
  refine lv_iconst (v := (1 : Int32)) hx hb dX1_dropOldest_10 rfl ?_
  refine lv_iadd hx hb dX1_dropOldest_11 ?_
  refine lv_aload_n hx hb dX1_dropOldest_12 rfl (lv_at hl 2 rfl) ?_
  refine va_get (ci := 1) (v := .ref a0s) (C := RX1) (T := TX1) (N := 2) hx hb hts iu_X1 hown hK.1 hP 0 rfl rfl 0 (by decide) (hts (.fieldLink RX1 11 "SheetMarks$History" "states" "[LSheetMarks$Facts;") (List.mem_of_getElem? (i := 1) rfl)) (fun _ h9 => h9) rfl dX1_dropOldest_13 ?_
  refine va_alen (v := (6 : Int32)) hx hb hK.1 hP 1 4 rfl rfl rfl dX1_dropOldest_16 ?_
  refine lv_icmp_ge (tgt := 40) hx hb dX1_dropOldest_17 (by decide) (fun q => absurd q (by decide)) (fun _ => ?_)
  refine lv_aload_n hx hb dX1_dropOldest_20 rfl (lv_at hl 2 rfl) ?_
  refine va_get (ci := 1) (v := .ref a0s) (C := RX1) (T := TX1) (N := 2) hx hb hts iu_X1 hown hK.1 hP 0 rfl rfl 0 (by decide) (hts (.fieldLink RX1 11 "SheetMarks$History" "states" "[LSheetMarks$Facts;") (List.mem_of_getElem? (i := 1) rfl)) (fun _ h9 => h9) rfl dX1_dropOldest_21 ?_
  refine lv_iload_n hx hb dX1_dropOldest_24 rfl (lv_at hl 0 rfl) ?_
  refine lv_aload_n hx hb dX1_dropOldest_25 rfl (lv_at hl 2 rfl) ?_
  refine va_get (ci := 1) (v := .ref a0s) (C := RX1) (T := TX1) (N := 2) hx hb hts iu_X1 hown hK.1 hP 0 rfl rfl 0 (by decide) (hts (.fieldLink RX1 11 "SheetMarks$History" "states" "[LSheetMarks$Facts;") (List.mem_of_getElem? (i := 1) rfl)) (fun _ h9 => h9) rfl dX1_dropOldest_26 ?_
  refine lv_iload_n hx hb dX1_dropOldest_29 rfl (lv_at hl 0 rfl) ?_
  refine lv_iconst (v := (1 : Int32)) hx hb dX1_dropOldest_30 rfl ?_
  refine lv_iadd hx hb dX1_dropOldest_31 ?_
  refine va_aldq hx hb hK.1 hP 1 4 rfl rfl (by unfold vp_in; decide) dX1_dropOldest_32 ?_
  refine va_astq (v := (c_ad 5).1) hx hb hK.1 hP hD hS 1 4 22 0 rfl rfl rfl rfl (by unfold vp_in; decide) dX1_dropOldest_33 (fun H locs hP hD hS => ?_)
  have hP : va_P (dC, dI) vwCl ([(a0, .inr (1, [.ref a0s, .int c_len])), (a0s, .inl (ck 4, 6, .inr (.inr (.inr (.inr (va_up (va_up (va_up (va_up (va_up (fun i => some (c_ad i).1) 0 (some (c_ad 1).1)) 1 (some (c_ad 2).1)) 2 (some (c_ad 3).1)) 3 (some (c_ad 4).1)) 4 (some (c_ad 5).1)))))))] ++ wF ck (c_ad 0) (c_st 0) ++ wF ck (c_ad 1) (c_st 1) ++ wF ck (c_ad 2) (c_st 2) ++ wF ck (c_ad 3) (c_st 3) ++ wF ck (c_ad 4) (c_st 4) ++ wF ck (c_ad 5) (c_st 5)) H := hP
  have hD : va_D A ([(a0, .inr (1, [.ref a0s, .int c_len])), (a0s, .inl (ck 4, 6, .inr (.inr (.inr (.inr (va_up (va_up (va_up (va_up (va_up (fun i => some (c_ad i).1) 0 (some (c_ad 1).1)) 1 (some (c_ad 2).1)) 2 (some (c_ad 3).1)) 3 (some (c_ad 4).1)) 4 (some (c_ad 5).1)))))))] ++ wF ck (c_ad 0) (c_st 0) ++ wF ck (c_ad 1) (c_st 1) ++ wF ck (c_ad 2) (c_st 2) ++ wF ck (c_ad 3) (c_st 3) ++ wF ck (c_ad 4) (c_st 4) ++ wF ck (c_ad 5) (c_st 5)) := hD
  refine lv_iinc (v := (5 : Int32)) (lv' := [(2, .int (5 : Int32)), (1, .ref (c_ad 0).1), (0, .ref a0)]) hx hb dX1_dropOldest_34 hl (k := 0) rfl (by decide) (by decide) rfl (fun ls hl => ?_)
  refine lv_goto (tgt := 9) hx hb dX1_dropOldest_37 (by decide) ?_
  refine lv_iload_n hx hb dX1_dropOldest_9 rfl (lv_at hl 0 rfl) ?_
  refine lv_iconst (v := (1 : Int32)) hx hb dX1_dropOldest_10 rfl ?_
  refine lv_iadd hx hb dX1_dropOldest_11 ?_
  refine lv_aload_n hx hb dX1_dropOldest_12 rfl (lv_at hl 2 rfl) ?_
  refine va_get (ci := 1) (v := .ref a0s) (C := RX1) (T := TX1) (N := 2) hx hb hts iu_X1 hown hK.1 hP 0 rfl rfl 0 (by decide) (hts (.fieldLink RX1 11 "SheetMarks$History" "states" "[LSheetMarks$Facts;") (List.mem_of_getElem? (i := 1) rfl)) (fun _ h9 => h9) rfl dX1_dropOldest_13 ?_
  refine va_alen (v := (6 : Int32)) hx hb hK.1 hP 1 4 rfl rfl rfl dX1_dropOldest_16 ?_
  refine lv_icmp_ge (tgt := 40) hx hb dX1_dropOldest_17 (by decide) (fun _ => ?_) (fun q => absurd (by decide) q)
  refine lv_aload_n hx hb dX1_dropOldest_40 rfl (lv_at hl 2 rfl) ?_
  refine va_get (ci := 1) (v := .ref a0s) (C := RX1) (T := TX1) (N := 2) hx hb hts iu_X1 hown hK.1 hP 0 rfl rfl 0 (by decide) (hts (.fieldLink RX1 11 "SheetMarks$History" "states" "[LSheetMarks$Facts;") (List.mem_of_getElem? (i := 1) rfl)) (fun _ h9 => h9) rfl dX1_dropOldest_41 ?_
  refine lv_aload_n hx hb dX1_dropOldest_44 rfl (lv_at hl 2 rfl) ?_
  refine va_get (ci := 1) (v := .ref a0s) (C := RX1) (T := TX1) (N := 2) hx hb hts iu_X1 hown hK.1 hP 0 rfl rfl 0 (by decide) (hts (.fieldLink RX1 11 "SheetMarks$History" "states" "[LSheetMarks$Facts;") (List.mem_of_getElem? (i := 1) rfl)) (fun _ h9 => h9) rfl dX1_dropOldest_45 ?_
  refine va_alen (v := (6 : Int32)) hx hb hK.1 hP 1 4 rfl rfl rfl dX1_dropOldest_48 ?_
  refine lv_iconst (v := (1 : Int32)) hx hb dX1_dropOldest_49 rfl ?_
  refine lv_isub hx hb dX1_dropOldest_50 ?_
  refine lv_aload_n hx hb dX1_dropOldest_51 rfl (lv_at hl 1 rfl) ?_
  refine va_astq (v := (c_ad 0).1) hx hb hK.1 hP hD hS 1 4 2 0 rfl rfl rfl rfl (by unfold vp_in; decide) dX1_dropOldest_52 (fun H locs hP hD hS => ?_)
  have hP : va_P (dC, dI) vwCl ([(a0, .inr (1, [.ref a0s, .int c_len])), (a0s, .inl (ck 4, 6, .inr (.inr (.inr (.inr (va_up (va_up (va_up (va_up (va_up (va_up (fun i => some (c_ad i).1) 0 (some (c_ad 1).1)) 1 (some (c_ad 2).1)) 2 (some (c_ad 3).1)) 3 (some (c_ad 4).1)) 4 (some (c_ad 5).1)) 5 (some (c_ad 0).1)))))))] ++ wF ck (c_ad 0) (c_st 0) ++ wF ck (c_ad 1) (c_st 1) ++ wF ck (c_ad 2) (c_st 2) ++ wF ck (c_ad 3) (c_st 3) ++ wF ck (c_ad 4) (c_st 4) ++ wF ck (c_ad 5) (c_st 5)) H := hP
  have hD : va_D A ([(a0, .inr (1, [.ref a0s, .int c_len])), (a0s, .inl (ck 4, 6, .inr (.inr (.inr (.inr (va_up (va_up (va_up (va_up (va_up (va_up (fun i => some (c_ad i).1) 0 (some (c_ad 1).1)) 1 (some (c_ad 2).1)) 2 (some (c_ad 3).1)) 3 (some (c_ad 4).1)) 4 (some (c_ad 5).1)) 5 (some (c_ad 0).1)))))))] ++ wF ck (c_ad 0) (c_st 0) ++ wF ck (c_ad 1) (c_st 1) ++ wF ck (c_ad 2) (c_st 2) ++ wF ck (c_ad 3) (c_st 3) ++ wF ck (c_ad 4) (c_st 4) ++ wF ck (c_ad 5) (c_st 5)) := hD
  rw [rot_refs] at hP hD
  refine lv_aload_n hx hb dX1_dropOldest_53 rfl (lv_at hl 2 rfl) ?_
  refine lv_dup hx hb dX1_dropOldest_54 rfl ?_
  refine va_get (ci := 1) (v := .int c_len) (C := RX1) (T := TX1) (N := 2) hx hb hts iu_X1 hown hK.1 hP 0 rfl rfl 1 (by decide) (hts (.fieldLink RX1 18 "SheetMarks$History" "length" "I") (List.mem_of_getElem? (i := 2) rfl)) (fun _ h9 => h9) rfl dX1_dropOldest_55 ?_
  refine lv_iconst (v := (1 : Int32)) hx hb dX1_dropOldest_58 rfl ?_
  refine lv_isub hx hb dX1_dropOldest_59 ?_
  refine va_put (ci := 1) (v := .int (c_len - 1)) (ty := .int) (C := RX1) (T := TX1) (N := 2) hx hb hts iu_X1 tyX1 tyX1_ok nmX1 hown hK.1 hP hD hS 0 rfl rfl 1 (by decide) (hts (.fieldLink RX1 18 "SheetMarks$History" "length" "I") (List.mem_of_getElem? (i := 2) rfl)) (fun _ h9 => h9) rfl (by decide +kernel) rfl rfl (Nat.le_of_ble_eq_true rfl) dX1_dropOldest_60 (fun H locs hP hD hS => ?_)
  have hP : va_P (dC, dI) vwCl (wX1 ck a0 a0s (rot c_ad) (c_len - 1) (rot c_st)) H := hP.subm [0, 1, 6, 7, 8, 9, 10, 11, 12, 13, 14, 15, 16, 17, 18, 19, 20, 21, 22, 23, 24, 25, 2, 3, 4, 5] rfl
  have hD : va_D A (wX1 ck a0 a0s (rot c_ad) (c_len - 1) (rot c_st)) := hD.sub [0, 1, 6, 7, 8, 9, 10, 11, 12, 13, 14, 15, 16, 17, 18, 19, 20, 21, 22, 23, 24, 25, 2, 3, 4, 5] (by decide) rfl
  exact eMv hx hb hr hlk hP hD hS dX1_dropOldest_63
noncomputable def f_X1_record_J13 (p1_players : Int32) (p1_told : Int32) (p1_kinds : Nat → Int32) (p1_owners : Nat → Int32) (p1_cards : Nat → Int32) (c_ad : Nat → Nat × Nat × Nat × Nat) (c_len : Int32) (c_st : Nat → Int32 × Int32 × (Nat → Int32) × (Nat → Int32) × (Nat → Int32)) : Option ((Nat → Nat × Nat × Nat × Nat) × Int32 × (Nat → Int32 × Int32 × (Nat → Int32) × (Nat → Int32) × (Nat → Int32))) :=
  gd c_len 6 (ob5 (f_X0_copy (c_st c_len.toNatClampNeg).1 (c_st c_len.toNatClampNeg).2.1 (c_st c_len.toNatClampNeg).2.2.1 (c_st c_len.toNatClampNeg).2.2.2.1 (c_st c_len.toNatClampNeg).2.2.2.2 p1_players p1_told p1_kinds p1_owners p1_cards) (fun (n1 : Int32) (n2 : Int32) (n3 : Nat → Int32) (n4 : Nat → Int32) (n5 : Nat → Int32) => some (c_ad, c_len + 1, va_up c_st c_len.toNatClampNeg (n1, n2, n3, n4, n5))))
noncomputable def f_X1_record (c_ad : Nat → Nat × Nat × Nat × Nat) (c_len : Int32) (c_st : Nat → Int32 × Int32 × (Nat → Int32) × (Nat → Int32) × (Nat → Int32)) (p1_players : Int32) (p1_told : Int32) (p1_kinds : Nat → Int32) (p1_owners : Nat → Int32) (p1_cards : Nat → Int32) : Option ((Nat → Nat × Nat × Nat × Nat) × Int32 × (Nat → Int32 × Int32 × (Nat → Int32) × (Nat → Int32) × (Nat → Int32))) :=
  if c_len < (6 : Int32) then f_X1_record_J13 p1_players p1_told p1_kinds p1_owners p1_cards c_ad c_len c_st else ob3 (f_X1_dropOldest c_ad c_len c_st) (fun (c_ad_10 : Nat → Nat × Nat × Nat × Nat) (c_len_10 : Int32) (c_st_10 : Nat → Int32 × Int32 × (Nat → Int32) × (Nat → Int32) × (Nat → Int32)) => f_X1_record_J13 p1_players p1_told p1_kinds p1_owners p1_cards c_ad_10 c_len_10 c_st_10)
set_option maxHeartbeats 4000000 in
set_option maxRecDepth 100000 in
theorem c_X1_record (l : Launch) (dC : Nat → ClassId) (dI : Nat → Nat → Nat) (ck : Nat → ClassId) (a0 a0s b1 b1_kinds b1_owners b1_cards : Nat) (c_ad : Nat → Nat × Nat × Nat × Nat) (c_len : Int32) (c_st : Nat → Int32 × Int32 × (Nat → Int32) × (Nat → Int32) × (Nat → Int32)) (p1_players : Int32) (p1_told : Int32) (p1_kinds : Nat → Int32) (p1_owners : Nat → Int32) (p1_cards : Nat → Int32) (o0 : Nat → Nat × Nat × Nat × Nat) (o1 : Int32) (o2 : Nat → Int32 × Int32 × (Nat → Int32) × (Nat → Int32) × (Nat → Int32)) (h : f_X1_record c_ad c_len c_st p1_players p1_told p1_kinds p1_owners p1_cards = some (o0, o1, o2)) : MV l yX1_record wsX1_record ({ frames := 2, cells := 0, slots := 0, locals := 47 }) [.ref a0, .ref b1] (dC, dI) ck (wX1 ck a0 a0s c_ad c_len c_st ++ wX0 ck b1 b1_kinds b1_owners b1_cards p1_players p1_told p1_kinds p1_owners p1_cards) (wX1 ck a0 a0s o0 o1 o2 ++ wX0 ck b1 b1_kinds b1_owners b1_cards p1_players p1_told p1_kinds p1_owners p1_cards) := by
  refine MV.ofW (cc := cX1_record) (maxL := 2) (ret := none) (by decide +kernel) rfl (Nat.le_of_ble_eq_true rfl) ?_
  intro p e s m below meth c hx hb hr hml hts hown hlk hK hP A hA hD ls hl
  have hS : va_S A s.heap s.heap [] := va_S.rf
  have hown : s.vm.findClass RX1 = some m.cls := hown
  have iu_X1 : ∀ w ∈ u_ws RX1 TX1 2, w ∈ wsX1_record := fun w h => List.mem_cons_of_mem _ (List.mem_append_left _ (List.mem_append_right _ h))
  have hl : lv_has ls 2 [(0, .ref a0), (1, .ref b1)] := hl
  unfold f_X1_record at h
  have hJ13 : ∀ (ad : Nat → Nat × Nat × Nat × Nat) (len : Int32) (st : Nat → Int32 × Int32 × (Nat → Int32) × (Nat → Int32) × (Nat → Int32)), f_X1_record_J13 p1_players p1_told p1_kinds p1_owners p1_cards ad len st = some (o0, o1, o2) → ∀ (H : Heap) (locs : List Loc), va_P (dC, dI) vwCl (wX1 ck a0 a0s ad len st ++ wX0 ck b1 b1_kinds b1_owners b1_cards p1_players p1_told p1_kinds p1_owners p1_cards) H → va_D A (wX1 ck a0 a0s ad len st ++ wX0 ck b1 b1_kinds b1_owners b1_cards p1_players p1_told p1_kinds p1_owners p1_cards) → va_S A s.heap H locs → ∀ ls : Array Slot, lv_has ls 2 [(0, .ref a0), (1, .ref b1)] → W p l e (headSpec wsX1_record ({ frames := 2, cells := 0, slots := 0, locals := 47 })).room s m [.ref a0, .ref b1].toArray below meth c H locs 0 0 (MQ below (QV (dC, dI) (wX1 ck a0 a0s o0 o1 o2 ++ wX0 ck b1 b1_kinds b1_owners b1_cards p1_players p1_told p1_kinds p1_owners p1_cards) A) [.ref a0, .ref b1].toArray s 0 0 A) (F0 m 13 ls []) := by
    intro ad len st h H locs hP hD hS ls hl
    unfold f_X1_record_J13 at h
    obtain ⟨g, h⟩ := gd_e h
    obtain ⟨n1, n2, n3, n4, n5, q, h⟩ := ob5_e h
    obtain ⟨j, hj, rfl⟩ := vp_in_of g (by decide)
    refine lv_aload_n hx hb dX1_record_13 rfl (lv_at hl 0 rfl) ?_
    refine va_get (ci := 1) (v := .ref a0s) (C := RX1) (T := TX1) (N := 2) hx hb hts iu_X1 hown hK.1 hP 0 rfl rfl 0 (by decide) (hts (.fieldLink RX1 11 "SheetMarks$History" "states" "[LSheetMarks$Facts;") (List.mem_of_getElem? (i := 2) rfl)) (fun _ h9 => h9) rfl dX1_record_14 ?_
    refine lv_aload_n hx hb dX1_record_17 rfl (lv_at hl 0 rfl) ?_
    refine va_get (ci := 1) (v := .int (nI j)) (C := RX1) (T := TX1) (N := 2) hx hb hts iu_X1 hown hK.1 hP 0 rfl rfl 1 (by decide) (hts (.fieldLink RX1 18 "SheetMarks$History" "length" "I") (List.mem_of_getElem? (i := 1) rfl)) (fun _ h9 => h9) rfl dX1_record_18 ?_
    refine va_aldq hx hb hK.1 hP 1 4 rfl rfl g dX1_record_21 ?_
    refine lv_aload_n hx hb dX1_record_22 rfl (lv_at hl 1 rfl) ?_
    match j, hj with
    | 0, _ =>
      refine cMV (st0 := [.ref b1, .ref ((ad 0).1)]) (wc := wX0 ck ((ad 0).1) ((ad 0).2.1) ((ad 0).2.2.1) ((ad 0).2.2.2) ((st 0).1) ((st 0).2.1) ((st 0).2.2.1) ((st 0).2.2.2.1) ((st 0).2.2.2.2) ++ wX0 ck b1 b1_kinds b1_owners b1_cards p1_players p1_told p1_kinds p1_owners p1_cards) (wr := [(a0, .inr (1, [.ref a0s, .int (nI 0)])), (a0s, .inl (ck 4, 6, .inr (.inr (.inr (.inr (fun i => some (ad i).1))))))] ++ wF ck (ad 1) (st 1) ++ wF ck (ad 2) (st 2) ++ wF ck (ad 3) (st 3) ++ wF ck (ad 4) (st 4) ++ wF ck (ad 5) (st 5)) (w1 := wX0 ck ((ad 0).1) ((ad 0).2.1) ((ad 0).2.2.1) ((ad 0).2.2.2) n1 n2 n3 n4 n5 ++ wX0 ck b1 b1_kinds b1_owners b1_cards p1_players p1_told p1_kinds p1_owners p1_cards) (wn := wX1 ck a0 a0s ad (nI 0) (va_up st 0 (n1, n2, n3, n4, n5)) ++ wX0 ck b1 b1_kinds b1_owners b1_cards p1_players p1_told p1_kinds p1_owners p1_cards) ⟨hx, hb, hml, hown, hts⟩ hK hP hD hS hA [2, 3, 4, 5, 26, 27, 28, 29] [0, 1, 6, 7, 8, 9, 10, 11, 12, 13, 14, 15, 16, 17, 18, 19, 20, 21, 22, 23, 24, 25] [0, 1, 22, 23, 24, 25, 2, 3, 4, 5, 6, 7, 8, 9, 10, 11, 12, 13, 14, 15, 16, 17, 18, 19, 20, 21, 26, 27, 28, 29] rfl (by decide) rfl (by decide) (by decide) rfl (by decide) (c_X0_copy l dC dI ck ((ad 0).1) ((ad 0).2.1) ((ad 0).2.2.1) ((ad 0).2.2.2) b1 b1_kinds b1_owners b1_cards ((st 0).1) ((st 0).2.1) ((st 0).2.2.1) ((st 0).2.2.2.1) ((st 0).2.2.2.2) p1_players p1_told p1_kinds p1_owners p1_cards n1 n2 n3 n4 n5 q) (cwV 1 hts gX1_record_X0_copy rfl rfl rfl (by decide +kernel) ⟨Nat.le_of_ble_eq_true rfl, Nat.le_of_ble_eq_true rfl⟩) 2 rfl rfl rfl hl.1 rfl (Nat.le_of_ble_eq_true rfl) dX1_record_23 ⟨Nat.zero_le _, Nat.zero_le _⟩ (fun H locs hP hD hS => ?_)
      refine lv_aload_n hx hb dX1_record_26 rfl (lv_at hl 0 rfl) ?_
      refine lv_dup hx hb dX1_record_27 rfl ?_
      refine va_get (ci := 1) (v := .int (nI 0)) (C := RX1) (T := TX1) (N := 2) hx hb hts iu_X1 hown hK.1 hP 0 rfl rfl 1 (by decide) (hts (.fieldLink RX1 18 "SheetMarks$History" "length" "I") (List.mem_of_getElem? (i := 1) rfl)) (fun _ h9 => h9) rfl dX1_record_28 ?_
      refine lv_iconst (v := (1 : Int32)) hx hb dX1_record_31 rfl ?_
      refine lv_iadd hx hb dX1_record_32 ?_
      refine va_put (ci := 1) (v := .int (nI 0 + 1)) (ty := .int) (C := RX1) (T := TX1) (N := 2) hx hb hts iu_X1 tyX1 tyX1_ok nmX1 hown hK.1 hP hD hS 0 rfl rfl 1 (by decide) (hts (.fieldLink RX1 18 "SheetMarks$History" "length" "I") (List.mem_of_getElem? (i := 1) rfl)) (fun _ h9 => h9) rfl (by decide +kernel) rfl rfl (Nat.le_of_ble_eq_true rfl) dX1_record_33 (fun H locs hP hD hS => ?_)
      have hP : va_P (dC, dI) vwCl (wX1 ck a0 a0s ad (nI 0 + 1) (va_up st (nI 0).toNatClampNeg (n1, n2, n3, n4, n5)) ++ wX0 ck b1 b1_kinds b1_owners b1_cards p1_players p1_told p1_kinds p1_owners p1_cards) H := hP
      have hD : va_D A (wX1 ck a0 a0s ad (nI 0 + 1) (va_up st (nI 0).toNatClampNeg (n1, n2, n3, n4, n5)) ++ wX0 ck b1 b1_kinds b1_owners b1_cards p1_players p1_told p1_kinds p1_owners p1_cards) := hD
      cases h
      exact eMv hx hb hr hlk hP hD hS dX1_record_36
    | 1, _ =>
      refine cMV (st0 := [.ref b1, .ref ((ad 1).1)]) (wc := wX0 ck ((ad 1).1) ((ad 1).2.1) ((ad 1).2.2.1) ((ad 1).2.2.2) ((st 1).1) ((st 1).2.1) ((st 1).2.2.1) ((st 1).2.2.2.1) ((st 1).2.2.2.2) ++ wX0 ck b1 b1_kinds b1_owners b1_cards p1_players p1_told p1_kinds p1_owners p1_cards) (wr := [(a0, .inr (1, [.ref a0s, .int (nI 1)])), (a0s, .inl (ck 4, 6, .inr (.inr (.inr (.inr (fun i => some (ad i).1))))))] ++ wF ck (ad 0) (st 0) ++ wF ck (ad 2) (st 2) ++ wF ck (ad 3) (st 3) ++ wF ck (ad 4) (st 4) ++ wF ck (ad 5) (st 5)) (w1 := wX0 ck ((ad 1).1) ((ad 1).2.1) ((ad 1).2.2.1) ((ad 1).2.2.2) n1 n2 n3 n4 n5 ++ wX0 ck b1 b1_kinds b1_owners b1_cards p1_players p1_told p1_kinds p1_owners p1_cards) (wn := wX1 ck a0 a0s ad (nI 1) (va_up st 1 (n1, n2, n3, n4, n5)) ++ wX0 ck b1 b1_kinds b1_owners b1_cards p1_players p1_told p1_kinds p1_owners p1_cards) ⟨hx, hb, hml, hown, hts⟩ hK hP hD hS hA [6, 7, 8, 9, 26, 27, 28, 29] [0, 1, 2, 3, 4, 5, 10, 11, 12, 13, 14, 15, 16, 17, 18, 19, 20, 21, 22, 23, 24, 25] [0, 1, 2, 3, 4, 5, 22, 23, 24, 25, 6, 7, 8, 9, 10, 11, 12, 13, 14, 15, 16, 17, 18, 19, 20, 21, 26, 27, 28, 29] rfl (by decide) rfl (by decide) (by decide) rfl (by decide) (c_X0_copy l dC dI ck ((ad 1).1) ((ad 1).2.1) ((ad 1).2.2.1) ((ad 1).2.2.2) b1 b1_kinds b1_owners b1_cards ((st 1).1) ((st 1).2.1) ((st 1).2.2.1) ((st 1).2.2.2.1) ((st 1).2.2.2.2) p1_players p1_told p1_kinds p1_owners p1_cards n1 n2 n3 n4 n5 q) (cwV 1 hts gX1_record_X0_copy rfl rfl rfl (by decide +kernel) ⟨Nat.le_of_ble_eq_true rfl, Nat.le_of_ble_eq_true rfl⟩) 6 rfl rfl rfl hl.1 rfl (Nat.le_of_ble_eq_true rfl) dX1_record_23 ⟨Nat.zero_le _, Nat.zero_le _⟩ (fun H locs hP hD hS => ?_)
      refine lv_aload_n hx hb dX1_record_26 rfl (lv_at hl 0 rfl) ?_
      refine lv_dup hx hb dX1_record_27 rfl ?_
      refine va_get (ci := 1) (v := .int (nI 1)) (C := RX1) (T := TX1) (N := 2) hx hb hts iu_X1 hown hK.1 hP 0 rfl rfl 1 (by decide) (hts (.fieldLink RX1 18 "SheetMarks$History" "length" "I") (List.mem_of_getElem? (i := 1) rfl)) (fun _ h9 => h9) rfl dX1_record_28 ?_
      refine lv_iconst (v := (1 : Int32)) hx hb dX1_record_31 rfl ?_
      refine lv_iadd hx hb dX1_record_32 ?_
      refine va_put (ci := 1) (v := .int (nI 1 + 1)) (ty := .int) (C := RX1) (T := TX1) (N := 2) hx hb hts iu_X1 tyX1 tyX1_ok nmX1 hown hK.1 hP hD hS 0 rfl rfl 1 (by decide) (hts (.fieldLink RX1 18 "SheetMarks$History" "length" "I") (List.mem_of_getElem? (i := 1) rfl)) (fun _ h9 => h9) rfl (by decide +kernel) rfl rfl (Nat.le_of_ble_eq_true rfl) dX1_record_33 (fun H locs hP hD hS => ?_)
      have hP : va_P (dC, dI) vwCl (wX1 ck a0 a0s ad (nI 1 + 1) (va_up st (nI 1).toNatClampNeg (n1, n2, n3, n4, n5)) ++ wX0 ck b1 b1_kinds b1_owners b1_cards p1_players p1_told p1_kinds p1_owners p1_cards) H := hP
      have hD : va_D A (wX1 ck a0 a0s ad (nI 1 + 1) (va_up st (nI 1).toNatClampNeg (n1, n2, n3, n4, n5)) ++ wX0 ck b1 b1_kinds b1_owners b1_cards p1_players p1_told p1_kinds p1_owners p1_cards) := hD
      cases h
      exact eMv hx hb hr hlk hP hD hS dX1_record_36
    | 2, _ =>
      refine cMV (st0 := [.ref b1, .ref ((ad 2).1)]) (wc := wX0 ck ((ad 2).1) ((ad 2).2.1) ((ad 2).2.2.1) ((ad 2).2.2.2) ((st 2).1) ((st 2).2.1) ((st 2).2.2.1) ((st 2).2.2.2.1) ((st 2).2.2.2.2) ++ wX0 ck b1 b1_kinds b1_owners b1_cards p1_players p1_told p1_kinds p1_owners p1_cards) (wr := [(a0, .inr (1, [.ref a0s, .int (nI 2)])), (a0s, .inl (ck 4, 6, .inr (.inr (.inr (.inr (fun i => some (ad i).1))))))] ++ wF ck (ad 0) (st 0) ++ wF ck (ad 1) (st 1) ++ wF ck (ad 3) (st 3) ++ wF ck (ad 4) (st 4) ++ wF ck (ad 5) (st 5)) (w1 := wX0 ck ((ad 2).1) ((ad 2).2.1) ((ad 2).2.2.1) ((ad 2).2.2.2) n1 n2 n3 n4 n5 ++ wX0 ck b1 b1_kinds b1_owners b1_cards p1_players p1_told p1_kinds p1_owners p1_cards) (wn := wX1 ck a0 a0s ad (nI 2) (va_up st 2 (n1, n2, n3, n4, n5)) ++ wX0 ck b1 b1_kinds b1_owners b1_cards p1_players p1_told p1_kinds p1_owners p1_cards) ⟨hx, hb, hml, hown, hts⟩ hK hP hD hS hA [10, 11, 12, 13, 26, 27, 28, 29] [0, 1, 2, 3, 4, 5, 6, 7, 8, 9, 14, 15, 16, 17, 18, 19, 20, 21, 22, 23, 24, 25] [0, 1, 2, 3, 4, 5, 6, 7, 8, 9, 22, 23, 24, 25, 10, 11, 12, 13, 14, 15, 16, 17, 18, 19, 20, 21, 26, 27, 28, 29] rfl (by decide) rfl (by decide) (by decide) rfl (by decide) (c_X0_copy l dC dI ck ((ad 2).1) ((ad 2).2.1) ((ad 2).2.2.1) ((ad 2).2.2.2) b1 b1_kinds b1_owners b1_cards ((st 2).1) ((st 2).2.1) ((st 2).2.2.1) ((st 2).2.2.2.1) ((st 2).2.2.2.2) p1_players p1_told p1_kinds p1_owners p1_cards n1 n2 n3 n4 n5 q) (cwV 1 hts gX1_record_X0_copy rfl rfl rfl (by decide +kernel) ⟨Nat.le_of_ble_eq_true rfl, Nat.le_of_ble_eq_true rfl⟩) 10 rfl rfl rfl hl.1 rfl (Nat.le_of_ble_eq_true rfl) dX1_record_23 ⟨Nat.zero_le _, Nat.zero_le _⟩ (fun H locs hP hD hS => ?_)
      refine lv_aload_n hx hb dX1_record_26 rfl (lv_at hl 0 rfl) ?_
      refine lv_dup hx hb dX1_record_27 rfl ?_
      refine va_get (ci := 1) (v := .int (nI 2)) (C := RX1) (T := TX1) (N := 2) hx hb hts iu_X1 hown hK.1 hP 0 rfl rfl 1 (by decide) (hts (.fieldLink RX1 18 "SheetMarks$History" "length" "I") (List.mem_of_getElem? (i := 1) rfl)) (fun _ h9 => h9) rfl dX1_record_28 ?_
      refine lv_iconst (v := (1 : Int32)) hx hb dX1_record_31 rfl ?_
      refine lv_iadd hx hb dX1_record_32 ?_
      refine va_put (ci := 1) (v := .int (nI 2 + 1)) (ty := .int) (C := RX1) (T := TX1) (N := 2) hx hb hts iu_X1 tyX1 tyX1_ok nmX1 hown hK.1 hP hD hS 0 rfl rfl 1 (by decide) (hts (.fieldLink RX1 18 "SheetMarks$History" "length" "I") (List.mem_of_getElem? (i := 1) rfl)) (fun _ h9 => h9) rfl (by decide +kernel) rfl rfl (Nat.le_of_ble_eq_true rfl) dX1_record_33 (fun H locs hP hD hS => ?_)
      have hP : va_P (dC, dI) vwCl (wX1 ck a0 a0s ad (nI 2 + 1) (va_up st (nI 2).toNatClampNeg (n1, n2, n3, n4, n5)) ++ wX0 ck b1 b1_kinds b1_owners b1_cards p1_players p1_told p1_kinds p1_owners p1_cards) H := hP
      have hD : va_D A (wX1 ck a0 a0s ad (nI 2 + 1) (va_up st (nI 2).toNatClampNeg (n1, n2, n3, n4, n5)) ++ wX0 ck b1 b1_kinds b1_owners b1_cards p1_players p1_told p1_kinds p1_owners p1_cards) := hD
      cases h
      exact eMv hx hb hr hlk hP hD hS dX1_record_36
    | 3, _ =>
      refine cMV (st0 := [.ref b1, .ref ((ad 3).1)]) (wc := wX0 ck ((ad 3).1) ((ad 3).2.1) ((ad 3).2.2.1) ((ad 3).2.2.2) ((st 3).1) ((st 3).2.1) ((st 3).2.2.1) ((st 3).2.2.2.1) ((st 3).2.2.2.2) ++ wX0 ck b1 b1_kinds b1_owners b1_cards p1_players p1_told p1_kinds p1_owners p1_cards) (wr := [(a0, .inr (1, [.ref a0s, .int (nI 3)])), (a0s, .inl (ck 4, 6, .inr (.inr (.inr (.inr (fun i => some (ad i).1))))))] ++ wF ck (ad 0) (st 0) ++ wF ck (ad 1) (st 1) ++ wF ck (ad 2) (st 2) ++ wF ck (ad 4) (st 4) ++ wF ck (ad 5) (st 5)) (w1 := wX0 ck ((ad 3).1) ((ad 3).2.1) ((ad 3).2.2.1) ((ad 3).2.2.2) n1 n2 n3 n4 n5 ++ wX0 ck b1 b1_kinds b1_owners b1_cards p1_players p1_told p1_kinds p1_owners p1_cards) (wn := wX1 ck a0 a0s ad (nI 3) (va_up st 3 (n1, n2, n3, n4, n5)) ++ wX0 ck b1 b1_kinds b1_owners b1_cards p1_players p1_told p1_kinds p1_owners p1_cards) ⟨hx, hb, hml, hown, hts⟩ hK hP hD hS hA [14, 15, 16, 17, 26, 27, 28, 29] [0, 1, 2, 3, 4, 5, 6, 7, 8, 9, 10, 11, 12, 13, 18, 19, 20, 21, 22, 23, 24, 25] [0, 1, 2, 3, 4, 5, 6, 7, 8, 9, 10, 11, 12, 13, 22, 23, 24, 25, 14, 15, 16, 17, 18, 19, 20, 21, 26, 27, 28, 29] rfl (by decide) rfl (by decide) (by decide) rfl (by decide) (c_X0_copy l dC dI ck ((ad 3).1) ((ad 3).2.1) ((ad 3).2.2.1) ((ad 3).2.2.2) b1 b1_kinds b1_owners b1_cards ((st 3).1) ((st 3).2.1) ((st 3).2.2.1) ((st 3).2.2.2.1) ((st 3).2.2.2.2) p1_players p1_told p1_kinds p1_owners p1_cards n1 n2 n3 n4 n5 q) (cwV 1 hts gX1_record_X0_copy rfl rfl rfl (by decide +kernel) ⟨Nat.le_of_ble_eq_true rfl, Nat.le_of_ble_eq_true rfl⟩) 14 rfl rfl rfl hl.1 rfl (Nat.le_of_ble_eq_true rfl) dX1_record_23 ⟨Nat.zero_le _, Nat.zero_le _⟩ (fun H locs hP hD hS => ?_)
      refine lv_aload_n hx hb dX1_record_26 rfl (lv_at hl 0 rfl) ?_
      refine lv_dup hx hb dX1_record_27 rfl ?_
      refine va_get (ci := 1) (v := .int (nI 3)) (C := RX1) (T := TX1) (N := 2) hx hb hts iu_X1 hown hK.1 hP 0 rfl rfl 1 (by decide) (hts (.fieldLink RX1 18 "SheetMarks$History" "length" "I") (List.mem_of_getElem? (i := 1) rfl)) (fun _ h9 => h9) rfl dX1_record_28 ?_
      refine lv_iconst (v := (1 : Int32)) hx hb dX1_record_31 rfl ?_
      refine lv_iadd hx hb dX1_record_32 ?_
      refine va_put (ci := 1) (v := .int (nI 3 + 1)) (ty := .int) (C := RX1) (T := TX1) (N := 2) hx hb hts iu_X1 tyX1 tyX1_ok nmX1 hown hK.1 hP hD hS 0 rfl rfl 1 (by decide) (hts (.fieldLink RX1 18 "SheetMarks$History" "length" "I") (List.mem_of_getElem? (i := 1) rfl)) (fun _ h9 => h9) rfl (by decide +kernel) rfl rfl (Nat.le_of_ble_eq_true rfl) dX1_record_33 (fun H locs hP hD hS => ?_)
      have hP : va_P (dC, dI) vwCl (wX1 ck a0 a0s ad (nI 3 + 1) (va_up st (nI 3).toNatClampNeg (n1, n2, n3, n4, n5)) ++ wX0 ck b1 b1_kinds b1_owners b1_cards p1_players p1_told p1_kinds p1_owners p1_cards) H := hP
      have hD : va_D A (wX1 ck a0 a0s ad (nI 3 + 1) (va_up st (nI 3).toNatClampNeg (n1, n2, n3, n4, n5)) ++ wX0 ck b1 b1_kinds b1_owners b1_cards p1_players p1_told p1_kinds p1_owners p1_cards) := hD
      cases h
      exact eMv hx hb hr hlk hP hD hS dX1_record_36
    | 4, _ =>
      refine cMV (st0 := [.ref b1, .ref ((ad 4).1)]) (wc := wX0 ck ((ad 4).1) ((ad 4).2.1) ((ad 4).2.2.1) ((ad 4).2.2.2) ((st 4).1) ((st 4).2.1) ((st 4).2.2.1) ((st 4).2.2.2.1) ((st 4).2.2.2.2) ++ wX0 ck b1 b1_kinds b1_owners b1_cards p1_players p1_told p1_kinds p1_owners p1_cards) (wr := [(a0, .inr (1, [.ref a0s, .int (nI 4)])), (a0s, .inl (ck 4, 6, .inr (.inr (.inr (.inr (fun i => some (ad i).1))))))] ++ wF ck (ad 0) (st 0) ++ wF ck (ad 1) (st 1) ++ wF ck (ad 2) (st 2) ++ wF ck (ad 3) (st 3) ++ wF ck (ad 5) (st 5)) (w1 := wX0 ck ((ad 4).1) ((ad 4).2.1) ((ad 4).2.2.1) ((ad 4).2.2.2) n1 n2 n3 n4 n5 ++ wX0 ck b1 b1_kinds b1_owners b1_cards p1_players p1_told p1_kinds p1_owners p1_cards) (wn := wX1 ck a0 a0s ad (nI 4) (va_up st 4 (n1, n2, n3, n4, n5)) ++ wX0 ck b1 b1_kinds b1_owners b1_cards p1_players p1_told p1_kinds p1_owners p1_cards) ⟨hx, hb, hml, hown, hts⟩ hK hP hD hS hA [18, 19, 20, 21, 26, 27, 28, 29] [0, 1, 2, 3, 4, 5, 6, 7, 8, 9, 10, 11, 12, 13, 14, 15, 16, 17, 22, 23, 24, 25] [0, 1, 2, 3, 4, 5, 6, 7, 8, 9, 10, 11, 12, 13, 14, 15, 16, 17, 22, 23, 24, 25, 18, 19, 20, 21, 26, 27, 28, 29] rfl (by decide) rfl (by decide) (by decide) rfl (by decide) (c_X0_copy l dC dI ck ((ad 4).1) ((ad 4).2.1) ((ad 4).2.2.1) ((ad 4).2.2.2) b1 b1_kinds b1_owners b1_cards ((st 4).1) ((st 4).2.1) ((st 4).2.2.1) ((st 4).2.2.2.1) ((st 4).2.2.2.2) p1_players p1_told p1_kinds p1_owners p1_cards n1 n2 n3 n4 n5 q) (cwV 1 hts gX1_record_X0_copy rfl rfl rfl (by decide +kernel) ⟨Nat.le_of_ble_eq_true rfl, Nat.le_of_ble_eq_true rfl⟩) 18 rfl rfl rfl hl.1 rfl (Nat.le_of_ble_eq_true rfl) dX1_record_23 ⟨Nat.zero_le _, Nat.zero_le _⟩ (fun H locs hP hD hS => ?_)
      refine lv_aload_n hx hb dX1_record_26 rfl (lv_at hl 0 rfl) ?_
      refine lv_dup hx hb dX1_record_27 rfl ?_
      refine va_get (ci := 1) (v := .int (nI 4)) (C := RX1) (T := TX1) (N := 2) hx hb hts iu_X1 hown hK.1 hP 0 rfl rfl 1 (by decide) (hts (.fieldLink RX1 18 "SheetMarks$History" "length" "I") (List.mem_of_getElem? (i := 1) rfl)) (fun _ h9 => h9) rfl dX1_record_28 ?_
      refine lv_iconst (v := (1 : Int32)) hx hb dX1_record_31 rfl ?_
      refine lv_iadd hx hb dX1_record_32 ?_
      refine va_put (ci := 1) (v := .int (nI 4 + 1)) (ty := .int) (C := RX1) (T := TX1) (N := 2) hx hb hts iu_X1 tyX1 tyX1_ok nmX1 hown hK.1 hP hD hS 0 rfl rfl 1 (by decide) (hts (.fieldLink RX1 18 "SheetMarks$History" "length" "I") (List.mem_of_getElem? (i := 1) rfl)) (fun _ h9 => h9) rfl (by decide +kernel) rfl rfl (Nat.le_of_ble_eq_true rfl) dX1_record_33 (fun H locs hP hD hS => ?_)
      have hP : va_P (dC, dI) vwCl (wX1 ck a0 a0s ad (nI 4 + 1) (va_up st (nI 4).toNatClampNeg (n1, n2, n3, n4, n5)) ++ wX0 ck b1 b1_kinds b1_owners b1_cards p1_players p1_told p1_kinds p1_owners p1_cards) H := hP
      have hD : va_D A (wX1 ck a0 a0s ad (nI 4 + 1) (va_up st (nI 4).toNatClampNeg (n1, n2, n3, n4, n5)) ++ wX0 ck b1 b1_kinds b1_owners b1_cards p1_players p1_told p1_kinds p1_owners p1_cards) := hD
      cases h
      exact eMv hx hb hr hlk hP hD hS dX1_record_36
    | 5, _ =>
      refine cMV (st0 := [.ref b1, .ref ((ad 5).1)]) (wc := wX0 ck ((ad 5).1) ((ad 5).2.1) ((ad 5).2.2.1) ((ad 5).2.2.2) ((st 5).1) ((st 5).2.1) ((st 5).2.2.1) ((st 5).2.2.2.1) ((st 5).2.2.2.2) ++ wX0 ck b1 b1_kinds b1_owners b1_cards p1_players p1_told p1_kinds p1_owners p1_cards) (wr := [(a0, .inr (1, [.ref a0s, .int (nI 5)])), (a0s, .inl (ck 4, 6, .inr (.inr (.inr (.inr (fun i => some (ad i).1))))))] ++ wF ck (ad 0) (st 0) ++ wF ck (ad 1) (st 1) ++ wF ck (ad 2) (st 2) ++ wF ck (ad 3) (st 3) ++ wF ck (ad 4) (st 4)) (w1 := wX0 ck ((ad 5).1) ((ad 5).2.1) ((ad 5).2.2.1) ((ad 5).2.2.2) n1 n2 n3 n4 n5 ++ wX0 ck b1 b1_kinds b1_owners b1_cards p1_players p1_told p1_kinds p1_owners p1_cards) (wn := wX1 ck a0 a0s ad (nI 5) (va_up st 5 (n1, n2, n3, n4, n5)) ++ wX0 ck b1 b1_kinds b1_owners b1_cards p1_players p1_told p1_kinds p1_owners p1_cards) ⟨hx, hb, hml, hown, hts⟩ hK hP hD hS hA [22, 23, 24, 25, 26, 27, 28, 29] [0, 1, 2, 3, 4, 5, 6, 7, 8, 9, 10, 11, 12, 13, 14, 15, 16, 17, 18, 19, 20, 21] [0, 1, 2, 3, 4, 5, 6, 7, 8, 9, 10, 11, 12, 13, 14, 15, 16, 17, 18, 19, 20, 21, 22, 23, 24, 25, 26, 27, 28, 29] rfl (by decide) rfl (by decide) (by decide) rfl (by decide) (c_X0_copy l dC dI ck ((ad 5).1) ((ad 5).2.1) ((ad 5).2.2.1) ((ad 5).2.2.2) b1 b1_kinds b1_owners b1_cards ((st 5).1) ((st 5).2.1) ((st 5).2.2.1) ((st 5).2.2.2.1) ((st 5).2.2.2.2) p1_players p1_told p1_kinds p1_owners p1_cards n1 n2 n3 n4 n5 q) (cwV 1 hts gX1_record_X0_copy rfl rfl rfl (by decide +kernel) ⟨Nat.le_of_ble_eq_true rfl, Nat.le_of_ble_eq_true rfl⟩) 22 rfl rfl rfl hl.1 rfl (Nat.le_of_ble_eq_true rfl) dX1_record_23 ⟨Nat.zero_le _, Nat.zero_le _⟩ (fun H locs hP hD hS => ?_)
      refine lv_aload_n hx hb dX1_record_26 rfl (lv_at hl 0 rfl) ?_
      refine lv_dup hx hb dX1_record_27 rfl ?_
      refine va_get (ci := 1) (v := .int (nI 5)) (C := RX1) (T := TX1) (N := 2) hx hb hts iu_X1 hown hK.1 hP 0 rfl rfl 1 (by decide) (hts (.fieldLink RX1 18 "SheetMarks$History" "length" "I") (List.mem_of_getElem? (i := 1) rfl)) (fun _ h9 => h9) rfl dX1_record_28 ?_
      refine lv_iconst (v := (1 : Int32)) hx hb dX1_record_31 rfl ?_
      refine lv_iadd hx hb dX1_record_32 ?_
      refine va_put (ci := 1) (v := .int (nI 5 + 1)) (ty := .int) (C := RX1) (T := TX1) (N := 2) hx hb hts iu_X1 tyX1 tyX1_ok nmX1 hown hK.1 hP hD hS 0 rfl rfl 1 (by decide) (hts (.fieldLink RX1 18 "SheetMarks$History" "length" "I") (List.mem_of_getElem? (i := 1) rfl)) (fun _ h9 => h9) rfl (by decide +kernel) rfl rfl (Nat.le_of_ble_eq_true rfl) dX1_record_33 (fun H locs hP hD hS => ?_)
      have hP : va_P (dC, dI) vwCl (wX1 ck a0 a0s ad (nI 5 + 1) (va_up st (nI 5).toNatClampNeg (n1, n2, n3, n4, n5)) ++ wX0 ck b1 b1_kinds b1_owners b1_cards p1_players p1_told p1_kinds p1_owners p1_cards) H := hP
      have hD : va_D A (wX1 ck a0 a0s ad (nI 5 + 1) (va_up st (nI 5).toNatClampNeg (n1, n2, n3, n4, n5)) ++ wX0 ck b1 b1_kinds b1_owners b1_cards p1_players p1_told p1_kinds p1_owners p1_cards) := hD
      cases h
      exact eMv hx hb hr hlk hP hD hS dX1_record_36
    | j + 6, hj => exact absurd hj (by omega)
  refine lv_aload_n hx hb dX1_record_0 rfl (lv_at hl 0 rfl) ?_
  refine va_get (ci := 1) (v := .int c_len) (C := RX1) (T := TX1) (N := 2) hx hb hts iu_X1 hown hK.1 hP 0 rfl rfl 1 (by decide) (hts (.fieldLink RX1 18 "SheetMarks$History" "length" "I") (List.mem_of_getElem? (i := 1) rfl)) (fun _ h9 => h9) rfl dX1_record_1 ?_
  refine lv_bipush (v := (6 : Int32)) hx hb dX1_record_4 rfl ?_
  refine lv_icmp_lt (tgt := 13) hx hb dX1_record_6 (by decide) (fun c_6 => ?_) (fun c_6 => ?_)
  · have h := if_t h c_6
    exact hJ13 _ _ _ h _ _ hP hD hS _ hl
  · have h := if_f h c_6
    obtain ⟨ad1, len1, st1, q, h⟩ := ob3_e h
    refine lv_aload_n hx hb dX1_record_9 rfl (lv_at hl 0 rfl) ?_
    refine cMV (wc := wX1 ck a0 a0s c_ad c_len c_st) (wr := wX0 ck b1 b1_kinds b1_owners b1_cards p1_players p1_told p1_kinds p1_owners p1_cards) (w1 := wX1 ck a0 a0s ad1 len1 st1) (wn := wX1 ck a0 a0s ad1 len1 st1 ++ wX0 ck b1 b1_kinds b1_owners b1_cards p1_players p1_told p1_kinds p1_owners p1_cards) ⟨hx, hb, hml, hown, hts⟩ hK hP hD hS hA [0, 1, 2, 3, 4, 5, 6, 7, 8, 9, 10, 11, 12, 13, 14, 15, 16, 17, 18, 19, 20, 21, 22, 23, 24, 25] [26, 27, 28, 29] [4, 5, 6, 7, 8, 9, 10, 11, 12, 13, 14, 15, 16, 17, 18, 19, 20, 21, 22, 23, 24, 25, 26, 27, 28, 29, 0, 1, 2, 3] rfl (by decide) rfl (by decide) (by decide) rfl (by decide) (c_X1_dropOldest l dC dI ck a0 a0s c_ad c_len c_st ad1 len1 st1 q) (cwV 0 hts gX1_record_X1_dropOldest rfl rfl rfl (by decide +kernel) ⟨Nat.le_of_ble_eq_true rfl, Nat.le_of_ble_eq_true rfl⟩) 0 rfl rfl rfl hl.1 rfl (Nat.le_of_ble_eq_true rfl) dX1_record_10 ⟨Nat.zero_le _, Nat.zero_le _⟩ (fun H locs hP hD hS => ?_)
    exact hJ13 _ _ _ h _ _ hP hD hS _ hl
