noncomputable def f_L_cell (p0_len : Nat) (p0_row : Nat → Int32) (v1 : Int32) : Option (Int32) :=
  if (Int32.ofNat p0_len) ≤ v1 then (some (((32452867 : Int32) * v1) + (49979687 : Int32))) else (gd v1 p0_len (some (p0_row v1.toNatClampNeg)))
set_option maxHeartbeats 4000000 in
set_option maxRecDepth 100000 in
theorem c_L_cell (l : Launch) (dC : Nat → ClassId) (dI : Nat → Nat → Nat) (ck : Nat → ClassId) (b0 : Nat) (p0_len : Nat) (p0_row : Nat → Int32) (v1 : Int32) (o0 : Int32) (h : f_L_cell p0_len p0_row v1 = some o0) : RDX l yL_cell wsL_cell ({ frames := 0, cells := 0, slots := 0, locals := 0 }) [.ref b0, .int v1] (dC, dI) ck b0 p0_len p0_row o0 := by
  refine RDX.ofW (cc := cL_cell) (maxL := 2) (ret := (some .int)) (by decide +kernel) rfl (Nat.le_of_ble_eq_true rfl) ?_
  intro p e s m below meth c hx hb hr hml hts hown hlk hK hX hbl ls hl
  have hS : va_S (fun _ : Nat => False) s.heap s.heap [] := va_S.rf
  have hbA : ¬ (fun _ : Nat => False) b0 := fun h => h
  have hown : s.vm.findClass RL = some m.cls := hown
  have hl : lv_has ls 2 [(0, .ref b0), (1, .int v1)] := hl
  unfold f_L_cell at h
  refine lv_iload_n hx hb dL_cell_0 rfl (lv_at hl 1 rfl) ?_
  refine lv_aload_n hx hb dL_cell_1 rfl (lv_at hl 0 rfl) ?_
  refine va_slen hx hb hX hbl hbA hS dL_cell_2 ?_
  refine lv_icmp_ge (tgt := 12) hx hb dL_cell_3 (by decide) (fun c_3 => ?_) (fun c_3 => ?_)
  · have h := if_t h c_3
    refine lv_ldc hx hb hown (hts (.constant RL 7 (32452867)) (List.mem_of_getElem? (i := 1) rfl)) dL_cell_12 ?_
    refine lv_iload_n hx hb dL_cell_14 rfl (lv_at hl 1 rfl) ?_
    refine lv_imul hx hb dL_cell_15 ?_
    refine lv_ldc hx hb hown (hts (.constant RL 8 (49979687)) (List.mem_of_getElem? (i := 2) rfl)) dL_cell_16 ?_
    refine lv_iadd hx hb dL_cell_18 ?_
    obtain rfl := Option.some.inj h
    exact eRi hx hb hr hlk rfl dL_cell_19
  · have h := if_f h c_3
    refine lv_aload_n hx hb dL_cell_6 rfl (lv_at hl 0 rfl) ?_
    refine lv_iload_n hx hb dL_cell_7 rfl (lv_at hl 1 rfl) ?_
    obtain ⟨g_8, h⟩ := gd_e h
    refine va_sld hx hb hX hbl hbA hS g_8 dL_cell_8 ?_
    refine lv_goto (tgt := 19) hx hb dL_cell_9 (by decide) ?_
    cases h
    exact eRi hx hb hr hlk rfl dL_cell_19
noncomputable def f_L_low (v0 : Int32) (v1 : Int32) : Option (Int32) :=
  nz v1 (some ((v0 &&& (2147483647 : Int32)) - (v0 &&& (2147483647 : Int32)) / v1 * v1))
set_option maxHeartbeats 4000000 in
set_option maxRecDepth 100000 in
theorem c_L_low (l : Launch) (dC : Nat → ClassId) (dI : Nat → Nat → Nat) (ck : Nat → ClassId) (v0 : Int32) (v1 : Int32) (o0 : Int32) (h : f_L_low v0 v1 = some o0) : RD l yL_low wsL_low ({ frames := 0, cells := 0, slots := 0, locals := 0 }) [.int v0, .int v1] (dC, dI) ck ([]) o0 := by
  refine RD.ofW (cc := cL_low) (maxL := 2) (ret := (some .int)) (by decide +kernel) rfl (Nat.le_of_ble_eq_true rfl) ?_
  intro p e s m below meth c hx hb hr hml hts hown hlk hK hP ls hl
  have hown : s.vm.findClass RL = some m.cls := hown
  have hl : lv_has ls 2 [(0, .int v0), (1, .int v1)] := hl
  unfold f_L_low at h
  refine lv_iload_n hx hb dL_low_0 rfl (lv_at hl 0 rfl) ?_
  refine lv_ldc hx hb hown (hts (.constant RL 9 (2147483647)) (List.mem_of_getElem? (i := 1) rfl)) dL_low_1 ?_
  refine lv_iand hx hb dL_low_3 ?_
  refine lv_iload_n hx hb dL_low_4 rfl (lv_at hl 1 rfl) ?_
  obtain ⟨z_5, h⟩ := nz_e h
  refine lv_irem hx hb dL_low_5 z_5 ?_
  cases h
  exact eRi hx hb hr hlk rfl dL_low_6
noncomputable def f_L_deal_L144 (v2 : Int32) (n_row_L36 : Nat → Int32) (rec144 : Int32 → Int32 → (Nat → Int32) → Option ((Nat → Int32) × (Nat → Int32))) (v4_L144 : Int32) (v5_L144 : Int32) (p0_row_L144 : Nat → Int32) : Option ((Nat → Int32) × (Nat → Int32)) :=
  if (18 : Int32) ≤ v5_L144 then (gd (18 : Int32) 19 (lt' (upd p0_row_L144 (18 : Int32).toNatClampNeg v2) (fun p0_row_183 : Nat → Int32 => some (p0_row_183, n_row_L36)))) else (gd v5_L144 18 (gd (n_row_L36 v5_L144.toNatClampNeg) 19 (if (0 : Int32) ≤ (p0_row_L144 (n_row_L36 v5_L144.toNatClampNeg).toNatClampNeg) then (rec144 v4_L144 (v5_L144 + (1 : Int32)) p0_row_L144) else (gd v5_L144 18 (nz v2 (gd (n_row_L36 v5_L144.toNatClampNeg) 19 (lt' (upd p0_row_L144 (n_row_L36 v5_L144.toNatClampNeg).toNatClampNeg (v4_L144 - v4_L144 / v2 * v2)) (fun p0_row_169 : Nat → Int32 => lt' (v4_L144 + (1 : Int32)) (fun v4_170 : Int32 => rec144 v4_170 (v5_L144 + (1 : Int32)) p0_row_169)))))))))
noncomputable def f_L_deal_L101 (p1_len : Nat) (p1_row : Nat → Int32) (v2 : Int32) (n_row_L36 : Nat → Int32) (rec101 : Int32 → (Nat → Int32) → Option ((Nat → Int32) × (Nat → Int32))) (v4_L101 : Int32) (p0_row_L101 : Nat → Int32) : Option ((Nat → Int32) × (Nat → Int32)) :=
  if (3 : Int32) ≤ v4_L101 then (lo3 (f_L_deal_L144 v2 n_row_L36) FU (0 : Int32) (0 : Int32) p0_row_L101) else (ob1 (f_L_cell p1_len p1_row (10 : Int32)) (fun (r_116 : Int32) => ob1 (f_L_low (r_116 >>> (((4 : Int32) * v4_L101) &&& 31)) (6 : Int32)) (fun (r_126 : Int32) => gd (((6 : Int32) * v4_L101) + r_126) 19 (lt' (upd p0_row_L101 (((6 : Int32) * v4_L101) + r_126).toNatClampNeg (5 : Int32)) (fun p0_row_131 : Nat → Int32 => rec101 (v4_L101 + (1 : Int32)) p0_row_131)))))
noncomputable def f_L_deal_L36 (p1_len : Nat) (p1_row : Nat → Int32) (v2 : Int32) (p0_row_L8 : Nat → Int32) (rec36 : Int32 → (Nat → Int32) → Option ((Nat → Int32) × (Nat → Int32))) (v4_L36 : Int32) (n_row_L36 : Nat → Int32) : Option ((Nat → Int32) × (Nat → Int32)) :=
  if v4_L36 ≤ (0 : Int32) then (lo2 (f_L_deal_L101 p1_len p1_row v2 n_row_L36) FU (0 : Int32) p0_row_L8) else (ob1 (f_L_cell p1_len p1_row ((1 : Int32) + (v4_L36 / (2 : Int32)))) (fun (r_48 : Int32) => lt' (r_48 >>> (((15 : Int32) * (v4_L36 - v4_L36 / (2 : Int32) * (2 : Int32))) &&& 31)) (fun v5_59 : Int32 => ob1 (f_L_low v5_59 (v4_L36 + (1 : Int32))) (fun (r_67 : Int32) => gd v4_L36 18 (lt' (n_row_L36 v4_L36.toNatClampNeg) (fun v7_76 : Int32 => gd r_67 18 (gd v4_L36 18 (lt' (upd n_row_L36 v4_L36.toNatClampNeg (n_row_L36 r_67.toNatClampNeg)) (fun n_row_85 : Nat → Int32 => gd r_67 18 (lt' (upd n_row_85 r_67.toNatClampNeg v7_76) (fun n_row_91 : Nat → Int32 => rec36 (v4_L36 + (-1 : Int32)) n_row_91)))))))))))
noncomputable def f_L_deal_L8 (p1_len : Nat) (p1_row : Nat → Int32) (v2 : Int32) (rec8 : Int32 → (Nat → Int32) → (Nat → Int32) → Option ((Nat → Int32) × (Nat → Int32))) (v4_L8 : Int32) (p0_row_L8 : Nat → Int32) (n_row_L8 : Nat → Int32) : Option ((Nat → Int32) × (Nat → Int32)) :=
  if (18 : Int32) ≤ v4_L8 then (lo2 (f_L_deal_L36 p1_len p1_row v2 p0_row_L8) FU (17 : Int32) n_row_L8) else (gd v4_L8 18 (lt' (upd n_row_L8 v4_L8.toNatClampNeg v4_L8) (fun n_row_20 : Nat → Int32 => gd v4_L8 19 (lt' (upd p0_row_L8 v4_L8.toNatClampNeg (-1 : Int32)) (fun p0_row_25 : Nat → Int32 => rec8 (v4_L8 + (1 : Int32)) p0_row_25 n_row_20)))))
noncomputable def f_L_deal (p0_row : Nat → Int32) (p1_len : Nat) (p1_row : Nat → Int32) (v2 : Int32) : Option ((Nat → Int32) × (Nat → Int32)) :=
  lo3 (f_L_deal_L8 p1_len p1_row v2) FU (0 : Int32) p0_row zz
set_option maxHeartbeats 4000000 in
set_option maxRecDepth 100000 in
theorem c_L_deal (l : Launch) (dC : Nat → ClassId) (dI : Nat → Nat → Nat) (ck : Nat → ClassId) (b0 b1 : Nat) (p0_row : Nat → Int32) (p1_len : Nat) (p1_row : Nat → Int32) (v2 : Int32) (o0 : Nat → Int32) (o1 : Nat → Int32) (hbw : ¬ b0 = b1) (h : f_L_deal p0_row p1_len p1_row v2 = some (o0, o1)) : MNX l yL_deal wsL_deal ({ frames := 1, cells := 1, slots := 18, locals := 21 }) [.ref b0, .ref b1, .int v2] (dC, dI) ck ([(b0, .inl (ck 0, 19, .inl p0_row))]) b1 p1_len p1_row 1 18 (fun w9 : va_W => ∃ q9 : Nat, w9 = [(b0, .inl (ck 0, 19, .inl o0))] ++ [(q9, .inl (ck 0, 18, .inl o1))]) := by
  refine MNX.ofW (cc := cL_deal) (maxL := 8) (ret := none) (fun k q h => by rcases k with _ | k <;> cases h; exact hbw) (by decide +kernel) rfl (Nat.le_of_ble_eq_true rfl) ?_
  intro p e s m below meth c hx hb hr hml hts hown hlk hK hP hX hbl A hA hbA hD ls hl
  have hS : va_S A s.heap s.heap [] := va_S.rf
  have hown : s.vm.findClass RL = some m.cls := hown
  have hl : lv_has ls 8 [(0, .ref b0), (1, .ref b1), (2, .int v2)] := hl
  unfold f_L_deal at h
  refine lv_bipush (v := (18 : Int32)) hx hb dL_deal_0 rfl ?_
  refine va_newaC (atype := .int) (ty := .int) (N' := 18) (a0 := (18, .inl zz)) hx hb (hts (.arrayClass .int) (List.mem_of_getElem? (i := 1) rfl)) rfl hK hP hD hS hA 0 rfl (fun C h => by cases h) (fun cA => rfl) (by decide) rfl (Nat.le_of_ble_eq_true rfl) (Nat.le_of_ble_eq_true rfl) (Nat.le_of_ble_eq_true rfl) dL_deal_2 (fun q9 H hP hD hS => ?_)
  have hP : va_P (dC, dI) vwCl ([(b0, .inl (ck 0, 19, .inl p0_row))] ++ [(q9, .inl (ck 0, 18, .inl zz))]) H := hP
  have hD : va_D A ([(b0, .inl (ck 0, 19, .inl p0_row))] ++ [(q9, .inl (ck 0, 18, .inl zz))]) := hD
  refine lv_astore_n (lv' := [(3, .ref q9), (0, .ref b0), (1, .ref b1), (2, .int v2)]) hx hb dL_deal_4 rfl hl (by decide) rfl (fun ls hl => ?_)
  refine lv_iconst (v := (0 : Int32)) hx hb dL_deal_5 rfl ?_
  refine lv_istore (lv' := [(4, .int (0 : Int32)), (3, .ref q9), (0, .ref b0), (1, .ref b1), (2, .int v2)]) hx hb dL_deal_6 hl (by decide) rfl (fun ls hl => ?_)
  have hL8 : ∀ (n8 : Nat) (v4_L8 : Int32) (p0_row_L8 : Nat → Int32) (n_row_L8 : Nat → Int32), lo3 (f_L_deal_L8 p1_len p1_row v2) n8 v4_L8 p0_row_L8 n_row_L8 = some (o0, o1) → ∀ (H : Heap) (locs : List Loc), va_P (dC, dI) vwCl ([(b0, .inl (ck 0, 19, .inl p0_row_L8))] ++ [(q9, .inl (ck 0, 18, .inl n_row_L8))]) H → va_D A ([(b0, .inl (ck 0, 19, .inl p0_row_L8))] ++ [(q9, .inl (ck 0, 18, .inl n_row_L8))]) → va_S A s.heap H locs → ∀ ls : Array Slot, lv_has ls 8 [(4, .int v4_L8), (3, .ref q9), (0, .ref b0), (1, .ref b1), (2, .int v2)] → W p l e (headSpec wsL_deal ({ frames := 1, cells := 1, slots := 18, locals := 21 })).room s m [.ref b0, .ref b1, .int v2].toArray below meth c H locs 1 18 (MQ below (QNV (dC, dI) (fun w9 : va_W => ∃ q9 : Nat, w9 = [(b0, .inl (ck 0, 19, .inl o0))] ++ [(q9, .inl (ck 0, 18, .inl o1))]) A) [.ref b0, .ref b1, .int v2].toArray s 1 18 A) (F0 m 8 ls []) := by
    intro n8
    induction n8 with
    | zero => intro v4_L8 p0_row_L8 n_row_L8 h; exact lo3_z h
    | succ n8 ih8 =>
      intro v4_L8 p0_row_L8 n_row_L8 h H locs hP hD hS ls hl
      have h := lo3_s h
      unfold f_L_deal_L8 at h
      refine lv_iload hx hb dL_deal_8 (lv_at hl 0 rfl) ?_
      refine lv_bipush (v := (18 : Int32)) hx hb dL_deal_10 rfl ?_
      refine lv_icmp_ge (tgt := 32) hx hb dL_deal_12 (by decide) (fun c_12 => ?_) (fun c_12 => ?_)
      · have h := if_t h c_12
        refine lv_bipush (v := (17 : Int32)) hx hb dL_deal_32 rfl ?_
        refine lv_istore (lv' := [(4, .int (17 : Int32)), (3, .ref q9), (0, .ref b0), (1, .ref b1), (2, .int v2)]) hx hb dL_deal_34 hl (by decide) rfl (fun ls hl => ?_)
        have hL36 : ∀ (n36 : Nat) (v4_L36 : Int32) (n_row_L36 : Nat → Int32), lo2 (f_L_deal_L36 p1_len p1_row v2 p0_row_L8) n36 v4_L36 n_row_L36 = some (o0, o1) → ∀ (H : Heap) (locs : List Loc), va_P (dC, dI) vwCl ([(b0, .inl (ck 0, 19, .inl p0_row_L8))] ++ [(q9, .inl (ck 0, 18, .inl n_row_L36))]) H → va_D A ([(b0, .inl (ck 0, 19, .inl p0_row_L8))] ++ [(q9, .inl (ck 0, 18, .inl n_row_L36))]) → va_S A s.heap H locs → ∀ ls : Array Slot, lv_has ls 8 [(4, .int v4_L36), (3, .ref q9), (0, .ref b0), (1, .ref b1), (2, .int v2)] → W p l e (headSpec wsL_deal ({ frames := 1, cells := 1, slots := 18, locals := 21 })).room s m [.ref b0, .ref b1, .int v2].toArray below meth c H locs 1 18 (MQ below (QNV (dC, dI) (fun w9 : va_W => ∃ q9 : Nat, w9 = [(b0, .inl (ck 0, 19, .inl o0))] ++ [(q9, .inl (ck 0, 18, .inl o1))]) A) [.ref b0, .ref b1, .int v2].toArray s 1 18 A) (F0 m 36 ls []) := by
          intro n36
          induction n36 with
          | zero => intro v4_L36 n_row_L36 h; exact lo2_z h
          | succ n36 ih36 =>
            intro v4_L36 n_row_L36 h H locs hP hD hS ls hl
            have h := lo2_s h
            unfold f_L_deal_L36 at h
            refine lv_iload hx hb dL_deal_36 (lv_at hl 0 rfl) ?_
            refine lv_if_le (tgt := 98) hx hb dL_deal_38 (by decide) (fun c_38 => ?_) (fun c_38 => ?_)
            · have h := if_t h c_38
              refine lv_iconst (v := (0 : Int32)) hx hb dL_deal_98 rfl ?_
              refine lv_istore (lv' := [(4, .int (0 : Int32)), (3, .ref q9), (0, .ref b0), (1, .ref b1), (2, .int v2)]) hx hb dL_deal_99 hl (by decide) rfl (fun ls hl => ?_)
              have hL101 : ∀ (n101 : Nat) (v4_L101 : Int32) (p0_row_L101 : Nat → Int32), lo2 (f_L_deal_L101 p1_len p1_row v2 n_row_L36) n101 v4_L101 p0_row_L101 = some (o0, o1) → ∀ (H : Heap) (locs : List Loc), va_P (dC, dI) vwCl ([(b0, .inl (ck 0, 19, .inl p0_row_L101))] ++ [(q9, .inl (ck 0, 18, .inl n_row_L36))]) H → va_D A ([(b0, .inl (ck 0, 19, .inl p0_row_L101))] ++ [(q9, .inl (ck 0, 18, .inl n_row_L36))]) → va_S A s.heap H locs → ∀ ls : Array Slot, lv_has ls 8 [(4, .int v4_L101), (3, .ref q9), (0, .ref b0), (1, .ref b1), (2, .int v2)] → W p l e (headSpec wsL_deal ({ frames := 1, cells := 1, slots := 18, locals := 21 })).room s m [.ref b0, .ref b1, .int v2].toArray below meth c H locs 1 18 (MQ below (QNV (dC, dI) (fun w9 : va_W => ∃ q9 : Nat, w9 = [(b0, .inl (ck 0, 19, .inl o0))] ++ [(q9, .inl (ck 0, 18, .inl o1))]) A) [.ref b0, .ref b1, .int v2].toArray s 1 18 A) (F0 m 101 ls []) := by
                intro n101
                induction n101 with
                | zero => intro v4_L101 p0_row_L101 h; exact lo2_z h
                | succ n101 ih101 =>
                  intro v4_L101 p0_row_L101 h H locs hP hD hS ls hl
                  have h := lo2_s h
                  unfold f_L_deal_L101 at h
                  refine lv_iload hx hb dL_deal_101 (lv_at hl 0 rfl) ?_
                  refine lv_iconst (v := (3 : Int32)) hx hb dL_deal_103 rfl ?_
                  refine lv_icmp_ge (tgt := 138) hx hb dL_deal_104 (by decide) (fun c_104 => ?_) (fun c_104 => ?_)
                  · have h := if_t h c_104
                    refine lv_iconst (v := (0 : Int32)) hx hb dL_deal_138 rfl ?_
                    refine lv_istore (lv' := [(4, .int (0 : Int32)), (3, .ref q9), (0, .ref b0), (1, .ref b1), (2, .int v2)]) hx hb dL_deal_139 hl (by decide) rfl (fun ls hl => ?_)
                    refine lv_iconst (v := (0 : Int32)) hx hb dL_deal_141 rfl ?_
                    refine lv_istore (lv' := [(5, .int (0 : Int32)), (4, .int (0 : Int32)), (3, .ref q9), (0, .ref b0), (1, .ref b1), (2, .int v2)]) hx hb dL_deal_142 hl (by decide) rfl (fun ls hl => ?_)
                    have hL144 : ∀ (n144 : Nat) (v4_L144 : Int32) (v5_L144 : Int32) (p0_row_L144 : Nat → Int32), lo3 (f_L_deal_L144 v2 n_row_L36) n144 v4_L144 v5_L144 p0_row_L144 = some (o0, o1) → ∀ (H : Heap) (locs : List Loc), va_P (dC, dI) vwCl ([(b0, .inl (ck 0, 19, .inl p0_row_L144))] ++ [(q9, .inl (ck 0, 18, .inl n_row_L36))]) H → va_D A ([(b0, .inl (ck 0, 19, .inl p0_row_L144))] ++ [(q9, .inl (ck 0, 18, .inl n_row_L36))]) → va_S A s.heap H locs → ∀ ls : Array Slot, lv_has ls 8 [(5, .int v5_L144), (4, .int v4_L144), (3, .ref q9), (0, .ref b0), (2, .int v2)] → W p l e (headSpec wsL_deal ({ frames := 1, cells := 1, slots := 18, locals := 21 })).room s m [.ref b0, .ref b1, .int v2].toArray below meth c H locs 1 18 (MQ below (QNV (dC, dI) (fun w9 : va_W => ∃ q9 : Nat, w9 = [(b0, .inl (ck 0, 19, .inl o0))] ++ [(q9, .inl (ck 0, 18, .inl o1))]) A) [.ref b0, .ref b1, .int v2].toArray s 1 18 A) (F0 m 144 ls []) := by
                      intro n144
                      induction n144 with
                      | zero => intro v4_L144 v5_L144 p0_row_L144 h; exact lo3_z h
                      | succ n144 ih144 =>
                        intro v4_L144 v5_L144 p0_row_L144 h H locs hP hD hS ls hl
                        have h := lo3_s h
                        unfold f_L_deal_L144 at h
                        refine lv_iload hx hb dL_deal_144 (lv_at hl 0 rfl) ?_
                        refine lv_bipush (v := (18 : Int32)) hx hb dL_deal_146 rfl ?_
                        refine lv_icmp_ge (tgt := 179) hx hb dL_deal_148 (by decide) (fun c_148 => ?_) (fun c_148 => ?_)
                        · have h := if_t h c_148
                          refine lv_aload_n hx hb dL_deal_179 rfl (lv_at hl 3 rfl) ?_
                          refine lv_bipush (v := (18 : Int32)) hx hb dL_deal_180 rfl ?_
                          refine lv_iload_n hx hb dL_deal_182 rfl (lv_at hl 4 rfl) ?_
                          obtain ⟨g_183, h⟩ := gd_e h
                          refine va_iast hx hb hK.1 hP hD hS 0 0 rfl rfl g_183 dL_deal_183 (fun H locs hP hD hS => ?_)
                          obtain ⟨p0_row_183, e_183⟩ : ∃ y : Nat → Int32, y = (upd p0_row_L144 (18 : Int32).toNatClampNeg v2) := ⟨_, rfl⟩
                          have h := lt'_e e_183 h
                          have hP : va_P (dC, dI) vwCl ([(b0, .inl (ck 0, 19, .inl p0_row_183))] ++ [(q9, .inl (ck 0, 18, .inl n_row_L36))]) H := by subst e_183; exact hP
                          have hD : va_D A ([(b0, .inl (ck 0, 19, .inl p0_row_183))] ++ [(q9, .inl (ck 0, 18, .inl n_row_L36))]) := by subst e_183; exact hD
                          cases h
                          exact eNX hx hb hr hlk hP hD hS ⟨q9, rfl⟩ dL_deal_184
                        · have h := if_f h c_148
                          refine lv_aload_n hx hb dL_deal_151 rfl (lv_at hl 3 rfl) ?_
                          refine lv_aload_n hx hb dL_deal_152 rfl (lv_at hl 2 rfl) ?_
                          refine lv_iload hx hb dL_deal_153 (lv_at hl 0 rfl) ?_
                          obtain ⟨g_155, h⟩ := gd_e h
                          refine va_iald hx hb hK.1 hP 1 0 rfl rfl g_155 dL_deal_155 ?_
                          obtain ⟨g_156, h⟩ := gd_e h
                          refine va_iald hx hb hK.1 hP 0 0 rfl rfl g_156 dL_deal_156 ?_
                          refine lv_if_ge (tgt := 173) hx hb dL_deal_157 (by decide) (fun c_157 => ?_) (fun c_157 => ?_)
                          · have h := if_t h c_157
                            refine lv_iinc (v := (v5_L144 + (1 : Int32))) (lv' := [(5, .int (v5_L144 + (1 : Int32))), (4, .int v4_L144), (3, .ref q9), (0, .ref b0), (2, .int v2)]) hx hb dL_deal_173 hl (k := 0) rfl rfl (by decide) rfl (fun ls hl => ?_)
                            refine lv_goto (tgt := 144) hx hb dL_deal_176 (by decide) ?_
                            exact ih144 _ _ _ h _ _ hP hD hS _ (lv_sub hl [0, 1, 2, 3, 4] rfl)
                          · have h := if_f h c_157
                            refine lv_aload_n hx hb dL_deal_160 rfl (lv_at hl 3 rfl) ?_
                            refine lv_aload_n hx hb dL_deal_161 rfl (lv_at hl 2 rfl) ?_
                            refine lv_iload hx hb dL_deal_162 (lv_at hl 0 rfl) ?_
                            obtain ⟨g_164, h⟩ := gd_e h
                            refine va_iald hx hb hK.1 hP 1 0 rfl rfl g_164 dL_deal_164 ?_
                            refine lv_iload hx hb dL_deal_165 (lv_at hl 1 rfl) ?_
                            refine lv_iload_n hx hb dL_deal_167 rfl (lv_at hl 4 rfl) ?_
                            obtain ⟨z_168, h⟩ := nz_e h
                            refine lv_irem hx hb dL_deal_168 z_168 ?_
                            obtain ⟨g_169, h⟩ := gd_e h
                            refine va_iast hx hb hK.1 hP hD hS 0 0 rfl rfl g_169 dL_deal_169 (fun H locs hP hD hS => ?_)
                            obtain ⟨p0_row_169, e_169⟩ : ∃ y : Nat → Int32, y = (upd p0_row_L144 (n_row_L36 v5_L144.toNatClampNeg).toNatClampNeg (v4_L144 - v4_L144 / v2 * v2)) := ⟨_, rfl⟩
                            have h := lt'_e e_169 h
                            have hP : va_P (dC, dI) vwCl ([(b0, .inl (ck 0, 19, .inl p0_row_169))] ++ [(q9, .inl (ck 0, 18, .inl n_row_L36))]) H := by subst e_169; exact hP
                            have hD : va_D A ([(b0, .inl (ck 0, 19, .inl p0_row_169))] ++ [(q9, .inl (ck 0, 18, .inl n_row_L36))]) := by subst e_169; exact hD
                            obtain ⟨v4_170, e_170⟩ : ∃ y : Int32, y = (v4_L144 + (1 : Int32)) := ⟨_, rfl⟩
                            have h := lt'_e e_170 h
                            refine lv_iinc (v := v4_170) (lv' := [(4, .int v4_170), (5, .int v5_L144), (3, .ref q9), (0, .ref b0), (2, .int v2)]) hx hb dL_deal_170 hl (k := 1) rfl (by rw [e_170]; rfl) (by decide) rfl (fun ls hl => ?_)
                            refine lv_iinc (v := (v5_L144 + (1 : Int32))) (lv' := [(5, .int (v5_L144 + (1 : Int32))), (4, .int v4_170), (3, .ref q9), (0, .ref b0), (2, .int v2)]) hx hb dL_deal_173 hl (k := 1) rfl rfl (by decide) rfl (fun ls hl => ?_)
                            refine lv_goto (tgt := 144) hx hb dL_deal_176 (by decide) ?_
                            exact ih144 _ _ _ h _ _ hP hD hS _ (lv_sub hl [0, 1, 2, 3, 4] rfl)
                    exact hL144 _ _ _ _ h _ _ hP hD hS _ (lv_sub hl [0, 1, 2, 3, 5] rfl)
                  · have h := if_f h c_104
                    refine lv_aload_n hx hb dL_deal_107 rfl (lv_at hl 2 rfl) ?_
                    refine lv_bipush (v := (6 : Int32)) hx hb dL_deal_108 rfl ?_
                    refine lv_iload hx hb dL_deal_110 (lv_at hl 0 rfl) ?_
                    refine lv_imul hx hb dL_deal_112 ?_
                    refine lv_aload_n hx hb dL_deal_113 rfl (lv_at hl 3 rfl) ?_
                    refine lv_bipush (v := (10 : Int32)) hx hb dL_deal_114 rfl ?_
                    obtain ⟨r_116, q_116, h⟩ := ob1_e h
                    refine cRSX (L := p1_len) (xs := p1_row) ⟨hx, hb, hml, hown, hts⟩ hK hX hbl hbA hS (c_L_cell l dC dI ck b1 p1_len p1_row (10 : Int32) r_116 q_116) (va_cwS 2 hts gL_deal_L_cell rfl rfl rfl (by decide +kernel) ⟨Nat.le_of_ble_eq_true rfl, Nat.le_of_ble_eq_true rfl⟩) rfl hl.1 rfl (Nat.le_of_ble_eq_true rfl) dL_deal_116 ⟨Nat.le_of_ble_eq_true rfl, Nat.le_of_ble_eq_true rfl⟩ ?_
                    refine lv_iconst (v := (4 : Int32)) hx hb dL_deal_119 rfl ?_
                    refine lv_iload hx hb dL_deal_120 (lv_at hl 0 rfl) ?_
                    refine lv_imul hx hb dL_deal_122 ?_
                    refine lv_ishr hx hb dL_deal_123 ?_
                    refine lv_bipush (v := (6 : Int32)) hx hb dL_deal_124 rfl ?_
                    obtain ⟨r_126, q_126, h⟩ := ob1_e h
                    refine cRS (wc := []) ⟨hx, hb, hml, hown, hts⟩ hK hP [] rfl (c_L_low l dC dI ck (r_116 >>> (((4 : Int32) * v4_L101) &&& 31)) (6 : Int32) r_126 q_126) (va_cwS 2 hts gL_deal_L_low rfl rfl rfl (by decide +kernel) ⟨Nat.le_of_ble_eq_true rfl, Nat.le_of_ble_eq_true rfl⟩) rfl hl.1 rfl (Nat.le_of_ble_eq_true rfl) dL_deal_126 ⟨Nat.le_of_ble_eq_true rfl, Nat.le_of_ble_eq_true rfl⟩ ?_
                    refine lv_iadd hx hb dL_deal_129 ?_
                    refine lv_iconst (v := (5 : Int32)) hx hb dL_deal_130 rfl ?_
                    obtain ⟨g_131, h⟩ := gd_e h
                    refine va_iast hx hb hK.1 hP hD hS 0 0 rfl rfl g_131 dL_deal_131 (fun H locs hP hD hS => ?_)
                    obtain ⟨p0_row_131, e_131⟩ : ∃ y : Nat → Int32, y = (upd p0_row_L101 (((6 : Int32) * v4_L101) + r_126).toNatClampNeg (5 : Int32)) := ⟨_, rfl⟩
                    have h := lt'_e e_131 h
                    have hP : va_P (dC, dI) vwCl ([(b0, .inl (ck 0, 19, .inl p0_row_131))] ++ [(q9, .inl (ck 0, 18, .inl n_row_L36))]) H := by subst e_131; exact hP
                    have hD : va_D A ([(b0, .inl (ck 0, 19, .inl p0_row_131))] ++ [(q9, .inl (ck 0, 18, .inl n_row_L36))]) := by subst e_131; exact hD
                    refine lv_iinc (v := (v4_L101 + (1 : Int32))) (lv' := [(4, .int (v4_L101 + (1 : Int32))), (3, .ref q9), (0, .ref b0), (1, .ref b1), (2, .int v2)]) hx hb dL_deal_132 hl (k := 0) rfl rfl (by decide) rfl (fun ls hl => ?_)
                    refine lv_goto (tgt := 101) hx hb dL_deal_135 (by decide) ?_
                    exact ih101 _ _ h _ _ hP hD hS _ (lv_sub hl [0, 1, 2, 3, 4] rfl)
              exact hL101 _ _ _ h _ _ hP hD hS _ (lv_sub hl [0, 1, 2, 3, 4] rfl)
            · have h := if_f h c_38
              refine lv_aload_n hx hb dL_deal_41 rfl (lv_at hl 3 rfl) ?_
              refine lv_iconst (v := (1 : Int32)) hx hb dL_deal_42 rfl ?_
              refine lv_iload hx hb dL_deal_43 (lv_at hl 0 rfl) ?_
              refine lv_iconst (v := (2 : Int32)) hx hb dL_deal_45 rfl ?_
              refine lv_idiv hx hb dL_deal_46 (by decide) ?_
              refine lv_iadd hx hb dL_deal_47 ?_
              obtain ⟨r_48, q_48, h⟩ := ob1_e h
              refine cRSX (L := p1_len) (xs := p1_row) ⟨hx, hb, hml, hown, hts⟩ hK hX hbl hbA hS (c_L_cell l dC dI ck b1 p1_len p1_row ((1 : Int32) + (v4_L36 / (2 : Int32))) r_48 q_48) (va_cwS 2 hts gL_deal_L_cell rfl rfl rfl (by decide +kernel) ⟨Nat.le_of_ble_eq_true rfl, Nat.le_of_ble_eq_true rfl⟩) rfl hl.1 rfl (Nat.le_of_ble_eq_true rfl) dL_deal_48 ⟨Nat.le_of_ble_eq_true rfl, Nat.le_of_ble_eq_true rfl⟩ ?_
              refine lv_bipush (v := (15 : Int32)) hx hb dL_deal_51 rfl ?_
              refine lv_iload hx hb dL_deal_53 (lv_at hl 0 rfl) ?_
              refine lv_iconst (v := (2 : Int32)) hx hb dL_deal_55 rfl ?_
              refine lv_irem hx hb dL_deal_56 (by decide) ?_
              refine lv_imul hx hb dL_deal_57 ?_
              refine lv_ishr hx hb dL_deal_58 ?_
              refine lv_topi (fun v5_59 e_59 => ?_)
              have h := lt'_e e_59 h
              refine lv_istore (lv' := [(5, .int v5_59), (4, .int v4_L36), (3, .ref q9), (0, .ref b0), (1, .ref b1), (2, .int v2)]) hx hb dL_deal_59 hl (by decide) rfl (fun ls hl => ?_)
              refine lv_iload hx hb dL_deal_61 (lv_at hl 0 rfl) ?_
              refine lv_iload hx hb dL_deal_63 (lv_at hl 1 rfl) ?_
              refine lv_iconst (v := (1 : Int32)) hx hb dL_deal_65 rfl ?_
              refine lv_iadd hx hb dL_deal_66 ?_
              obtain ⟨r_67, q_67, h⟩ := ob1_e h
              refine cRS (wc := []) ⟨hx, hb, hml, hown, hts⟩ hK hP [] rfl (c_L_low l dC dI ck v5_59 (v4_L36 + (1 : Int32)) r_67 q_67) (va_cwS 2 hts gL_deal_L_low rfl rfl rfl (by decide +kernel) ⟨Nat.le_of_ble_eq_true rfl, Nat.le_of_ble_eq_true rfl⟩) rfl hl.1 rfl (Nat.le_of_ble_eq_true rfl) dL_deal_67 ⟨Nat.le_of_ble_eq_true rfl, Nat.le_of_ble_eq_true rfl⟩ ?_
              refine lv_istore (lv' := [(6, .int r_67), (5, .int v5_59), (4, .int v4_L36), (3, .ref q9), (0, .ref b0), (1, .ref b1), (2, .int v2)]) hx hb dL_deal_70 hl (by decide) rfl (fun ls hl => ?_)
              refine lv_aload_n hx hb dL_deal_72 rfl (lv_at hl 3 rfl) ?_
              refine lv_iload hx hb dL_deal_73 (lv_at hl 2 rfl) ?_
              obtain ⟨g_75, h⟩ := gd_e h
              refine va_iald hx hb hK.1 hP 1 0 rfl rfl g_75 dL_deal_75 ?_
              refine lv_topi (fun v7_76 e_76 => ?_)
              have h := lt'_e e_76 h
              refine lv_istore (lv' := [(7, .int v7_76), (6, .int r_67), (5, .int v5_59), (4, .int v4_L36), (3, .ref q9), (0, .ref b0), (1, .ref b1), (2, .int v2)]) hx hb dL_deal_76 hl (by decide) rfl (fun ls hl => ?_)
              refine lv_aload_n hx hb dL_deal_78 rfl (lv_at hl 4 rfl) ?_
              refine lv_iload hx hb dL_deal_79 (lv_at hl 3 rfl) ?_
              refine lv_aload_n hx hb dL_deal_81 rfl (lv_at hl 4 rfl) ?_
              refine lv_iload hx hb dL_deal_82 (lv_at hl 1 rfl) ?_
              obtain ⟨g_84, h⟩ := gd_e h
              refine va_iald hx hb hK.1 hP 1 0 rfl rfl g_84 dL_deal_84 ?_
              obtain ⟨g_85, h⟩ := gd_e h
              refine va_iast hx hb hK.1 hP hD hS 1 0 rfl rfl g_85 dL_deal_85 (fun H locs hP hD hS => ?_)
              obtain ⟨n_row_85, e_85⟩ : ∃ y : Nat → Int32, y = (upd n_row_L36 v4_L36.toNatClampNeg (n_row_L36 r_67.toNatClampNeg)) := ⟨_, rfl⟩
              have h := lt'_e e_85 h
              have hP : va_P (dC, dI) vwCl ([(b0, .inl (ck 0, 19, .inl p0_row_L8))] ++ [(q9, .inl (ck 0, 18, .inl n_row_85))]) H := by subst e_85; exact hP
              have hD : va_D A ([(b0, .inl (ck 0, 19, .inl p0_row_L8))] ++ [(q9, .inl (ck 0, 18, .inl n_row_85))]) := by subst e_85; exact hD
              refine lv_aload_n hx hb dL_deal_86 rfl (lv_at hl 4 rfl) ?_
              refine lv_iload hx hb dL_deal_87 (lv_at hl 1 rfl) ?_
              refine lv_iload hx hb dL_deal_89 (lv_at hl 0 rfl) ?_
              obtain ⟨g_91, h⟩ := gd_e h
              refine va_iast hx hb hK.1 hP hD hS 1 0 rfl rfl g_91 dL_deal_91 (fun H locs hP hD hS => ?_)
              obtain ⟨n_row_91, e_91⟩ : ∃ y : Nat → Int32, y = (upd n_row_85 r_67.toNatClampNeg v7_76) := ⟨_, rfl⟩
              have h := lt'_e e_91 h
              have hP : va_P (dC, dI) vwCl ([(b0, .inl (ck 0, 19, .inl p0_row_L8))] ++ [(q9, .inl (ck 0, 18, .inl n_row_91))]) H := by subst e_91; exact hP
              have hD : va_D A ([(b0, .inl (ck 0, 19, .inl p0_row_L8))] ++ [(q9, .inl (ck 0, 18, .inl n_row_91))]) := by subst e_91; exact hD
              refine lv_iinc (v := (v4_L36 + (-1 : Int32))) (lv' := [(4, .int (v4_L36 + (-1 : Int32))), (7, .int v7_76), (6, .int r_67), (5, .int v5_59), (3, .ref q9), (0, .ref b0), (1, .ref b1), (2, .int v2)]) hx hb dL_deal_92 hl (k := 3) rfl rfl (by decide) rfl (fun ls hl => ?_)
              refine lv_goto (tgt := 36) hx hb dL_deal_95 (by decide) ?_
              exact ih36 _ _ h _ _ hP hD hS _ (lv_sub hl [0, 4, 5, 6, 7] rfl)
        exact hL36 _ _ _ h _ _ hP hD hS _ (lv_sub hl [0, 1, 2, 3, 4] rfl)
      · have h := if_f h c_12
        refine lv_aload_n hx hb dL_deal_15 rfl (lv_at hl 1 rfl) ?_
        refine lv_iload hx hb dL_deal_16 (lv_at hl 0 rfl) ?_
        refine lv_iload hx hb dL_deal_18 (lv_at hl 0 rfl) ?_
        obtain ⟨g_20, h⟩ := gd_e h
        refine va_iast hx hb hK.1 hP hD hS 1 0 rfl rfl g_20 dL_deal_20 (fun H locs hP hD hS => ?_)
        obtain ⟨n_row_20, e_20⟩ : ∃ y : Nat → Int32, y = (upd n_row_L8 v4_L8.toNatClampNeg v4_L8) := ⟨_, rfl⟩
        have h := lt'_e e_20 h
        have hP : va_P (dC, dI) vwCl ([(b0, .inl (ck 0, 19, .inl p0_row_L8))] ++ [(q9, .inl (ck 0, 18, .inl n_row_20))]) H := by subst e_20; exact hP
        have hD : va_D A ([(b0, .inl (ck 0, 19, .inl p0_row_L8))] ++ [(q9, .inl (ck 0, 18, .inl n_row_20))]) := by subst e_20; exact hD
        refine lv_aload_n hx hb dL_deal_21 rfl (lv_at hl 2 rfl) ?_
        refine lv_iload hx hb dL_deal_22 (lv_at hl 0 rfl) ?_
        refine lv_iconst (v := (-1 : Int32)) hx hb dL_deal_24 rfl ?_
        obtain ⟨g_25, h⟩ := gd_e h
        refine va_iast hx hb hK.1 hP hD hS 0 0 rfl rfl g_25 dL_deal_25 (fun H locs hP hD hS => ?_)
        obtain ⟨p0_row_25, e_25⟩ : ∃ y : Nat → Int32, y = (upd p0_row_L8 v4_L8.toNatClampNeg (-1 : Int32)) := ⟨_, rfl⟩
        have h := lt'_e e_25 h
        have hP : va_P (dC, dI) vwCl ([(b0, .inl (ck 0, 19, .inl p0_row_25))] ++ [(q9, .inl (ck 0, 18, .inl n_row_20))]) H := by subst e_25; exact hP
        have hD : va_D A ([(b0, .inl (ck 0, 19, .inl p0_row_25))] ++ [(q9, .inl (ck 0, 18, .inl n_row_20))]) := by subst e_25; exact hD
        refine lv_iinc (v := (v4_L8 + (1 : Int32))) (lv' := [(4, .int (v4_L8 + (1 : Int32))), (3, .ref q9), (0, .ref b0), (1, .ref b1), (2, .int v2)]) hx hb dL_deal_26 hl (k := 0) rfl rfl (by decide) rfl (fun ls hl => ?_)
        refine lv_goto (tgt := 8) hx hb dL_deal_29 (by decide) ?_
        exact ih8 _ _ _ h _ _ hP hD hS _ (lv_sub hl [0, 1, 2, 3, 4] rfl)
  exact hL8 _ _ _ _ h _ _ hP hD hS _ (lv_sub hl [0, 1, 2, 3, 4] rfl)
noncomputable def f_L_isOwner (p0_row : Nat → Int32) (v1 : Int32) : Option (Int32) :=
  if v1 = (5 : Int32) then (some (1 : Int32)) else (gd (18 : Int32) 19 (if (p0_row (18 : Int32).toNatClampNeg) ≤ v1 then (some (0 : Int32)) else (some (1 : Int32))))
set_option maxHeartbeats 4000000 in
set_option maxRecDepth 100000 in
theorem c_L_isOwner (l : Launch) (dC : Nat → ClassId) (dI : Nat → Nat → Nat) (ck : Nat → ClassId) (b0 : Nat) (p0_row : Nat → Int32) (v1 : Int32) (o0 : Int32) (h : f_L_isOwner p0_row v1 = some o0) : RD l yL_isOwner wsL_isOwner ({ frames := 0, cells := 0, slots := 0, locals := 0 }) [.ref b0, .int v1] (dC, dI) ck ([(b0, .inl (ck 0, 19, .inl p0_row))]) o0 := by
  refine RD.ofW (cc := cL_isOwner) (maxL := 2) (ret := (some .boolean)) (by decide +kernel) rfl (Nat.le_of_ble_eq_true rfl) ?_
  intro p e s m below meth c hx hb hr hml hts hown hlk hK hP ls hl
  have hown : s.vm.findClass RL = some m.cls := hown
  have hl : lv_has ls 2 [(0, .ref b0), (1, .int v1)] := hl
  unfold f_L_isOwner at h
  refine lv_iload_n hx hb dL_isOwner_0 rfl (lv_at hl 1 rfl) ?_
  refine lv_iconst (v := (5 : Int32)) hx hb dL_isOwner_1 rfl ?_
  refine lv_icmp_eq (tgt := 13) hx hb dL_isOwner_2 (by decide) (fun c_2 => ?_) (fun c_2 => ?_)
  · have h := if_t h c_2
    refine lv_iconst (v := (1 : Int32)) hx hb dL_isOwner_13 rfl ?_
    refine lv_goto (tgt := 18) hx hb dL_isOwner_14 (by decide) ?_
    cases h
    exact eRz hx hb hr hlk rfl rfl dL_isOwner_18
  · have h := if_f h c_2
    refine lv_iload_n hx hb dL_isOwner_5 rfl (lv_at hl 1 rfl) ?_
    refine lv_aload_n hx hb dL_isOwner_6 rfl (lv_at hl 0 rfl) ?_
    refine lv_bipush (v := (18 : Int32)) hx hb dL_isOwner_7 rfl ?_
    obtain ⟨g_9, h⟩ := gd_e h
    refine va_iald hx hb hK.1 hP 0 0 rfl rfl g_9 dL_isOwner_9 ?_
    refine lv_icmp_ge (tgt := 17) hx hb dL_isOwner_10 (by decide) (fun c_10 => ?_) (fun c_10 => ?_)
    · have h := if_t h c_10
      refine lv_iconst (v := (0 : Int32)) hx hb dL_isOwner_17 rfl ?_
      cases h
      exact eRz hx hb hr hlk rfl rfl dL_isOwner_18
    · have h := if_f h c_10
      refine lv_iconst (v := (1 : Int32)) hx hb dL_isOwner_13 rfl ?_
      refine lv_goto (tgt := 18) hx hb dL_isOwner_14 (by decide) ?_
      cases h
      exact eRz hx hb hr hlk rfl rfl dL_isOwner_18
noncomputable def f_L_held_L4 (p0_row : Nat → Int32) (v1 : Int32) (rec4 : Int32 → Int32 → Option (Int32)) (v2_L4 : Int32) (v3_L4 : Int32) : Option (Int32) :=
  if (18 : Int32) ≤ v3_L4 then (some v2_L4) else (gd v3_L4 19 (if (p0_row v3_L4.toNatClampNeg) = v1 then (lt' (v2_L4 ||| ((1 : Int32) <<< (v3_L4 &&& 31))) (fun v2_26 : Int32 => rec4 v2_26 (v3_L4 + (1 : Int32)))) else (lt' (v2_L4 ||| (0 : Int32)) (fun v2_26 : Int32 => rec4 v2_26 (v3_L4 + (1 : Int32))))))
noncomputable def f_L_held (p0_row : Nat → Int32) (v1 : Int32) : Option (Int32) :=
  lo2 (f_L_held_L4 p0_row v1) FU (0 : Int32) (0 : Int32)
set_option maxHeartbeats 4000000 in
set_option maxRecDepth 100000 in
theorem c_L_held (l : Launch) (dC : Nat → ClassId) (dI : Nat → Nat → Nat) (ck : Nat → ClassId) (b0 : Nat) (p0_row : Nat → Int32) (v1 : Int32) (o0 : Int32) (h : f_L_held p0_row v1 = some o0) : RD l yL_held wsL_held ({ frames := 0, cells := 0, slots := 0, locals := 0 }) [.ref b0, .int v1] (dC, dI) ck ([(b0, .inl (ck 0, 19, .inl p0_row))]) o0 := by
  refine RD.ofW (cc := cL_held) (maxL := 4) (ret := (some .int)) (by decide +kernel) rfl (Nat.le_of_ble_eq_true rfl) ?_
  intro p e s m below meth c hx hb hr hml hts hown hlk hK hP ls hl
  have hown : s.vm.findClass RL = some m.cls := hown
  have hl : lv_has ls 4 [(0, .ref b0), (1, .int v1)] := hl
  unfold f_L_held at h
  refine lv_iconst (v := (0 : Int32)) hx hb dL_held_0 rfl ?_
  refine lv_istore_n (lv' := [(2, .int (0 : Int32)), (0, .ref b0), (1, .int v1)]) hx hb dL_held_1 rfl hl (by decide) rfl (fun ls hl => ?_)
  refine lv_iconst (v := (0 : Int32)) hx hb dL_held_2 rfl ?_
  refine lv_istore_n (lv' := [(3, .int (0 : Int32)), (2, .int (0 : Int32)), (0, .ref b0), (1, .int v1)]) hx hb dL_held_3 rfl hl (by decide) rfl (fun ls hl => ?_)
  have hL4 : ∀ (n4 : Nat) (v2_L4 : Int32) (v3_L4 : Int32), lo2 (f_L_held_L4 p0_row v1) n4 v2_L4 v3_L4 = some o0 → ∀ ls : Array Slot, lv_has ls 4 [(3, .int v3_L4), (2, .int v2_L4), (0, .ref b0), (1, .int v1)] → W p l e (headSpec wsL_held ({ frames := 0, cells := 0, slots := 0, locals := 0 })).room s m [.ref b0, .int v1].toArray below meth c s.heap [] 0 0 (MQ below (QcRead o0) [.ref b0, .int v1].toArray s 0 0 (fun _ => False)) (F0 m 4 ls []) := by
    intro n4
    induction n4 with
    | zero => intro v2_L4 v3_L4 h; exact lo2_z h
    | succ n4 ih4 =>
      intro v2_L4 v3_L4 h ls hl
      have h := lo2_s h
      unfold f_L_held_L4 at h
      refine lv_iload_n hx hb dL_held_4 rfl (lv_at hl 0 rfl) ?_
      refine lv_bipush (v := (18 : Int32)) hx hb dL_held_5 rfl ?_
      refine lv_icmp_ge (tgt := 33) hx hb dL_held_7 (by decide) (fun c_7 => ?_) (fun c_7 => ?_)
      · have h := if_t h c_7
        refine lv_iload_n hx hb dL_held_33 rfl (lv_at hl 1 rfl) ?_
        cases h
        exact eRi hx hb hr hlk rfl dL_held_34
      · have h := if_f h c_7
        refine lv_iload_n hx hb dL_held_10 rfl (lv_at hl 1 rfl) ?_
        refine lv_aload_n hx hb dL_held_11 rfl (lv_at hl 2 rfl) ?_
        refine lv_iload_n hx hb dL_held_12 rfl (lv_at hl 0 rfl) ?_
        obtain ⟨g_13, h⟩ := gd_e h
        refine va_iald hx hb hK.1 hP 0 0 rfl rfl g_13 dL_held_13 ?_
        refine lv_iload_n hx hb dL_held_14 rfl (lv_at hl 3 rfl) ?_
        refine lv_icmp_ne (tgt := 24) hx hb dL_held_15 (by decide) (fun c_15 => ?_) (fun c_15 => ?_)
        · have h := if_f h c_15
          refine lv_iconst (v := (0 : Int32)) hx hb dL_held_24 rfl ?_
          refine lv_ior hx hb dL_held_25 ?_
          refine lv_topi (fun v2_26 e_26 => ?_)
          have h := lt'_e e_26 h
          refine lv_istore_n (lv' := [(2, .int v2_26), (3, .int v3_L4), (0, .ref b0), (1, .int v1)]) hx hb dL_held_26 rfl hl (by decide) rfl (fun ls hl => ?_)
          refine lv_iinc (v := (v3_L4 + (1 : Int32))) (lv' := [(3, .int (v3_L4 + (1 : Int32))), (2, .int v2_26), (0, .ref b0), (1, .int v1)]) hx hb dL_held_27 hl (k := 1) rfl rfl (by decide) rfl (fun ls hl => ?_)
          refine lv_goto (tgt := 4) hx hb dL_held_30 (by decide) ?_
          exact ih4 _ _ h _ (lv_sub hl [0, 1, 2, 3] rfl)
        · have h := if_t h c_15
          refine lv_iconst (v := (1 : Int32)) hx hb dL_held_18 rfl ?_
          refine lv_iload_n hx hb dL_held_19 rfl (lv_at hl 0 rfl) ?_
          refine lv_ishl hx hb dL_held_20 ?_
          refine lv_goto (tgt := 25) hx hb dL_held_21 (by decide) ?_
          refine lv_ior hx hb dL_held_25 ?_
          refine lv_topi (fun v2_26 e_26 => ?_)
          have h := lt'_e e_26 h
          refine lv_istore_n (lv' := [(2, .int v2_26), (3, .int v3_L4), (0, .ref b0), (1, .int v1)]) hx hb dL_held_26 rfl hl (by decide) rfl (fun ls hl => ?_)
          refine lv_iinc (v := (v3_L4 + (1 : Int32))) (lv' := [(3, .int (v3_L4 + (1 : Int32))), (2, .int v2_26), (0, .ref b0), (1, .int v1)]) hx hb dL_held_27 hl (k := 1) rfl rfl (by decide) rfl (fun ls hl => ?_)
          refine lv_goto (tgt := 4) hx hb dL_held_30 (by decide) ?_
          exact ih4 _ _ h _ (lv_sub hl [0, 1, 2, 3] rfl)
  exact hL4 _ _ _ h _ (lv_sub hl [0, 1, 2, 3] rfl)
noncomputable def f_L_size_L4 (v0 : Int32) (rec4 : Int32 → Int32 → Option (Int32)) (v1_L4 : Int32) (v2_L4 : Int32) : Option (Int32) :=
  if (18 : Int32) ≤ v2_L4 then (some v1_L4) else (lt' (v1_L4 + ((v0 >>> (v2_L4 &&& 31)) &&& (1 : Int32))) (fun v1_17 : Int32 => rec4 v1_17 (v2_L4 + (1 : Int32))))
noncomputable def f_L_size (v0 : Int32) : Option (Int32) :=
  lo2 (f_L_size_L4 v0) FU (0 : Int32) (0 : Int32)
set_option maxHeartbeats 4000000 in
set_option maxRecDepth 100000 in
theorem c_L_size (l : Launch) (dC : Nat → ClassId) (dI : Nat → Nat → Nat) (ck : Nat → ClassId) (v0 : Int32) (o0 : Int32) (h : f_L_size v0 = some o0) : RD l yL_size wsL_size ({ frames := 0, cells := 0, slots := 0, locals := 0 }) [.int v0] (dC, dI) ck ([]) o0 := by
  refine RD.ofW (cc := cL_size) (maxL := 3) (ret := (some .int)) (by decide +kernel) rfl (Nat.le_of_ble_eq_true rfl) ?_
  intro p e s m below meth c hx hb hr hml hts hown hlk hK hP ls hl
  have hown : s.vm.findClass RL = some m.cls := hown
  have hl : lv_has ls 3 [(0, .int v0)] := hl
  unfold f_L_size at h
  refine lv_iconst (v := (0 : Int32)) hx hb dL_size_0 rfl ?_
  refine lv_istore_n (lv' := [(1, .int (0 : Int32)), (0, .int v0)]) hx hb dL_size_1 rfl hl (by decide) rfl (fun ls hl => ?_)
  refine lv_iconst (v := (0 : Int32)) hx hb dL_size_2 rfl ?_
  refine lv_istore_n (lv' := [(2, .int (0 : Int32)), (1, .int (0 : Int32)), (0, .int v0)]) hx hb dL_size_3 rfl hl (by decide) rfl (fun ls hl => ?_)
  have hL4 : ∀ (n4 : Nat) (v1_L4 : Int32) (v2_L4 : Int32), lo2 (f_L_size_L4 v0) n4 v1_L4 v2_L4 = some o0 → ∀ ls : Array Slot, lv_has ls 3 [(2, .int v2_L4), (1, .int v1_L4), (0, .int v0)] → W p l e (headSpec wsL_size ({ frames := 0, cells := 0, slots := 0, locals := 0 })).room s m [.int v0].toArray below meth c s.heap [] 0 0 (MQ below (QcRead o0) [.int v0].toArray s 0 0 (fun _ => False)) (F0 m 4 ls []) := by
    intro n4
    induction n4 with
    | zero => intro v1_L4 v2_L4 h; exact lo2_z h
    | succ n4 ih4 =>
      intro v1_L4 v2_L4 h ls hl
      have h := lo2_s h
      unfold f_L_size_L4 at h
      refine lv_iload_n hx hb dL_size_4 rfl (lv_at hl 0 rfl) ?_
      refine lv_bipush (v := (18 : Int32)) hx hb dL_size_5 rfl ?_
      refine lv_icmp_ge (tgt := 24) hx hb dL_size_7 (by decide) (fun c_7 => ?_) (fun c_7 => ?_)
      · have h := if_t h c_7
        refine lv_iload_n hx hb dL_size_24 rfl (lv_at hl 1 rfl) ?_
        cases h
        exact eRi hx hb hr hlk rfl dL_size_25
      · have h := if_f h c_7
        refine lv_iload_n hx hb dL_size_10 rfl (lv_at hl 1 rfl) ?_
        refine lv_iload_n hx hb dL_size_11 rfl (lv_at hl 2 rfl) ?_
        refine lv_iload_n hx hb dL_size_12 rfl (lv_at hl 0 rfl) ?_
        refine lv_ishr hx hb dL_size_13 ?_
        refine lv_iconst (v := (1 : Int32)) hx hb dL_size_14 rfl ?_
        refine lv_iand hx hb dL_size_15 ?_
        refine lv_iadd hx hb dL_size_16 ?_
        refine lv_topi (fun v1_17 e_17 => ?_)
        have h := lt'_e e_17 h
        refine lv_istore_n (lv' := [(1, .int v1_17), (2, .int v2_L4), (0, .int v0)]) hx hb dL_size_17 rfl hl (by decide) rfl (fun ls hl => ?_)
        refine lv_iinc (v := (v2_L4 + (1 : Int32))) (lv' := [(2, .int (v2_L4 + (1 : Int32))), (1, .int v1_17), (0, .int v0)]) hx hb dL_size_18 hl (k := 1) rfl rfl (by decide) rfl (fun ls hl => ?_)
        refine lv_goto (tgt := 4) hx hb dL_size_21 (by decide) ?_
        exact ih4 _ _ h _ (lv_sub hl [0, 1, 2] rfl)
  exact hL4 _ _ _ h _ (lv_sub hl [0, 1, 2] rfl)
noncomputable def f_L_isTrue_J242 (p0_f_players : Int32) (p0_f_told : Int32) (p0_f_kinds : Nat → Int32) (p0_f_owners : Nat → Int32) (p0_f_cards : Nat → Int32) (p0_m_y_sets : Nat → Int32) (p0_m_n_sets : Nat → Int32) (p0_m_rounds : Int32) (p0_h_len : Int32) (p0_p_length : Int32) (rec154 : Int32 → Int32 → Option (Int32)) (v5_L154 : Int32) (v6_L154 : Int32) (r_164 : Int32) (r_173 : Int32) (t0_J242 : Int32) (t1_J242 : Int32) : Option (Int32) :=
  if t0_J242 = t1_J242 then (if r_173 < (0 : Int32) then (lt' (v5_L154 + (0 : Int32)) (fun v5_277 : Int32 => rec154 v5_277 (v6_L154 + (1 : Int32)))) else (lt' (v5_L154 + (1 : Int32)) (fun v5_277 : Int32 => rec154 v5_277 (v6_L154 + (1 : Int32))))) else (ob1 (f_L_size r_164) (fun (r_247 : Int32) => if r_247 = (1 : Int32) then (ob1 (f_X5_count p0_f_players p0_f_told p0_f_kinds p0_f_owners p0_f_cards p0_m_y_sets p0_m_n_sets p0_m_rounds p0_h_len p0_p_length (5 : Int32)) (fun (r_256 : Int32) => if r_256 ≤ (0 : Int32) then (if r_173 < (0 : Int32) then (lt' (v5_L154 + (0 : Int32)) (fun v5_277 : Int32 => rec154 v5_277 (v6_L154 + (1 : Int32)))) else (lt' (v5_L154 + (1 : Int32)) (fun v5_277 : Int32 => rec154 v5_277 (v6_L154 + (1 : Int32))))) else (some (0 : Int32)))) else (if r_173 < (0 : Int32) then (lt' (v5_L154 + (0 : Int32)) (fun v5_277 : Int32 => rec154 v5_277 (v6_L154 + (1 : Int32)))) else (lt' (v5_L154 + (1 : Int32)) (fun v5_277 : Int32 => rec154 v5_277 (v6_L154 + (1 : Int32)))))))
noncomputable def f_L_isTrue_J232 (p0_f_players : Int32) (p0_f_told : Int32) (p0_f_kinds : Nat → Int32) (p0_f_owners : Nat → Int32) (p0_f_cards : Nat → Int32) (p0_m_y_sets : Nat → Int32) (p0_m_n_sets : Nat → Int32) (p0_m_rounds : Int32) (p0_h_len : Int32) (p0_p_length : Int32) (rec154 : Int32 → Int32 → Option (Int32)) (v5_L154 : Int32) (v6_L154 : Int32) (r_164 : Int32) (r_173 : Int32) (t0_J232 : Int32) : Option (Int32) :=
  if r_173 < (0 : Int32) then (f_L_isTrue_J242 p0_f_players p0_f_told p0_f_kinds p0_f_owners p0_f_cards p0_m_y_sets p0_m_n_sets p0_m_rounds p0_h_len p0_p_length rec154 v5_L154 v6_L154 r_164 r_173 t0_J232 (0 : Int32)) else (f_L_isTrue_J242 p0_f_players p0_f_told p0_f_kinds p0_f_owners p0_f_cards p0_m_y_sets p0_m_n_sets p0_m_rounds p0_h_len p0_p_length rec154 v5_L154 v6_L154 r_164 r_173 t0_J232 (1 : Int32))
noncomputable def f_L_isTrue_J218 (p0_f_players : Int32) (p0_f_told : Int32) (p0_f_kinds : Nat → Int32) (p0_f_owners : Nat → Int32) (p0_f_cards : Nat → Int32) (p0_m_y_sets : Nat → Int32) (p0_m_n_sets : Nat → Int32) (p0_m_rounds : Int32) (p0_h_len : Int32) (p0_p_length : Int32) (rec154 : Int32 → Int32 → Option (Int32)) (v5_L154 : Int32) (v6_L154 : Int32) (r_164 : Int32) (r_173 : Int32) : Option (Int32) :=
  ob1 (f_L_size r_164) (fun (r_220 : Int32) => if r_220 = (1 : Int32) then (f_L_isTrue_J232 p0_f_players p0_f_told p0_f_kinds p0_f_owners p0_f_cards p0_m_y_sets p0_m_n_sets p0_m_rounds p0_h_len p0_p_length rec154 v5_L154 v6_L154 r_164 r_173 (1 : Int32)) else (f_L_isTrue_J232 p0_f_players p0_f_told p0_f_kinds p0_f_owners p0_f_cards p0_m_y_sets p0_m_n_sets p0_m_rounds p0_h_len p0_p_length rec154 v5_L154 v6_L154 r_164 r_173 (0 : Int32)))
noncomputable def f_L_isTrue_L154 (p0_f_players : Int32) (p0_f_told : Int32) (p0_f_kinds : Nat → Int32) (p0_f_owners : Nat → Int32) (p0_f_cards : Nat → Int32) (p0_m_y_sets : Nat → Int32) (p0_m_n_sets : Nat → Int32) (p0_m_rounds : Int32) (p0_h_len : Int32) (p0_p_length : Int32) (p1_row : Nat → Int32) (v2_L10 : Int32) (v3_L10 : Int32) (v4_L10 : Int32) (rec154 : Int32 → Int32 → Option (Int32)) (v5_L154 : Int32) (v6_L154 : Int32) : Option (Int32) :=
  if (3 : Int32) ≤ v6_L154 then (ob1 (f_X5_count p0_f_players p0_f_told p0_f_kinds p0_f_owners p0_f_cards p0_m_y_sets p0_m_n_sets p0_m_rounds p0_h_len p0_p_length (2 : Int32)) (fun (r_287 : Int32) => if r_287 = v2_L10 then (ob1 (f_X5_count p0_f_players p0_f_told p0_f_kinds p0_f_owners p0_f_cards p0_m_y_sets p0_m_n_sets p0_m_rounds p0_h_len p0_p_length (3 : Int32)) (fun (r_296 : Int32) => if r_296 = v3_L10 then (ob1 (f_X5_count p0_f_players p0_f_told p0_f_kinds p0_f_owners p0_f_cards p0_m_y_sets p0_m_n_sets p0_m_rounds p0_h_len p0_p_length (4 : Int32)) (fun (r_305 : Int32) => if r_305 = v4_L10 then (ob1 (f_X5_count p0_f_players p0_f_told p0_f_kinds p0_f_owners p0_f_cards p0_m_y_sets p0_m_n_sets p0_m_rounds p0_h_len p0_p_length (6 : Int32)) (fun (r_316 : Int32) => if r_316 = (0 : Int32) then (ob1 (f_X5_count p0_f_players p0_f_told p0_f_kinds p0_f_owners p0_f_cards p0_m_y_sets p0_m_n_sets p0_m_rounds p0_h_len p0_p_length (7 : Int32)) (fun (r_325 : Int32) => if r_325 = v5_L154 then (some (1 : Int32)) else (some (0 : Int32)))) else (some (0 : Int32)))) else (some (0 : Int32)))) else (some (0 : Int32)))) else (some (0 : Int32)))) else (ob1 (f_X5_envelope p0_m_y_sets p0_m_n_sets v6_L154 (1 : Int32)) (fun (r_164 : Int32) => ob1 (f_X5_envelope p0_m_y_sets p0_m_n_sets v6_L154 (0 : Int32)) (fun (r_173 : Int32) => ob1 (f_L_held p1_row (5 : Int32)) (fun (r_180 : Int32) => lt' (r_180 &&& ((63 : Int32) <<< (((6 : Int32) * v6_L154) &&& 31))) (fun v9_192 : Int32 => if (r_164 &&& v9_192) = v9_192 then (if r_173 < (0 : Int32) then (f_L_isTrue_J218 p0_f_players p0_f_told p0_f_kinds p0_f_owners p0_f_cards p0_m_y_sets p0_m_n_sets p0_m_rounds p0_h_len p0_p_length rec154 v5_L154 v6_L154 r_164 r_173) else (if ((1 : Int32) <<< (r_173 &&& 31)) = v9_192 then (f_L_isTrue_J218 p0_f_players p0_f_told p0_f_kinds p0_f_owners p0_f_cards p0_m_y_sets p0_m_n_sets p0_m_rounds p0_h_len p0_p_length rec154 v5_L154 v6_L154 r_164 r_173) else (some (0 : Int32)))) else (some (0 : Int32)))))))
noncomputable def f_L_isTrue_L10 (p0_f_players : Int32) (p0_f_told : Int32) (p0_f_kinds : Nat → Int32) (p0_f_owners : Nat → Int32) (p0_f_cards : Nat → Int32) (p0_m_y_sets : Nat → Int32) (p0_m_n_sets : Nat → Int32) (p0_m_rounds : Int32) (p0_h_len : Int32) (p0_p_length : Int32) (p1_row : Nat → Int32) (rec10 : Int32 → Int32 → Int32 → Int32 → Option (Int32)) (v2_L10 : Int32) (v3_L10 : Int32) (v4_L10 : Int32) (v5_L10 : Int32) : Option (Int32) :=
  if (6 : Int32) ≤ v5_L10 then (lo2 (f_L_isTrue_L154 p0_f_players p0_f_told p0_f_kinds p0_f_owners p0_f_cards p0_m_y_sets p0_m_n_sets p0_m_rounds p0_h_len p0_p_length p1_row v2_L10 v3_L10 v4_L10) FU (0 : Int32) (0 : Int32)) else (ob1 (f_L_isOwner p1_row v5_L10) (fun (r_20 : Int32) => if r_20 = (0 : Int32) then (rec10 v2_L10 v3_L10 v4_L10 (v5_L10 + (1 : Int32))) else (ob1 (f_L_held p1_row v5_L10) (fun (r_29 : Int32) => ob1 (f_X5_ofOwner p0_f_players p0_m_y_sets p0_m_n_sets v5_L10 (1 : Int32)) (fun (r_38 : Int32) => ob1 (f_X5_ofOwner p0_f_players p0_m_y_sets p0_m_n_sets v5_L10 (2 : Int32)) (fun (r_47 : Int32) => if (r_38 &&& (r_29 ^^^ (-1 : Int32))) = (0 : Int32) then (if (r_47 &&& r_29) = (0 : Int32) then (ob1 (f_X5_ofOwner p0_f_players p0_m_y_sets p0_m_n_sets v5_L10 (0 : Int32)) (fun (r_74 : Int32) => ob1 (f_L_size r_29) (fun (r_79 : Int32) => if r_74 = r_79 then (ob1 (f_X5_ofOwner p0_f_players p0_m_y_sets p0_m_n_sets v5_L10 (3 : Int32)) (fun (r_89 : Int32) => if r_89 = ((262143 : Int32) &&& ((r_38 ||| r_47) ^^^ (-1 : Int32))) then (ob1 (f_L_size r_38) (fun (r_110 : Int32) => lt' (v2_L10 + r_110) (fun v2_114 : Int32 => ob1 (f_L_size r_47) (fun (r_118 : Int32) => lt' (v3_L10 + r_118) (fun v3_122 : Int32 => ob1 (f_L_size r_38) (fun (r_129 : Int32) => ob1 (f_L_size r_47) (fun (r_135 : Int32) => lt' (v4_L10 + (((18 : Int32) - r_129) - r_135)) (fun v4_140 : Int32 => rec10 v2_114 v3_122 v4_140 (v5_L10 + (1 : Int32)))))))))) else (some (0 : Int32)))) else (some (0 : Int32))))) else (some (0 : Int32))) else (some (0 : Int32))))))))
noncomputable def f_L_isTrue (p0_f_players : Int32) (p0_f_told : Int32) (p0_f_kinds : Nat → Int32) (p0_f_owners : Nat → Int32) (p0_f_cards : Nat → Int32) (p0_m_y_sets : Nat → Int32) (p0_m_n_sets : Nat → Int32) (p0_m_rounds : Int32) (p0_h_len : Int32) (p0_p_length : Int32) (p1_row : Nat → Int32) : Option (Int32) :=
  lo4 (f_L_isTrue_L10 p0_f_players p0_f_told p0_f_kinds p0_f_owners p0_f_cards p0_m_y_sets p0_m_n_sets p0_m_rounds p0_h_len p0_p_length p1_row) FU (0 : Int32) (0 : Int32) (0 : Int32) (0 : Int32)
set_option maxHeartbeats 4000000 in
set_option maxRecDepth 100000 in
theorem c_L_isTrue (l : Launch) (dC : Nat → ClassId) (dI : Nat → Nat → Nat) (ck : Nat → ClassId) (b0 b0_f b0_f_kinds b0_f_owners b0_f_cards b0_m b0_m_y b0_m_y_sets b0_m_y_coming b0_m_y_origins b0_m_n b0_m_n_sets b0_m_n_coming b0_m_n_origins b0_s b0_h b0_hs b0_slots b0_p b0_p_text b0_f b0_f_kinds b0_f_owners b0_f_cards b0_m b0_m_y b0_m_y_sets b0_m_y_coming b0_m_y_origins b0_m_n b0_m_n_sets b0_m_n_coming b0_m_n_origins b0_h b0_hs b0_p b0_p_text b1 : Nat) (p0_f_players : Int32) (p0_f_told : Int32) (p0_f_kinds : Nat → Int32) (p0_f_owners : Nat → Int32) (p0_f_cards : Nat → Int32) (p0_m_y_sets : Nat → Int32) (p0_m_y_coming : Nat → Int32) (p0_m_y_origins : Nat → Int32) (p0_m_y_round : Int32) (p0_m_n_sets : Nat → Int32) (p0_m_n_coming : Nat → Int32) (p0_m_n_origins : Nat → Int32) (p0_m_n_round : Int32) (p0_m_rounds : Int32) (p0_h_ad : Nat → Nat × Nat × Nat × Nat) (p0_h_len : Int32) (p0_h_st : Nat → Int32 × Int32 × (Nat → Int32) × (Nat → Int32) × (Nat → Int32)) (p0_p_text : Nat → Int32) (p0_p_length : Int32) (p1_row : Nat → Int32) (o0 : Int32) (h : f_L_isTrue p0_f_players p0_f_told p0_f_kinds p0_f_owners p0_f_cards p0_m_y_sets p0_m_n_sets p0_m_rounds p0_h_len p0_p_length p1_row = some o0) : RD l yL_isTrue wsL_isTrue ({ frames := 5, cells := 0, slots := 0, locals := 109 }) [.ref b0, .ref b1] (dC, dI) ck ([(b0, .inr (5, [.ref b0_f, .ref b0_m, .ref b0_s, .ref b0_h, .ref b0_slots, .ref b0_p]))] ++ wX0 ck b0_f b0_f_kinds b0_f_owners b0_f_cards p0_f_players p0_f_told p0_f_kinds p0_f_owners p0_f_cards ++ wX2 ck b0_m b0_m_y b0_m_y_sets b0_m_y_coming b0_m_y_origins b0_m_n b0_m_n_sets b0_m_n_coming b0_m_n_origins p0_m_y_sets p0_m_y_coming p0_m_y_origins p0_m_y_round p0_m_n_sets p0_m_n_coming p0_m_n_origins p0_m_n_round p0_m_rounds ++ wX1 ck b0_h b0_hs p0_h_ad p0_h_len p0_h_st ++ wX3 ck b0_p b0_p_text p0_p_text p0_p_length ++ [(b1, .inl (ck 0, 19, .inl p1_row))]) o0 := by
  refine RD.ofW (cc := cL_isTrue) (maxL := 10) (ret := (some .boolean)) (by decide +kernel) rfl (Nat.le_of_ble_eq_true rfl) ?_
  intro p e s m below meth c hx hb hr hml hts hown hlk hK hP ls hl
  have hown : s.vm.findClass RL = some m.cls := hown
  have hl : lv_has ls 10 [(0, .ref b0), (1, .ref b1)] := hl
  unfold f_L_isTrue at h
  refine lv_iconst (v := (0 : Int32)) hx hb dL_isTrue_0 rfl ?_
  refine lv_istore_n (lv' := [(2, .int (0 : Int32)), (0, .ref b0), (1, .ref b1)]) hx hb dL_isTrue_1 rfl hl (by decide) rfl (fun ls hl => ?_)
  refine lv_iconst (v := (0 : Int32)) hx hb dL_isTrue_2 rfl ?_
  refine lv_istore_n (lv' := [(3, .int (0 : Int32)), (2, .int (0 : Int32)), (0, .ref b0), (1, .ref b1)]) hx hb dL_isTrue_3 rfl hl (by decide) rfl (fun ls hl => ?_)
  refine lv_iconst (v := (0 : Int32)) hx hb dL_isTrue_4 rfl ?_
  refine lv_istore (lv' := [(4, .int (0 : Int32)), (3, .int (0 : Int32)), (2, .int (0 : Int32)), (0, .ref b0), (1, .ref b1)]) hx hb dL_isTrue_5 hl (by decide) rfl (fun ls hl => ?_)
  refine lv_iconst (v := (0 : Int32)) hx hb dL_isTrue_7 rfl ?_
  refine lv_istore (lv' := [(5, .int (0 : Int32)), (4, .int (0 : Int32)), (3, .int (0 : Int32)), (2, .int (0 : Int32)), (0, .ref b0), (1, .ref b1)]) hx hb dL_isTrue_8 hl (by decide) rfl (fun ls hl => ?_)
  have hL10 : ∀ (n10 : Nat) (v2_L10 : Int32) (v3_L10 : Int32) (v4_L10 : Int32) (v5_L10 : Int32), lo4 (f_L_isTrue_L10 p0_f_players p0_f_told p0_f_kinds p0_f_owners p0_f_cards p0_m_y_sets p0_m_n_sets p0_m_rounds p0_h_len p0_p_length p1_row) n10 v2_L10 v3_L10 v4_L10 v5_L10 = some o0 → ∀ ls : Array Slot, lv_has ls 10 [(5, .int v5_L10), (4, .int v4_L10), (3, .int v3_L10), (2, .int v2_L10), (0, .ref b0), (1, .ref b1)] → W p l e (headSpec wsL_isTrue ({ frames := 5, cells := 0, slots := 0, locals := 109 })).room s m [.ref b0, .ref b1].toArray below meth c s.heap [] 0 0 (MQ below (QcRead o0) [.ref b0, .ref b1].toArray s 0 0 (fun _ => False)) (F0 m 10 ls []) := by
    intro n10
    induction n10 with
    | zero => intro v2_L10 v3_L10 v4_L10 v5_L10 h; exact lo4_z h
    | succ n10 ih10 =>
      intro v2_L10 v3_L10 v4_L10 v5_L10 h ls hl
      have h := lo4_s h
      unfold f_L_isTrue_L10 at h
      refine lv_iload hx hb dL_isTrue_10 (lv_at hl 0 rfl) ?_
      refine lv_bipush (v := (6 : Int32)) hx hb dL_isTrue_12 rfl ?_
      refine lv_icmp_ge (tgt := 148) hx hb dL_isTrue_14 (by decide) (fun c_14 => ?_) (fun c_14 => ?_)
      · have h := if_t h c_14
        refine lv_iconst (v := (0 : Int32)) hx hb dL_isTrue_148 rfl ?_
        refine lv_istore (lv' := [(5, .int (0 : Int32)), (4, .int v4_L10), (3, .int v3_L10), (2, .int v2_L10), (0, .ref b0), (1, .ref b1)]) hx hb dL_isTrue_149 hl (by decide) rfl (fun ls hl => ?_)
        refine lv_iconst (v := (0 : Int32)) hx hb dL_isTrue_151 rfl ?_
        refine lv_istore (lv' := [(6, .int (0 : Int32)), (5, .int (0 : Int32)), (4, .int v4_L10), (3, .int v3_L10), (2, .int v2_L10), (0, .ref b0), (1, .ref b1)]) hx hb dL_isTrue_152 hl (by decide) rfl (fun ls hl => ?_)
        have hL154 : ∀ (n154 : Nat) (v5_L154 : Int32) (v6_L154 : Int32), lo2 (f_L_isTrue_L154 p0_f_players p0_f_told p0_f_kinds p0_f_owners p0_f_cards p0_m_y_sets p0_m_n_sets p0_m_rounds p0_h_len p0_p_length p1_row v2_L10 v3_L10 v4_L10) n154 v5_L154 v6_L154 = some o0 → ∀ ls : Array Slot, lv_has ls 10 [(6, .int v6_L154), (5, .int v5_L154), (4, .int v4_L10), (3, .int v3_L10), (2, .int v2_L10), (0, .ref b0), (1, .ref b1)] → W p l e (headSpec wsL_isTrue ({ frames := 5, cells := 0, slots := 0, locals := 109 })).room s m [.ref b0, .ref b1].toArray below meth c s.heap [] 0 0 (MQ below (QcRead o0) [.ref b0, .ref b1].toArray s 0 0 (fun _ => False)) (F0 m 154 ls []) := by
          intro n154
          induction n154 with
          | zero => intro v5_L154 v6_L154 h; exact lo2_z h
          | succ n154 ih154 =>
            intro v5_L154 v6_L154 h ls hl
            have h := lo2_s h
            unfold f_L_isTrue_L154 at h
            refine lv_iload hx hb dL_isTrue_154 (lv_at hl 0 rfl) ?_
            refine lv_iconst (v := (3 : Int32)) hx hb dL_isTrue_156 rfl ?_
            refine lv_icmp_ge (tgt := 285) hx hb dL_isTrue_157 (by decide) (fun c_157 => ?_) (fun c_157 => ?_)
            · have h := if_t h c_157
              refine lv_aload_n hx hb dL_isTrue_285 rfl (lv_at hl 5 rfl) ?_
              refine lv_iconst (v := (2 : Int32)) hx hb dL_isTrue_286 rfl ?_
              obtain ⟨r_287, q_287, h⟩ := ob1_e h
              refine cRV (wc := [(b0, .inr (5, [.ref b0_f, .ref b0_m, .ref b0_s, .ref b0_h, .ref b0_slots, .ref b0_p]))] ++ wX0 ck b0_f b0_f_kinds b0_f_owners b0_f_cards p0_f_players p0_f_told p0_f_kinds p0_f_owners p0_f_cards ++ wX2 ck b0_m b0_m_y b0_m_y_sets b0_m_y_coming b0_m_y_origins b0_m_n b0_m_n_sets b0_m_n_coming b0_m_n_origins p0_m_y_sets p0_m_y_coming p0_m_y_origins p0_m_y_round p0_m_n_sets p0_m_n_coming p0_m_n_origins p0_m_n_round p0_m_rounds ++ wX1 ck b0_h b0_hs p0_h_ad p0_h_len p0_h_st ++ wX3 ck b0_p b0_p_text p0_p_text p0_p_length) ⟨hx, hb, hml, hown, hts⟩ hK hP [0, 1, 2, 3, 4, 5, 6, 7, 8, 9, 10, 11, 12, 13, 14, 15, 16, 17, 18, 19, 20, 21, 22, 23, 24, 25, 26, 27, 28, 29, 30, 31, 32, 33, 34, 35, 36, 37, 38, 39, 40, 41] rfl (c_X5_count l dC dI ck b0 b0_f b0_f_kinds b0_f_owners b0_f_cards b0_m b0_m_y b0_m_y_sets b0_m_y_coming b0_m_y_origins b0_m_n b0_m_n_sets b0_m_n_coming b0_m_n_origins b0_s b0_h b0_hs b0_slots b0_p b0_p_text b0_f b0_f_kinds b0_f_owners b0_f_cards b0_m b0_m_y b0_m_y_sets b0_m_y_coming b0_m_y_origins b0_m_n b0_m_n_sets b0_m_n_coming b0_m_n_origins b0_h b0_hs b0_p b0_p_text p0_f_players p0_f_told p0_f_kinds p0_f_owners p0_f_cards p0_m_y_sets p0_m_y_coming p0_m_y_origins p0_m_y_round p0_m_n_sets p0_m_n_coming p0_m_n_origins p0_m_n_round p0_m_rounds p0_h_ad p0_h_len p0_h_st p0_p_text p0_p_length (2 : Int32) r_287 q_287) (cwV 1 hts gL_isTrue_X5_count rfl rfl rfl (by decide +kernel) ⟨Nat.le_of_ble_eq_true rfl, Nat.le_of_ble_eq_true rfl⟩) 0 rfl rfl rfl hl.1 rfl (Nat.le_of_ble_eq_true rfl) dL_isTrue_287 ⟨Nat.zero_le _, Nat.zero_le _⟩ ?_
              refine lv_iload_n hx hb dL_isTrue_290 rfl (lv_at hl 4 rfl) ?_
              refine lv_icmp_ne (tgt := 337) hx hb dL_isTrue_291 (by decide) (fun c_291 => ?_) (fun c_291 => ?_)
              · have h := if_f h c_291
                refine lv_iconst (v := (0 : Int32)) hx hb dL_isTrue_337 rfl ?_
                cases h
                exact eRz hx hb hr hlk rfl rfl dL_isTrue_338
              · have h := if_t h c_291
                refine lv_aload_n hx hb dL_isTrue_294 rfl (lv_at hl 5 rfl) ?_
                refine lv_iconst (v := (3 : Int32)) hx hb dL_isTrue_295 rfl ?_
                obtain ⟨r_296, q_296, h⟩ := ob1_e h
                refine cRV (wc := [(b0, .inr (5, [.ref b0_f, .ref b0_m, .ref b0_s, .ref b0_h, .ref b0_slots, .ref b0_p]))] ++ wX0 ck b0_f b0_f_kinds b0_f_owners b0_f_cards p0_f_players p0_f_told p0_f_kinds p0_f_owners p0_f_cards ++ wX2 ck b0_m b0_m_y b0_m_y_sets b0_m_y_coming b0_m_y_origins b0_m_n b0_m_n_sets b0_m_n_coming b0_m_n_origins p0_m_y_sets p0_m_y_coming p0_m_y_origins p0_m_y_round p0_m_n_sets p0_m_n_coming p0_m_n_origins p0_m_n_round p0_m_rounds ++ wX1 ck b0_h b0_hs p0_h_ad p0_h_len p0_h_st ++ wX3 ck b0_p b0_p_text p0_p_text p0_p_length) ⟨hx, hb, hml, hown, hts⟩ hK hP [0, 1, 2, 3, 4, 5, 6, 7, 8, 9, 10, 11, 12, 13, 14, 15, 16, 17, 18, 19, 20, 21, 22, 23, 24, 25, 26, 27, 28, 29, 30, 31, 32, 33, 34, 35, 36, 37, 38, 39, 40, 41] rfl (c_X5_count l dC dI ck b0 b0_f b0_f_kinds b0_f_owners b0_f_cards b0_m b0_m_y b0_m_y_sets b0_m_y_coming b0_m_y_origins b0_m_n b0_m_n_sets b0_m_n_coming b0_m_n_origins b0_s b0_h b0_hs b0_slots b0_p b0_p_text b0_f b0_f_kinds b0_f_owners b0_f_cards b0_m b0_m_y b0_m_y_sets b0_m_y_coming b0_m_y_origins b0_m_n b0_m_n_sets b0_m_n_coming b0_m_n_origins b0_h b0_hs b0_p b0_p_text p0_f_players p0_f_told p0_f_kinds p0_f_owners p0_f_cards p0_m_y_sets p0_m_y_coming p0_m_y_origins p0_m_y_round p0_m_n_sets p0_m_n_coming p0_m_n_origins p0_m_n_round p0_m_rounds p0_h_ad p0_h_len p0_h_st p0_p_text p0_p_length (3 : Int32) r_296 q_296) (cwV 1 hts gL_isTrue_X5_count rfl rfl rfl (by decide +kernel) ⟨Nat.le_of_ble_eq_true rfl, Nat.le_of_ble_eq_true rfl⟩) 0 rfl rfl rfl hl.1 rfl (Nat.le_of_ble_eq_true rfl) dL_isTrue_296 ⟨Nat.zero_le _, Nat.zero_le _⟩ ?_
                refine lv_iload_n hx hb dL_isTrue_299 rfl (lv_at hl 3 rfl) ?_
                refine lv_icmp_ne (tgt := 337) hx hb dL_isTrue_300 (by decide) (fun c_300 => ?_) (fun c_300 => ?_)
                · have h := if_f h c_300
                  refine lv_iconst (v := (0 : Int32)) hx hb dL_isTrue_337 rfl ?_
                  cases h
                  exact eRz hx hb hr hlk rfl rfl dL_isTrue_338
                · have h := if_t h c_300
                  refine lv_aload_n hx hb dL_isTrue_303 rfl (lv_at hl 5 rfl) ?_
                  refine lv_iconst (v := (4 : Int32)) hx hb dL_isTrue_304 rfl ?_
                  obtain ⟨r_305, q_305, h⟩ := ob1_e h
                  refine cRV (wc := [(b0, .inr (5, [.ref b0_f, .ref b0_m, .ref b0_s, .ref b0_h, .ref b0_slots, .ref b0_p]))] ++ wX0 ck b0_f b0_f_kinds b0_f_owners b0_f_cards p0_f_players p0_f_told p0_f_kinds p0_f_owners p0_f_cards ++ wX2 ck b0_m b0_m_y b0_m_y_sets b0_m_y_coming b0_m_y_origins b0_m_n b0_m_n_sets b0_m_n_coming b0_m_n_origins p0_m_y_sets p0_m_y_coming p0_m_y_origins p0_m_y_round p0_m_n_sets p0_m_n_coming p0_m_n_origins p0_m_n_round p0_m_rounds ++ wX1 ck b0_h b0_hs p0_h_ad p0_h_len p0_h_st ++ wX3 ck b0_p b0_p_text p0_p_text p0_p_length) ⟨hx, hb, hml, hown, hts⟩ hK hP [0, 1, 2, 3, 4, 5, 6, 7, 8, 9, 10, 11, 12, 13, 14, 15, 16, 17, 18, 19, 20, 21, 22, 23, 24, 25, 26, 27, 28, 29, 30, 31, 32, 33, 34, 35, 36, 37, 38, 39, 40, 41] rfl (c_X5_count l dC dI ck b0 b0_f b0_f_kinds b0_f_owners b0_f_cards b0_m b0_m_y b0_m_y_sets b0_m_y_coming b0_m_y_origins b0_m_n b0_m_n_sets b0_m_n_coming b0_m_n_origins b0_s b0_h b0_hs b0_slots b0_p b0_p_text b0_f b0_f_kinds b0_f_owners b0_f_cards b0_m b0_m_y b0_m_y_sets b0_m_y_coming b0_m_y_origins b0_m_n b0_m_n_sets b0_m_n_coming b0_m_n_origins b0_h b0_hs b0_p b0_p_text p0_f_players p0_f_told p0_f_kinds p0_f_owners p0_f_cards p0_m_y_sets p0_m_y_coming p0_m_y_origins p0_m_y_round p0_m_n_sets p0_m_n_coming p0_m_n_origins p0_m_n_round p0_m_rounds p0_h_ad p0_h_len p0_h_st p0_p_text p0_p_length (4 : Int32) r_305 q_305) (cwV 1 hts gL_isTrue_X5_count rfl rfl rfl (by decide +kernel) ⟨Nat.le_of_ble_eq_true rfl, Nat.le_of_ble_eq_true rfl⟩) 0 rfl rfl rfl hl.1 rfl (Nat.le_of_ble_eq_true rfl) dL_isTrue_305 ⟨Nat.zero_le _, Nat.zero_le _⟩ ?_
                  refine lv_iload hx hb dL_isTrue_308 (lv_at hl 2 rfl) ?_
                  refine lv_icmp_ne (tgt := 337) hx hb dL_isTrue_310 (by decide) (fun c_310 => ?_) (fun c_310 => ?_)
                  · have h := if_f h c_310
                    refine lv_iconst (v := (0 : Int32)) hx hb dL_isTrue_337 rfl ?_
                    cases h
                    exact eRz hx hb hr hlk rfl rfl dL_isTrue_338
                  · have h := if_t h c_310
                    refine lv_aload_n hx hb dL_isTrue_313 rfl (lv_at hl 5 rfl) ?_
                    refine lv_bipush (v := (6 : Int32)) hx hb dL_isTrue_314 rfl ?_
                    obtain ⟨r_316, q_316, h⟩ := ob1_e h
                    refine cRV (wc := [(b0, .inr (5, [.ref b0_f, .ref b0_m, .ref b0_s, .ref b0_h, .ref b0_slots, .ref b0_p]))] ++ wX0 ck b0_f b0_f_kinds b0_f_owners b0_f_cards p0_f_players p0_f_told p0_f_kinds p0_f_owners p0_f_cards ++ wX2 ck b0_m b0_m_y b0_m_y_sets b0_m_y_coming b0_m_y_origins b0_m_n b0_m_n_sets b0_m_n_coming b0_m_n_origins p0_m_y_sets p0_m_y_coming p0_m_y_origins p0_m_y_round p0_m_n_sets p0_m_n_coming p0_m_n_origins p0_m_n_round p0_m_rounds ++ wX1 ck b0_h b0_hs p0_h_ad p0_h_len p0_h_st ++ wX3 ck b0_p b0_p_text p0_p_text p0_p_length) ⟨hx, hb, hml, hown, hts⟩ hK hP [0, 1, 2, 3, 4, 5, 6, 7, 8, 9, 10, 11, 12, 13, 14, 15, 16, 17, 18, 19, 20, 21, 22, 23, 24, 25, 26, 27, 28, 29, 30, 31, 32, 33, 34, 35, 36, 37, 38, 39, 40, 41] rfl (c_X5_count l dC dI ck b0 b0_f b0_f_kinds b0_f_owners b0_f_cards b0_m b0_m_y b0_m_y_sets b0_m_y_coming b0_m_y_origins b0_m_n b0_m_n_sets b0_m_n_coming b0_m_n_origins b0_s b0_h b0_hs b0_slots b0_p b0_p_text b0_f b0_f_kinds b0_f_owners b0_f_cards b0_m b0_m_y b0_m_y_sets b0_m_y_coming b0_m_y_origins b0_m_n b0_m_n_sets b0_m_n_coming b0_m_n_origins b0_h b0_hs b0_p b0_p_text p0_f_players p0_f_told p0_f_kinds p0_f_owners p0_f_cards p0_m_y_sets p0_m_y_coming p0_m_y_origins p0_m_y_round p0_m_n_sets p0_m_n_coming p0_m_n_origins p0_m_n_round p0_m_rounds p0_h_ad p0_h_len p0_h_st p0_p_text p0_p_length (6 : Int32) r_316 q_316) (cwV 1 hts gL_isTrue_X5_count rfl rfl rfl (by decide +kernel) ⟨Nat.le_of_ble_eq_true rfl, Nat.le_of_ble_eq_true rfl⟩) 0 rfl rfl rfl hl.1 rfl (Nat.le_of_ble_eq_true rfl) dL_isTrue_316 ⟨Nat.zero_le _, Nat.zero_le _⟩ ?_
                    refine lv_if_ne (tgt := 337) hx hb dL_isTrue_319 (by decide) (fun c_319 => ?_) (fun c_319 => ?_)
                    · have h := if_f h c_319
                      refine lv_iconst (v := (0 : Int32)) hx hb dL_isTrue_337 rfl ?_
                      cases h
                      exact eRz hx hb hr hlk rfl rfl dL_isTrue_338
                    · have h := if_t h c_319
                      refine lv_aload_n hx hb dL_isTrue_322 rfl (lv_at hl 5 rfl) ?_
                      refine lv_bipush (v := (7 : Int32)) hx hb dL_isTrue_323 rfl ?_
                      obtain ⟨r_325, q_325, h⟩ := ob1_e h
                      refine cRV (wc := [(b0, .inr (5, [.ref b0_f, .ref b0_m, .ref b0_s, .ref b0_h, .ref b0_slots, .ref b0_p]))] ++ wX0 ck b0_f b0_f_kinds b0_f_owners b0_f_cards p0_f_players p0_f_told p0_f_kinds p0_f_owners p0_f_cards ++ wX2 ck b0_m b0_m_y b0_m_y_sets b0_m_y_coming b0_m_y_origins b0_m_n b0_m_n_sets b0_m_n_coming b0_m_n_origins p0_m_y_sets p0_m_y_coming p0_m_y_origins p0_m_y_round p0_m_n_sets p0_m_n_coming p0_m_n_origins p0_m_n_round p0_m_rounds ++ wX1 ck b0_h b0_hs p0_h_ad p0_h_len p0_h_st ++ wX3 ck b0_p b0_p_text p0_p_text p0_p_length) ⟨hx, hb, hml, hown, hts⟩ hK hP [0, 1, 2, 3, 4, 5, 6, 7, 8, 9, 10, 11, 12, 13, 14, 15, 16, 17, 18, 19, 20, 21, 22, 23, 24, 25, 26, 27, 28, 29, 30, 31, 32, 33, 34, 35, 36, 37, 38, 39, 40, 41] rfl (c_X5_count l dC dI ck b0 b0_f b0_f_kinds b0_f_owners b0_f_cards b0_m b0_m_y b0_m_y_sets b0_m_y_coming b0_m_y_origins b0_m_n b0_m_n_sets b0_m_n_coming b0_m_n_origins b0_s b0_h b0_hs b0_slots b0_p b0_p_text b0_f b0_f_kinds b0_f_owners b0_f_cards b0_m b0_m_y b0_m_y_sets b0_m_y_coming b0_m_y_origins b0_m_n b0_m_n_sets b0_m_n_coming b0_m_n_origins b0_h b0_hs b0_p b0_p_text p0_f_players p0_f_told p0_f_kinds p0_f_owners p0_f_cards p0_m_y_sets p0_m_y_coming p0_m_y_origins p0_m_y_round p0_m_n_sets p0_m_n_coming p0_m_n_origins p0_m_n_round p0_m_rounds p0_h_ad p0_h_len p0_h_st p0_p_text p0_p_length (7 : Int32) r_325 q_325) (cwV 1 hts gL_isTrue_X5_count rfl rfl rfl (by decide +kernel) ⟨Nat.le_of_ble_eq_true rfl, Nat.le_of_ble_eq_true rfl⟩) 0 rfl rfl rfl hl.1 rfl (Nat.le_of_ble_eq_true rfl) dL_isTrue_325 ⟨Nat.zero_le _, Nat.zero_le _⟩ ?_
                      refine lv_iload hx hb dL_isTrue_328 (lv_at hl 1 rfl) ?_
                      refine lv_icmp_ne (tgt := 337) hx hb dL_isTrue_330 (by decide) (fun c_330 => ?_) (fun c_330 => ?_)
                      · have h := if_f h c_330
                        refine lv_iconst (v := (0 : Int32)) hx hb dL_isTrue_337 rfl ?_
                        cases h
                        exact eRz hx hb hr hlk rfl rfl dL_isTrue_338
                      · have h := if_t h c_330
                        refine lv_iconst (v := (1 : Int32)) hx hb dL_isTrue_333 rfl ?_
                        refine lv_goto (tgt := 338) hx hb dL_isTrue_334 (by decide) ?_
                        cases h
                        exact eRz hx hb hr hlk rfl rfl dL_isTrue_338
            · have h := if_f h c_157
              refine lv_aload_n hx hb dL_isTrue_160 rfl (lv_at hl 5 rfl) ?_
              refine lv_iload hx hb dL_isTrue_161 (lv_at hl 0 rfl) ?_
              refine lv_iconst (v := (1 : Int32)) hx hb dL_isTrue_163 rfl ?_
              obtain ⟨r_164, q_164, h⟩ := ob1_e h
              refine cRV (wc := [(b0, .inr (5, [.ref b0_f, .ref b0_m, .ref b0_s, .ref b0_h, .ref b0_slots, .ref b0_p]))] ++ wX2 ck b0_m b0_m_y b0_m_y_sets b0_m_y_coming b0_m_y_origins b0_m_n b0_m_n_sets b0_m_n_coming b0_m_n_origins p0_m_y_sets p0_m_y_coming p0_m_y_origins p0_m_y_round p0_m_n_sets p0_m_n_coming p0_m_n_origins p0_m_n_round p0_m_rounds) ⟨hx, hb, hml, hown, hts⟩ hK hP [0, 5, 6, 7, 8, 9, 10, 11, 12, 13] rfl (c_X5_envelope l dC dI ck b0 b0_f b0_m b0_m_y b0_m_y_sets b0_m_y_coming b0_m_y_origins b0_m_n b0_m_n_sets b0_m_n_coming b0_m_n_origins b0_s b0_h b0_slots b0_p b0_m b0_m_y b0_m_y_sets b0_m_y_coming b0_m_y_origins b0_m_n b0_m_n_sets b0_m_n_coming b0_m_n_origins p0_m_y_sets p0_m_y_coming p0_m_y_origins p0_m_y_round p0_m_n_sets p0_m_n_coming p0_m_n_origins p0_m_n_round p0_m_rounds v6_L154 (1 : Int32) r_164 q_164) (cwV 2 hts gL_isTrue_X5_envelope rfl rfl rfl (by decide +kernel) ⟨Nat.le_of_ble_eq_true rfl, Nat.le_of_ble_eq_true rfl⟩) 0 rfl rfl rfl hl.1 rfl (Nat.le_of_ble_eq_true rfl) dL_isTrue_164 ⟨Nat.zero_le _, Nat.zero_le _⟩ ?_
              refine lv_istore (lv' := [(7, .int r_164), (6, .int v6_L154), (5, .int v5_L154), (4, .int v4_L10), (3, .int v3_L10), (2, .int v2_L10), (0, .ref b0), (1, .ref b1)]) hx hb dL_isTrue_167 hl (by decide) rfl (fun ls hl => ?_)
              refine lv_aload_n hx hb dL_isTrue_169 rfl (lv_at hl 6 rfl) ?_
              refine lv_iload hx hb dL_isTrue_170 (lv_at hl 1 rfl) ?_
              refine lv_iconst (v := (0 : Int32)) hx hb dL_isTrue_172 rfl ?_
              obtain ⟨r_173, q_173, h⟩ := ob1_e h
              refine cRV (wc := [(b0, .inr (5, [.ref b0_f, .ref b0_m, .ref b0_s, .ref b0_h, .ref b0_slots, .ref b0_p]))] ++ wX2 ck b0_m b0_m_y b0_m_y_sets b0_m_y_coming b0_m_y_origins b0_m_n b0_m_n_sets b0_m_n_coming b0_m_n_origins p0_m_y_sets p0_m_y_coming p0_m_y_origins p0_m_y_round p0_m_n_sets p0_m_n_coming p0_m_n_origins p0_m_n_round p0_m_rounds) ⟨hx, hb, hml, hown, hts⟩ hK hP [0, 5, 6, 7, 8, 9, 10, 11, 12, 13] rfl (c_X5_envelope l dC dI ck b0 b0_f b0_m b0_m_y b0_m_y_sets b0_m_y_coming b0_m_y_origins b0_m_n b0_m_n_sets b0_m_n_coming b0_m_n_origins b0_s b0_h b0_slots b0_p b0_m b0_m_y b0_m_y_sets b0_m_y_coming b0_m_y_origins b0_m_n b0_m_n_sets b0_m_n_coming b0_m_n_origins p0_m_y_sets p0_m_y_coming p0_m_y_origins p0_m_y_round p0_m_n_sets p0_m_n_coming p0_m_n_origins p0_m_n_round p0_m_rounds v6_L154 (0 : Int32) r_173 q_173) (cwV 2 hts gL_isTrue_X5_envelope rfl rfl rfl (by decide +kernel) ⟨Nat.le_of_ble_eq_true rfl, Nat.le_of_ble_eq_true rfl⟩) 0 rfl rfl rfl hl.1 rfl (Nat.le_of_ble_eq_true rfl) dL_isTrue_173 ⟨Nat.zero_le _, Nat.zero_le _⟩ ?_
              refine lv_istore (lv' := [(8, .int r_173), (7, .int r_164), (6, .int v6_L154), (5, .int v5_L154), (4, .int v4_L10), (3, .int v3_L10), (2, .int v2_L10), (0, .ref b0), (1, .ref b1)]) hx hb dL_isTrue_176 hl (by decide) rfl (fun ls hl => ?_)
              refine lv_aload_n hx hb dL_isTrue_178 rfl (lv_at hl 8 rfl) ?_
              refine lv_iconst (v := (5 : Int32)) hx hb dL_isTrue_179 rfl ?_
              obtain ⟨r_180, q_180, h⟩ := ob1_e h
              refine cRS (wc := [(b1, .inl (ck 0, 19, .inl p1_row))]) ⟨hx, hb, hml, hown, hts⟩ hK hP [42] rfl (c_L_held l dC dI ck b1 p1_row (5 : Int32) r_180 q_180) (va_cwS 2 hts gL_isTrue_L_held rfl rfl rfl (by decide +kernel) ⟨Nat.le_of_ble_eq_true rfl, Nat.le_of_ble_eq_true rfl⟩) rfl hl.1 rfl (Nat.le_of_ble_eq_true rfl) dL_isTrue_180 ⟨Nat.zero_le _, Nat.zero_le _⟩ ?_
              refine lv_bipush (v := (63 : Int32)) hx hb dL_isTrue_183 rfl ?_
              refine lv_bipush (v := (6 : Int32)) hx hb dL_isTrue_185 rfl ?_
              refine lv_iload hx hb dL_isTrue_187 (lv_at hl 2 rfl) ?_
              refine lv_imul hx hb dL_isTrue_189 ?_
              refine lv_ishl hx hb dL_isTrue_190 ?_
              refine lv_iand hx hb dL_isTrue_191 ?_
              refine lv_topi (fun v9_192 e_192 => ?_)
              have h := lt'_e e_192 h
              refine lv_istore (lv' := [(9, .int v9_192), (8, .int r_173), (7, .int r_164), (6, .int v6_L154), (5, .int v5_L154), (4, .int v4_L10), (3, .int v3_L10), (2, .int v2_L10), (0, .ref b0), (1, .ref b1)]) hx hb dL_isTrue_192 hl (by decide) rfl (fun ls hl => ?_)
              refine lv_iload hx hb dL_isTrue_194 (lv_at hl 2 rfl) ?_
              refine lv_iload hx hb dL_isTrue_196 (lv_at hl 0 rfl) ?_
              refine lv_iand hx hb dL_isTrue_198 ?_
              refine lv_iload hx hb dL_isTrue_199 (lv_at hl 0 rfl) ?_
              refine lv_icmp_ne (tgt := 262) hx hb dL_isTrue_201 (by decide) (fun c_201 => ?_) (fun c_201 => ?_)
              · have h := if_f h c_201
                refine lv_iconst (v := (0 : Int32)) hx hb dL_isTrue_262 rfl ?_
                cases h
                exact eRz hx hb hr hlk rfl rfl dL_isTrue_263
              · have h := if_t h c_201
                refine lv_iload hx hb dL_isTrue_204 (lv_at hl 1 rfl) ?_
                have hJ218 : f_L_isTrue_J218 p0_f_players p0_f_told p0_f_kinds p0_f_owners p0_f_cards p0_m_y_sets p0_m_n_sets p0_m_rounds p0_h_len p0_p_length (lo2 (f_L_isTrue_L154 p0_f_players p0_f_told p0_f_kinds p0_f_owners p0_f_cards p0_m_y_sets p0_m_n_sets p0_m_rounds p0_h_len p0_p_length p1_row v2_L10 v3_L10 v4_L10) n154) v5_L154 v6_L154 r_164 r_173 = some o0 → ∀ ls : Array Slot, lv_has ls 10 [(8, .int r_173), (7, .int r_164), (6, .int v6_L154), (5, .int v5_L154), (4, .int v4_L10), (3, .int v3_L10), (2, .int v2_L10), (0, .ref b0), (1, .ref b1)] → W p l e (headSpec wsL_isTrue ({ frames := 5, cells := 0, slots := 0, locals := 109 })).room s m [.ref b0, .ref b1].toArray below meth c s.heap [] 0 0 (MQ below (QcRead o0) [.ref b0, .ref b1].toArray s 0 0 (fun _ => False)) (F0 m 218 ls []) := by
                  intro  h ls hl
                  unfold f_L_isTrue_J218 at h
                  refine lv_iload hx hb dL_isTrue_218 (lv_at hl 1 rfl) ?_
                  obtain ⟨r_220, q_220, h⟩ := ob1_e h
                  refine cRS (wc := []) ⟨hx, hb, hml, hown, hts⟩ hK hP [] rfl (c_L_size l dC dI ck r_164 r_220 q_220) (va_cwS 1 hts gL_isTrue_L_size rfl rfl rfl (by decide +kernel) ⟨Nat.le_of_ble_eq_true rfl, Nat.le_of_ble_eq_true rfl⟩) rfl hl.1 rfl (Nat.le_of_ble_eq_true rfl) dL_isTrue_220 ⟨Nat.zero_le _, Nat.zero_le _⟩ ?_
                  refine lv_iconst (v := (1 : Int32)) hx hb dL_isTrue_223 rfl ?_
                  have hJ232 : ∀ (t0_J232 : Int32), f_L_isTrue_J232 p0_f_players p0_f_told p0_f_kinds p0_f_owners p0_f_cards p0_m_y_sets p0_m_n_sets p0_m_rounds p0_h_len p0_p_length (lo2 (f_L_isTrue_L154 p0_f_players p0_f_told p0_f_kinds p0_f_owners p0_f_cards p0_m_y_sets p0_m_n_sets p0_m_rounds p0_h_len p0_p_length p1_row v2_L10 v3_L10 v4_L10) n154) v5_L154 v6_L154 r_164 r_173 t0_J232 = some o0 → ∀ ls : Array Slot, lv_has ls 10 [(8, .int r_173), (7, .int r_164), (6, .int v6_L154), (5, .int v5_L154), (4, .int v4_L10), (3, .int v3_L10), (2, .int v2_L10), (0, .ref b0), (1, .ref b1)] → W p l e (headSpec wsL_isTrue ({ frames := 5, cells := 0, slots := 0, locals := 109 })).room s m [.ref b0, .ref b1].toArray below meth c s.heap [] 0 0 (MQ below (QcRead o0) [.ref b0, .ref b1].toArray s 0 0 (fun _ => False)) (F0 m 232 ls [.int t0_J232]) := by
                    intro t0_J232 h ls hl
                    unfold f_L_isTrue_J232 at h
                    refine lv_iload hx hb dL_isTrue_232 (lv_at hl 0 rfl) ?_
                    have hJ242 : ∀ (t0_J242 : Int32) (t1_J242 : Int32), f_L_isTrue_J242 p0_f_players p0_f_told p0_f_kinds p0_f_owners p0_f_cards p0_m_y_sets p0_m_n_sets p0_m_rounds p0_h_len p0_p_length (lo2 (f_L_isTrue_L154 p0_f_players p0_f_told p0_f_kinds p0_f_owners p0_f_cards p0_m_y_sets p0_m_n_sets p0_m_rounds p0_h_len p0_p_length p1_row v2_L10 v3_L10 v4_L10) n154) v5_L154 v6_L154 r_164 r_173 t0_J242 t1_J242 = some o0 → ∀ ls : Array Slot, lv_has ls 10 [(8, .int r_173), (7, .int r_164), (6, .int v6_L154), (5, .int v5_L154), (4, .int v4_L10), (3, .int v3_L10), (2, .int v2_L10), (0, .ref b0), (1, .ref b1)] → W p l e (headSpec wsL_isTrue ({ frames := 5, cells := 0, slots := 0, locals := 109 })).room s m [.ref b0, .ref b1].toArray below meth c s.heap [] 0 0 (MQ below (QcRead o0) [.ref b0, .ref b1].toArray s 0 0 (fun _ => False)) (F0 m 242 ls [.int t1_J242, .int t0_J242]) := by
                      intro t0_J242 t1_J242 h ls hl
                      unfold f_L_isTrue_J242 at h
                      refine lv_icmp_eq (tgt := 264) hx hb dL_isTrue_242 (by decide) (fun c_242 => ?_) (fun c_242 => ?_)
                      · have h := if_t h c_242
                        refine lv_iload hx hb dL_isTrue_264 (lv_at hl 3 rfl) ?_
                        refine lv_iload hx hb dL_isTrue_266 (lv_at hl 0 rfl) ?_
                        refine lv_if_lt (tgt := 275) hx hb dL_isTrue_268 (by decide) (fun c_268 => ?_) (fun c_268 => ?_)
                        · have h := if_t h c_268
                          refine lv_iconst (v := (0 : Int32)) hx hb dL_isTrue_275 rfl ?_
                          refine lv_iadd hx hb dL_isTrue_276 ?_
                          refine lv_topi (fun v5_277 e_277 => ?_)
                          have h := lt'_e e_277 h
                          refine lv_istore (lv' := [(5, .int v5_277), (8, .int r_173), (7, .int r_164), (6, .int v6_L154), (4, .int v4_L10), (3, .int v3_L10), (2, .int v2_L10), (0, .ref b0), (1, .ref b1)]) hx hb dL_isTrue_277 hl (by decide) rfl (fun ls hl => ?_)
                          refine lv_iinc (v := (v6_L154 + (1 : Int32))) (lv' := [(6, .int (v6_L154 + (1 : Int32))), (5, .int v5_277), (8, .int r_173), (7, .int r_164), (4, .int v4_L10), (3, .int v3_L10), (2, .int v2_L10), (0, .ref b0), (1, .ref b1)]) hx hb dL_isTrue_279 hl (k := 3) rfl rfl (by decide) rfl (fun ls hl => ?_)
                          refine lv_goto (tgt := 154) hx hb dL_isTrue_282 (by decide) ?_
                          exact ih154 _ _ h _ (lv_sub hl [0, 1, 4, 5, 6, 7, 8] rfl)
                        · have h := if_f h c_268
                          refine lv_iconst (v := (1 : Int32)) hx hb dL_isTrue_271 rfl ?_
                          refine lv_goto (tgt := 276) hx hb dL_isTrue_272 (by decide) ?_
                          refine lv_iadd hx hb dL_isTrue_276 ?_
                          refine lv_topi (fun v5_277 e_277 => ?_)
                          have h := lt'_e e_277 h
                          refine lv_istore (lv' := [(5, .int v5_277), (8, .int r_173), (7, .int r_164), (6, .int v6_L154), (4, .int v4_L10), (3, .int v3_L10), (2, .int v2_L10), (0, .ref b0), (1, .ref b1)]) hx hb dL_isTrue_277 hl (by decide) rfl (fun ls hl => ?_)
                          refine lv_iinc (v := (v6_L154 + (1 : Int32))) (lv' := [(6, .int (v6_L154 + (1 : Int32))), (5, .int v5_277), (8, .int r_173), (7, .int r_164), (4, .int v4_L10), (3, .int v3_L10), (2, .int v2_L10), (0, .ref b0), (1, .ref b1)]) hx hb dL_isTrue_279 hl (k := 3) rfl rfl (by decide) rfl (fun ls hl => ?_)
                          refine lv_goto (tgt := 154) hx hb dL_isTrue_282 (by decide) ?_
                          exact ih154 _ _ h _ (lv_sub hl [0, 1, 4, 5, 6, 7, 8] rfl)
                      · have h := if_f h c_242
                        refine lv_iload hx hb dL_isTrue_245 (lv_at hl 1 rfl) ?_
                        obtain ⟨r_247, q_247, h⟩ := ob1_e h
                        refine cRS (wc := []) ⟨hx, hb, hml, hown, hts⟩ hK hP [] rfl (c_L_size l dC dI ck r_164 r_247 q_247) (va_cwS 1 hts gL_isTrue_L_size rfl rfl rfl (by decide +kernel) ⟨Nat.le_of_ble_eq_true rfl, Nat.le_of_ble_eq_true rfl⟩) rfl hl.1 rfl (Nat.le_of_ble_eq_true rfl) dL_isTrue_247 ⟨Nat.zero_le _, Nat.zero_le _⟩ ?_
                        refine lv_iconst (v := (1 : Int32)) hx hb dL_isTrue_250 rfl ?_
                        refine lv_icmp_ne (tgt := 264) hx hb dL_isTrue_251 (by decide) (fun c_251 => ?_) (fun c_251 => ?_)
                        · have h := if_f h c_251
                          refine lv_iload hx hb dL_isTrue_264 (lv_at hl 3 rfl) ?_
                          refine lv_iload hx hb dL_isTrue_266 (lv_at hl 0 rfl) ?_
                          refine lv_if_lt (tgt := 275) hx hb dL_isTrue_268 (by decide) (fun c_268 => ?_) (fun c_268 => ?_)
                          · have h := if_t h c_268
                            refine lv_iconst (v := (0 : Int32)) hx hb dL_isTrue_275 rfl ?_
                            refine lv_iadd hx hb dL_isTrue_276 ?_
                            refine lv_topi (fun v5_277 e_277 => ?_)
                            have h := lt'_e e_277 h
                            refine lv_istore (lv' := [(5, .int v5_277), (8, .int r_173), (7, .int r_164), (6, .int v6_L154), (4, .int v4_L10), (3, .int v3_L10), (2, .int v2_L10), (0, .ref b0), (1, .ref b1)]) hx hb dL_isTrue_277 hl (by decide) rfl (fun ls hl => ?_)
                            refine lv_iinc (v := (v6_L154 + (1 : Int32))) (lv' := [(6, .int (v6_L154 + (1 : Int32))), (5, .int v5_277), (8, .int r_173), (7, .int r_164), (4, .int v4_L10), (3, .int v3_L10), (2, .int v2_L10), (0, .ref b0), (1, .ref b1)]) hx hb dL_isTrue_279 hl (k := 3) rfl rfl (by decide) rfl (fun ls hl => ?_)
                            refine lv_goto (tgt := 154) hx hb dL_isTrue_282 (by decide) ?_
                            exact ih154 _ _ h _ (lv_sub hl [0, 1, 4, 5, 6, 7, 8] rfl)
                          · have h := if_f h c_268
                            refine lv_iconst (v := (1 : Int32)) hx hb dL_isTrue_271 rfl ?_
                            refine lv_goto (tgt := 276) hx hb dL_isTrue_272 (by decide) ?_
                            refine lv_iadd hx hb dL_isTrue_276 ?_
                            refine lv_topi (fun v5_277 e_277 => ?_)
                            have h := lt'_e e_277 h
                            refine lv_istore (lv' := [(5, .int v5_277), (8, .int r_173), (7, .int r_164), (6, .int v6_L154), (4, .int v4_L10), (3, .int v3_L10), (2, .int v2_L10), (0, .ref b0), (1, .ref b1)]) hx hb dL_isTrue_277 hl (by decide) rfl (fun ls hl => ?_)
                            refine lv_iinc (v := (v6_L154 + (1 : Int32))) (lv' := [(6, .int (v6_L154 + (1 : Int32))), (5, .int v5_277), (8, .int r_173), (7, .int r_164), (4, .int v4_L10), (3, .int v3_L10), (2, .int v2_L10), (0, .ref b0), (1, .ref b1)]) hx hb dL_isTrue_279 hl (k := 3) rfl rfl (by decide) rfl (fun ls hl => ?_)
                            refine lv_goto (tgt := 154) hx hb dL_isTrue_282 (by decide) ?_
                            exact ih154 _ _ h _ (lv_sub hl [0, 1, 4, 5, 6, 7, 8] rfl)
                        · have h := if_t h c_251
                          refine lv_aload_n hx hb dL_isTrue_254 rfl (lv_at hl 7 rfl) ?_
                          refine lv_iconst (v := (5 : Int32)) hx hb dL_isTrue_255 rfl ?_
                          obtain ⟨r_256, q_256, h⟩ := ob1_e h
                          refine cRV (wc := [(b0, .inr (5, [.ref b0_f, .ref b0_m, .ref b0_s, .ref b0_h, .ref b0_slots, .ref b0_p]))] ++ wX0 ck b0_f b0_f_kinds b0_f_owners b0_f_cards p0_f_players p0_f_told p0_f_kinds p0_f_owners p0_f_cards ++ wX2 ck b0_m b0_m_y b0_m_y_sets b0_m_y_coming b0_m_y_origins b0_m_n b0_m_n_sets b0_m_n_coming b0_m_n_origins p0_m_y_sets p0_m_y_coming p0_m_y_origins p0_m_y_round p0_m_n_sets p0_m_n_coming p0_m_n_origins p0_m_n_round p0_m_rounds ++ wX1 ck b0_h b0_hs p0_h_ad p0_h_len p0_h_st ++ wX3 ck b0_p b0_p_text p0_p_text p0_p_length) ⟨hx, hb, hml, hown, hts⟩ hK hP [0, 1, 2, 3, 4, 5, 6, 7, 8, 9, 10, 11, 12, 13, 14, 15, 16, 17, 18, 19, 20, 21, 22, 23, 24, 25, 26, 27, 28, 29, 30, 31, 32, 33, 34, 35, 36, 37, 38, 39, 40, 41] rfl (c_X5_count l dC dI ck b0 b0_f b0_f_kinds b0_f_owners b0_f_cards b0_m b0_m_y b0_m_y_sets b0_m_y_coming b0_m_y_origins b0_m_n b0_m_n_sets b0_m_n_coming b0_m_n_origins b0_s b0_h b0_hs b0_slots b0_p b0_p_text b0_f b0_f_kinds b0_f_owners b0_f_cards b0_m b0_m_y b0_m_y_sets b0_m_y_coming b0_m_y_origins b0_m_n b0_m_n_sets b0_m_n_coming b0_m_n_origins b0_h b0_hs b0_p b0_p_text p0_f_players p0_f_told p0_f_kinds p0_f_owners p0_f_cards p0_m_y_sets p0_m_y_coming p0_m_y_origins p0_m_y_round p0_m_n_sets p0_m_n_coming p0_m_n_origins p0_m_n_round p0_m_rounds p0_h_ad p0_h_len p0_h_st p0_p_text p0_p_length (5 : Int32) r_256 q_256) (cwV 1 hts gL_isTrue_X5_count rfl rfl rfl (by decide +kernel) ⟨Nat.le_of_ble_eq_true rfl, Nat.le_of_ble_eq_true rfl⟩) 0 rfl rfl rfl hl.1 rfl (Nat.le_of_ble_eq_true rfl) dL_isTrue_256 ⟨Nat.zero_le _, Nat.zero_le _⟩ ?_
                          refine lv_if_le (tgt := 264) hx hb dL_isTrue_259 (by decide) (fun c_259 => ?_) (fun c_259 => ?_)
                          · have h := if_t h c_259
                            refine lv_iload hx hb dL_isTrue_264 (lv_at hl 3 rfl) ?_
                            refine lv_iload hx hb dL_isTrue_266 (lv_at hl 0 rfl) ?_
                            refine lv_if_lt (tgt := 275) hx hb dL_isTrue_268 (by decide) (fun c_268 => ?_) (fun c_268 => ?_)
                            · have h := if_t h c_268
                              refine lv_iconst (v := (0 : Int32)) hx hb dL_isTrue_275 rfl ?_
                              refine lv_iadd hx hb dL_isTrue_276 ?_
                              refine lv_topi (fun v5_277 e_277 => ?_)
                              have h := lt'_e e_277 h
                              refine lv_istore (lv' := [(5, .int v5_277), (8, .int r_173), (7, .int r_164), (6, .int v6_L154), (4, .int v4_L10), (3, .int v3_L10), (2, .int v2_L10), (0, .ref b0), (1, .ref b1)]) hx hb dL_isTrue_277 hl (by decide) rfl (fun ls hl => ?_)
                              refine lv_iinc (v := (v6_L154 + (1 : Int32))) (lv' := [(6, .int (v6_L154 + (1 : Int32))), (5, .int v5_277), (8, .int r_173), (7, .int r_164), (4, .int v4_L10), (3, .int v3_L10), (2, .int v2_L10), (0, .ref b0), (1, .ref b1)]) hx hb dL_isTrue_279 hl (k := 3) rfl rfl (by decide) rfl (fun ls hl => ?_)
                              refine lv_goto (tgt := 154) hx hb dL_isTrue_282 (by decide) ?_
                              exact ih154 _ _ h _ (lv_sub hl [0, 1, 4, 5, 6, 7, 8] rfl)
                            · have h := if_f h c_268
                              refine lv_iconst (v := (1 : Int32)) hx hb dL_isTrue_271 rfl ?_
                              refine lv_goto (tgt := 276) hx hb dL_isTrue_272 (by decide) ?_
                              refine lv_iadd hx hb dL_isTrue_276 ?_
                              refine lv_topi (fun v5_277 e_277 => ?_)
                              have h := lt'_e e_277 h
                              refine lv_istore (lv' := [(5, .int v5_277), (8, .int r_173), (7, .int r_164), (6, .int v6_L154), (4, .int v4_L10), (3, .int v3_L10), (2, .int v2_L10), (0, .ref b0), (1, .ref b1)]) hx hb dL_isTrue_277 hl (by decide) rfl (fun ls hl => ?_)
                              refine lv_iinc (v := (v6_L154 + (1 : Int32))) (lv' := [(6, .int (v6_L154 + (1 : Int32))), (5, .int v5_277), (8, .int r_173), (7, .int r_164), (4, .int v4_L10), (3, .int v3_L10), (2, .int v2_L10), (0, .ref b0), (1, .ref b1)]) hx hb dL_isTrue_279 hl (k := 3) rfl rfl (by decide) rfl (fun ls hl => ?_)
                              refine lv_goto (tgt := 154) hx hb dL_isTrue_282 (by decide) ?_
                              exact ih154 _ _ h _ (lv_sub hl [0, 1, 4, 5, 6, 7, 8] rfl)
                          · have h := if_f h c_259
                            refine lv_iconst (v := (0 : Int32)) hx hb dL_isTrue_262 rfl ?_
                            cases h
                            exact eRz hx hb hr hlk rfl rfl dL_isTrue_263
                    refine lv_if_lt (tgt := 241) hx hb dL_isTrue_234 (by decide) (fun c_234 => ?_) (fun c_234 => ?_)
                    · have h := if_t h c_234
                      refine lv_iconst (v := (0 : Int32)) hx hb dL_isTrue_241 rfl ?_
                      exact hJ242 _ _ h _ (lv_sub hl [0, 1, 2, 3, 4, 5, 6, 7, 8] rfl)
                    · have h := if_f h c_234
                      refine lv_iconst (v := (1 : Int32)) hx hb dL_isTrue_237 rfl ?_
                      refine lv_goto (tgt := 242) hx hb dL_isTrue_238 (by decide) ?_
                      exact hJ242 _ _ h _ (lv_sub hl [0, 1, 2, 3, 4, 5, 6, 7, 8] rfl)
                  refine lv_icmp_ne (tgt := 231) hx hb dL_isTrue_224 (by decide) (fun c_224 => ?_) (fun c_224 => ?_)
                  · have h := if_f h c_224
                    refine lv_iconst (v := (0 : Int32)) hx hb dL_isTrue_231 rfl ?_
                    exact hJ232 _ h _ (lv_sub hl [0, 1, 2, 3, 4, 5, 6, 7, 8] rfl)
                  · have h := if_t h c_224
                    refine lv_iconst (v := (1 : Int32)) hx hb dL_isTrue_227 rfl ?_
                    refine lv_goto (tgt := 232) hx hb dL_isTrue_228 (by decide) ?_
                    exact hJ232 _ h _ (lv_sub hl [0, 1, 2, 3, 4, 5, 6, 7, 8] rfl)
                refine lv_if_lt (tgt := 218) hx hb dL_isTrue_206 (by decide) (fun c_206 => ?_) (fun c_206 => ?_)
                · have h := if_t h c_206
                  exact hJ218 h _ (lv_sub hl [1, 2, 3, 4, 5, 6, 7, 8, 9] rfl)
                · have h := if_f h c_206
                  refine lv_iconst (v := (1 : Int32)) hx hb dL_isTrue_209 rfl ?_
                  refine lv_iload hx hb dL_isTrue_210 (lv_at hl 1 rfl) ?_
                  refine lv_ishl hx hb dL_isTrue_212 ?_
                  refine lv_iload hx hb dL_isTrue_213 (lv_at hl 0 rfl) ?_
                  refine lv_icmp_ne (tgt := 262) hx hb dL_isTrue_215 (by decide) (fun c_215 => ?_) (fun c_215 => ?_)
                  · have h := if_f h c_215
                    refine lv_iconst (v := (0 : Int32)) hx hb dL_isTrue_262 rfl ?_
                    cases h
                    exact eRz hx hb hr hlk rfl rfl dL_isTrue_263
                  · have h := if_t h c_215
                    exact hJ218 h _ (lv_sub hl [1, 2, 3, 4, 5, 6, 7, 8, 9] rfl)
        exact hL154 _ _ _ h _ (lv_sub hl [0, 1, 2, 3, 4, 5, 6] rfl)
      · have h := if_f h c_14
        refine lv_aload_n hx hb dL_isTrue_17 rfl (lv_at hl 5 rfl) ?_
        refine lv_iload hx hb dL_isTrue_18 (lv_at hl 0 rfl) ?_
        obtain ⟨r_20, q_20, h⟩ := ob1_e h
        refine cRS (wc := [(b1, .inl (ck 0, 19, .inl p1_row))]) ⟨hx, hb, hml, hown, hts⟩ hK hP [42] rfl (c_L_isOwner l dC dI ck b1 p1_row v5_L10 r_20 q_20) (va_cwS 2 hts gL_isTrue_L_isOwner rfl rfl rfl (by decide +kernel) ⟨Nat.le_of_ble_eq_true rfl, Nat.le_of_ble_eq_true rfl⟩) rfl hl.1 rfl (Nat.le_of_ble_eq_true rfl) dL_isTrue_20 ⟨Nat.zero_le _, Nat.zero_le _⟩ ?_
        refine lv_if_eq (tgt := 142) hx hb dL_isTrue_23 (by decide) (fun c_23 => ?_) (fun c_23 => ?_)
        · have h := if_t h c_23
          refine lv_iinc (v := (v5_L10 + (1 : Int32))) (lv' := [(5, .int (v5_L10 + (1 : Int32))), (4, .int v4_L10), (3, .int v3_L10), (2, .int v2_L10), (0, .ref b0), (1, .ref b1)]) hx hb dL_isTrue_142 hl (k := 0) rfl rfl (by decide) rfl (fun ls hl => ?_)
          refine lv_goto (tgt := 10) hx hb dL_isTrue_145 (by decide) ?_
          exact ih10 _ _ _ _ h _ (lv_sub hl [0, 1, 2, 3, 4, 5] rfl)
        · have h := if_f h c_23
          refine lv_aload_n hx hb dL_isTrue_26 rfl (lv_at hl 5 rfl) ?_
          refine lv_iload hx hb dL_isTrue_27 (lv_at hl 0 rfl) ?_
          obtain ⟨r_29, q_29, h⟩ := ob1_e h
          refine cRS (wc := [(b1, .inl (ck 0, 19, .inl p1_row))]) ⟨hx, hb, hml, hown, hts⟩ hK hP [42] rfl (c_L_held l dC dI ck b1 p1_row v5_L10 r_29 q_29) (va_cwS 2 hts gL_isTrue_L_held rfl rfl rfl (by decide +kernel) ⟨Nat.le_of_ble_eq_true rfl, Nat.le_of_ble_eq_true rfl⟩) rfl hl.1 rfl (Nat.le_of_ble_eq_true rfl) dL_isTrue_29 ⟨Nat.zero_le _, Nat.zero_le _⟩ ?_
          refine lv_istore (lv' := [(6, .int r_29), (5, .int v5_L10), (4, .int v4_L10), (3, .int v3_L10), (2, .int v2_L10), (0, .ref b0), (1, .ref b1)]) hx hb dL_isTrue_32 hl (by decide) rfl (fun ls hl => ?_)
          refine lv_aload_n hx hb dL_isTrue_34 rfl (lv_at hl 5 rfl) ?_
          refine lv_iload hx hb dL_isTrue_35 (lv_at hl 1 rfl) ?_
          refine lv_iconst (v := (1 : Int32)) hx hb dL_isTrue_37 rfl ?_
          obtain ⟨r_38, q_38, h⟩ := ob1_e h
          refine cRV (wc := [(b0, .inr (5, [.ref b0_f, .ref b0_m, .ref b0_s, .ref b0_h, .ref b0_slots, .ref b0_p]))] ++ wX0 ck b0_f b0_f_kinds b0_f_owners b0_f_cards p0_f_players p0_f_told p0_f_kinds p0_f_owners p0_f_cards ++ wX2 ck b0_m b0_m_y b0_m_y_sets b0_m_y_coming b0_m_y_origins b0_m_n b0_m_n_sets b0_m_n_coming b0_m_n_origins p0_m_y_sets p0_m_y_coming p0_m_y_origins p0_m_y_round p0_m_n_sets p0_m_n_coming p0_m_n_origins p0_m_n_round p0_m_rounds) ⟨hx, hb, hml, hown, hts⟩ hK hP [0, 1, 2, 3, 4, 5, 6, 7, 8, 9, 10, 11, 12, 13] rfl (c_X5_ofOwner l dC dI ck b0 b0_f b0_f_kinds b0_f_owners b0_f_cards b0_m b0_m_y b0_m_y_sets b0_m_y_coming b0_m_y_origins b0_m_n b0_m_n_sets b0_m_n_coming b0_m_n_origins b0_s b0_h b0_slots b0_p b0_f b0_f_kinds b0_f_owners b0_f_cards b0_m b0_m_y b0_m_y_sets b0_m_y_coming b0_m_y_origins b0_m_n b0_m_n_sets b0_m_n_coming b0_m_n_origins p0_f_players p0_f_told p0_f_kinds p0_f_owners p0_f_cards p0_m_y_sets p0_m_y_coming p0_m_y_origins p0_m_y_round p0_m_n_sets p0_m_n_coming p0_m_n_origins p0_m_n_round p0_m_rounds v5_L10 (1 : Int32) r_38 q_38) (cwV 2 hts gL_isTrue_X5_ofOwner rfl rfl rfl (by decide +kernel) ⟨Nat.le_of_ble_eq_true rfl, Nat.le_of_ble_eq_true rfl⟩) 0 rfl rfl rfl hl.1 rfl (Nat.le_of_ble_eq_true rfl) dL_isTrue_38 ⟨Nat.zero_le _, Nat.zero_le _⟩ ?_
          refine lv_istore (lv' := [(7, .int r_38), (6, .int r_29), (5, .int v5_L10), (4, .int v4_L10), (3, .int v3_L10), (2, .int v2_L10), (0, .ref b0), (1, .ref b1)]) hx hb dL_isTrue_41 hl (by decide) rfl (fun ls hl => ?_)
          refine lv_aload_n hx hb dL_isTrue_43 rfl (lv_at hl 6 rfl) ?_
          refine lv_iload hx hb dL_isTrue_44 (lv_at hl 2 rfl) ?_
          refine lv_iconst (v := (2 : Int32)) hx hb dL_isTrue_46 rfl ?_
          obtain ⟨r_47, q_47, h⟩ := ob1_e h
          refine cRV (wc := [(b0, .inr (5, [.ref b0_f, .ref b0_m, .ref b0_s, .ref b0_h, .ref b0_slots, .ref b0_p]))] ++ wX0 ck b0_f b0_f_kinds b0_f_owners b0_f_cards p0_f_players p0_f_told p0_f_kinds p0_f_owners p0_f_cards ++ wX2 ck b0_m b0_m_y b0_m_y_sets b0_m_y_coming b0_m_y_origins b0_m_n b0_m_n_sets b0_m_n_coming b0_m_n_origins p0_m_y_sets p0_m_y_coming p0_m_y_origins p0_m_y_round p0_m_n_sets p0_m_n_coming p0_m_n_origins p0_m_n_round p0_m_rounds) ⟨hx, hb, hml, hown, hts⟩ hK hP [0, 1, 2, 3, 4, 5, 6, 7, 8, 9, 10, 11, 12, 13] rfl (c_X5_ofOwner l dC dI ck b0 b0_f b0_f_kinds b0_f_owners b0_f_cards b0_m b0_m_y b0_m_y_sets b0_m_y_coming b0_m_y_origins b0_m_n b0_m_n_sets b0_m_n_coming b0_m_n_origins b0_s b0_h b0_slots b0_p b0_f b0_f_kinds b0_f_owners b0_f_cards b0_m b0_m_y b0_m_y_sets b0_m_y_coming b0_m_y_origins b0_m_n b0_m_n_sets b0_m_n_coming b0_m_n_origins p0_f_players p0_f_told p0_f_kinds p0_f_owners p0_f_cards p0_m_y_sets p0_m_y_coming p0_m_y_origins p0_m_y_round p0_m_n_sets p0_m_n_coming p0_m_n_origins p0_m_n_round p0_m_rounds v5_L10 (2 : Int32) r_47 q_47) (cwV 2 hts gL_isTrue_X5_ofOwner rfl rfl rfl (by decide +kernel) ⟨Nat.le_of_ble_eq_true rfl, Nat.le_of_ble_eq_true rfl⟩) 0 rfl rfl rfl hl.1 rfl (Nat.le_of_ble_eq_true rfl) dL_isTrue_47 ⟨Nat.zero_le _, Nat.zero_le _⟩ ?_
          refine lv_istore (lv' := [(8, .int r_47), (7, .int r_38), (6, .int r_29), (5, .int v5_L10), (4, .int v4_L10), (3, .int v3_L10), (2, .int v2_L10), (0, .ref b0), (1, .ref b1)]) hx hb dL_isTrue_50 hl (by decide) rfl (fun ls hl => ?_)
          refine lv_iload hx hb dL_isTrue_52 (lv_at hl 1 rfl) ?_
          refine lv_iload hx hb dL_isTrue_54 (lv_at hl 2 rfl) ?_
          refine lv_iconst (v := (-1 : Int32)) hx hb dL_isTrue_56 rfl ?_
          refine lv_ixor hx hb dL_isTrue_57 ?_
          refine lv_iand hx hb dL_isTrue_58 ?_
          refine lv_if_ne (tgt := 105) hx hb dL_isTrue_59 (by decide) (fun c_59 => ?_) (fun c_59 => ?_)
          · have h := if_f h c_59
            refine lv_iconst (v := (0 : Int32)) hx hb dL_isTrue_105 rfl ?_
            cases h
            exact eRz hx hb hr hlk rfl rfl dL_isTrue_106
          · have h := if_t h c_59
            refine lv_iload hx hb dL_isTrue_62 (lv_at hl 0 rfl) ?_
            refine lv_iload hx hb dL_isTrue_64 (lv_at hl 2 rfl) ?_
            refine lv_iand hx hb dL_isTrue_66 ?_
            refine lv_if_ne (tgt := 105) hx hb dL_isTrue_67 (by decide) (fun c_67 => ?_) (fun c_67 => ?_)
            · have h := if_f h c_67
              refine lv_iconst (v := (0 : Int32)) hx hb dL_isTrue_105 rfl ?_
              cases h
              exact eRz hx hb hr hlk rfl rfl dL_isTrue_106
            · have h := if_t h c_67
              refine lv_aload_n hx hb dL_isTrue_70 rfl (lv_at hl 7 rfl) ?_
              refine lv_iload hx hb dL_isTrue_71 (lv_at hl 3 rfl) ?_
              refine lv_iconst (v := (0 : Int32)) hx hb dL_isTrue_73 rfl ?_
              obtain ⟨r_74, q_74, h⟩ := ob1_e h
              refine cRV (wc := [(b0, .inr (5, [.ref b0_f, .ref b0_m, .ref b0_s, .ref b0_h, .ref b0_slots, .ref b0_p]))] ++ wX0 ck b0_f b0_f_kinds b0_f_owners b0_f_cards p0_f_players p0_f_told p0_f_kinds p0_f_owners p0_f_cards ++ wX2 ck b0_m b0_m_y b0_m_y_sets b0_m_y_coming b0_m_y_origins b0_m_n b0_m_n_sets b0_m_n_coming b0_m_n_origins p0_m_y_sets p0_m_y_coming p0_m_y_origins p0_m_y_round p0_m_n_sets p0_m_n_coming p0_m_n_origins p0_m_n_round p0_m_rounds) ⟨hx, hb, hml, hown, hts⟩ hK hP [0, 1, 2, 3, 4, 5, 6, 7, 8, 9, 10, 11, 12, 13] rfl (c_X5_ofOwner l dC dI ck b0 b0_f b0_f_kinds b0_f_owners b0_f_cards b0_m b0_m_y b0_m_y_sets b0_m_y_coming b0_m_y_origins b0_m_n b0_m_n_sets b0_m_n_coming b0_m_n_origins b0_s b0_h b0_slots b0_p b0_f b0_f_kinds b0_f_owners b0_f_cards b0_m b0_m_y b0_m_y_sets b0_m_y_coming b0_m_y_origins b0_m_n b0_m_n_sets b0_m_n_coming b0_m_n_origins p0_f_players p0_f_told p0_f_kinds p0_f_owners p0_f_cards p0_m_y_sets p0_m_y_coming p0_m_y_origins p0_m_y_round p0_m_n_sets p0_m_n_coming p0_m_n_origins p0_m_n_round p0_m_rounds v5_L10 (0 : Int32) r_74 q_74) (cwV 2 hts gL_isTrue_X5_ofOwner rfl rfl rfl (by decide +kernel) ⟨Nat.le_of_ble_eq_true rfl, Nat.le_of_ble_eq_true rfl⟩) 0 rfl rfl rfl hl.1 rfl (Nat.le_of_ble_eq_true rfl) dL_isTrue_74 ⟨Nat.zero_le _, Nat.zero_le _⟩ ?_
              refine lv_iload hx hb dL_isTrue_77 (lv_at hl 2 rfl) ?_
              obtain ⟨r_79, q_79, h⟩ := ob1_e h
              refine cRS (wc := []) ⟨hx, hb, hml, hown, hts⟩ hK hP [] rfl (c_L_size l dC dI ck r_29 r_79 q_79) (va_cwS 1 hts gL_isTrue_L_size rfl rfl rfl (by decide +kernel) ⟨Nat.le_of_ble_eq_true rfl, Nat.le_of_ble_eq_true rfl⟩) rfl hl.1 rfl (Nat.le_of_ble_eq_true rfl) dL_isTrue_79 ⟨Nat.zero_le _, Nat.zero_le _⟩ ?_
              refine lv_icmp_ne (tgt := 105) hx hb dL_isTrue_82 (by decide) (fun c_82 => ?_) (fun c_82 => ?_)
              · have h := if_f h c_82
                refine lv_iconst (v := (0 : Int32)) hx hb dL_isTrue_105 rfl ?_
                cases h
                exact eRz hx hb hr hlk rfl rfl dL_isTrue_106
              · have h := if_t h c_82
                refine lv_aload_n hx hb dL_isTrue_85 rfl (lv_at hl 7 rfl) ?_
                refine lv_iload hx hb dL_isTrue_86 (lv_at hl 3 rfl) ?_
                refine lv_iconst (v := (3 : Int32)) hx hb dL_isTrue_88 rfl ?_
                obtain ⟨r_89, q_89, h⟩ := ob1_e h
                refine cRV (wc := [(b0, .inr (5, [.ref b0_f, .ref b0_m, .ref b0_s, .ref b0_h, .ref b0_slots, .ref b0_p]))] ++ wX0 ck b0_f b0_f_kinds b0_f_owners b0_f_cards p0_f_players p0_f_told p0_f_kinds p0_f_owners p0_f_cards ++ wX2 ck b0_m b0_m_y b0_m_y_sets b0_m_y_coming b0_m_y_origins b0_m_n b0_m_n_sets b0_m_n_coming b0_m_n_origins p0_m_y_sets p0_m_y_coming p0_m_y_origins p0_m_y_round p0_m_n_sets p0_m_n_coming p0_m_n_origins p0_m_n_round p0_m_rounds) ⟨hx, hb, hml, hown, hts⟩ hK hP [0, 1, 2, 3, 4, 5, 6, 7, 8, 9, 10, 11, 12, 13] rfl (c_X5_ofOwner l dC dI ck b0 b0_f b0_f_kinds b0_f_owners b0_f_cards b0_m b0_m_y b0_m_y_sets b0_m_y_coming b0_m_y_origins b0_m_n b0_m_n_sets b0_m_n_coming b0_m_n_origins b0_s b0_h b0_slots b0_p b0_f b0_f_kinds b0_f_owners b0_f_cards b0_m b0_m_y b0_m_y_sets b0_m_y_coming b0_m_y_origins b0_m_n b0_m_n_sets b0_m_n_coming b0_m_n_origins p0_f_players p0_f_told p0_f_kinds p0_f_owners p0_f_cards p0_m_y_sets p0_m_y_coming p0_m_y_origins p0_m_y_round p0_m_n_sets p0_m_n_coming p0_m_n_origins p0_m_n_round p0_m_rounds v5_L10 (3 : Int32) r_89 q_89) (cwV 2 hts gL_isTrue_X5_ofOwner rfl rfl rfl (by decide +kernel) ⟨Nat.le_of_ble_eq_true rfl, Nat.le_of_ble_eq_true rfl⟩) 0 rfl rfl rfl hl.1 rfl (Nat.le_of_ble_eq_true rfl) dL_isTrue_89 ⟨Nat.zero_le _, Nat.zero_le _⟩ ?_
                refine lv_ldc hx hb hown (hts (.constant RL 36 (262143)) (List.mem_of_getElem? (i := 1) rfl)) dL_isTrue_92 ?_
                refine lv_iload hx hb dL_isTrue_94 (lv_at hl 1 rfl) ?_
                refine lv_iload hx hb dL_isTrue_96 (lv_at hl 0 rfl) ?_
                refine lv_ior hx hb dL_isTrue_98 ?_
                refine lv_iconst (v := (-1 : Int32)) hx hb dL_isTrue_99 rfl ?_
                refine lv_ixor hx hb dL_isTrue_100 ?_
                refine lv_iand hx hb dL_isTrue_101 ?_
                refine lv_icmp_eq (tgt := 107) hx hb dL_isTrue_102 (by decide) (fun c_102 => ?_) (fun c_102 => ?_)
                · have h := if_t h c_102
                  refine lv_iload_n hx hb dL_isTrue_107 rfl (lv_at hl 6 rfl) ?_
                  refine lv_iload hx hb dL_isTrue_108 (lv_at hl 1 rfl) ?_
                  obtain ⟨r_110, q_110, h⟩ := ob1_e h
                  refine cRS (wc := []) ⟨hx, hb, hml, hown, hts⟩ hK hP [] rfl (c_L_size l dC dI ck r_38 r_110 q_110) (va_cwS 1 hts gL_isTrue_L_size rfl rfl rfl (by decide +kernel) ⟨Nat.le_of_ble_eq_true rfl, Nat.le_of_ble_eq_true rfl⟩) rfl hl.1 rfl (Nat.le_of_ble_eq_true rfl) dL_isTrue_110 ⟨Nat.zero_le _, Nat.zero_le _⟩ ?_
                  refine lv_iadd hx hb dL_isTrue_113 ?_
                  refine lv_topi (fun v2_114 e_114 => ?_)
                  have h := lt'_e e_114 h
                  refine lv_istore_n (lv' := [(2, .int v2_114), (8, .int r_47), (7, .int r_38), (6, .int r_29), (5, .int v5_L10), (4, .int v4_L10), (3, .int v3_L10), (0, .ref b0), (1, .ref b1)]) hx hb dL_isTrue_114 rfl hl (by decide) rfl (fun ls hl => ?_)
                  refine lv_iload_n hx hb dL_isTrue_115 rfl (lv_at hl 6 rfl) ?_
                  refine lv_iload hx hb dL_isTrue_116 (lv_at hl 1 rfl) ?_
                  obtain ⟨r_118, q_118, h⟩ := ob1_e h
                  refine cRS (wc := []) ⟨hx, hb, hml, hown, hts⟩ hK hP [] rfl (c_L_size l dC dI ck r_47 r_118 q_118) (va_cwS 1 hts gL_isTrue_L_size rfl rfl rfl (by decide +kernel) ⟨Nat.le_of_ble_eq_true rfl, Nat.le_of_ble_eq_true rfl⟩) rfl hl.1 rfl (Nat.le_of_ble_eq_true rfl) dL_isTrue_118 ⟨Nat.zero_le _, Nat.zero_le _⟩ ?_
                  refine lv_iadd hx hb dL_isTrue_121 ?_
                  refine lv_topi (fun v3_122 e_122 => ?_)
                  have h := lt'_e e_122 h
                  refine lv_istore_n (lv' := [(3, .int v3_122), (2, .int v2_114), (8, .int r_47), (7, .int r_38), (6, .int r_29), (5, .int v5_L10), (4, .int v4_L10), (0, .ref b0), (1, .ref b1)]) hx hb dL_isTrue_122 rfl hl (by decide) rfl (fun ls hl => ?_)
                  refine lv_iload hx hb dL_isTrue_123 (lv_at hl 6 rfl) ?_
                  refine lv_bipush (v := (18 : Int32)) hx hb dL_isTrue_125 rfl ?_
                  refine lv_iload hx hb dL_isTrue_127 (lv_at hl 3 rfl) ?_
                  obtain ⟨r_129, q_129, h⟩ := ob1_e h
                  refine cRS (wc := []) ⟨hx, hb, hml, hown, hts⟩ hK hP [] rfl (c_L_size l dC dI ck r_38 r_129 q_129) (va_cwS 1 hts gL_isTrue_L_size rfl rfl rfl (by decide +kernel) ⟨Nat.le_of_ble_eq_true rfl, Nat.le_of_ble_eq_true rfl⟩) rfl hl.1 rfl (Nat.le_of_ble_eq_true rfl) dL_isTrue_129 ⟨Nat.zero_le _, Nat.zero_le _⟩ ?_
                  refine lv_isub hx hb dL_isTrue_132 ?_
                  refine lv_iload hx hb dL_isTrue_133 (lv_at hl 2 rfl) ?_
                  obtain ⟨r_135, q_135, h⟩ := ob1_e h
                  refine cRS (wc := []) ⟨hx, hb, hml, hown, hts⟩ hK hP [] rfl (c_L_size l dC dI ck r_47 r_135 q_135) (va_cwS 1 hts gL_isTrue_L_size rfl rfl rfl (by decide +kernel) ⟨Nat.le_of_ble_eq_true rfl, Nat.le_of_ble_eq_true rfl⟩) rfl hl.1 rfl (Nat.le_of_ble_eq_true rfl) dL_isTrue_135 ⟨Nat.zero_le _, Nat.zero_le _⟩ ?_
                  refine lv_isub hx hb dL_isTrue_138 ?_
                  refine lv_iadd hx hb dL_isTrue_139 ?_
                  refine lv_topi (fun v4_140 e_140 => ?_)
                  have h := lt'_e e_140 h
                  refine lv_istore (lv' := [(4, .int v4_140), (3, .int v3_122), (2, .int v2_114), (8, .int r_47), (7, .int r_38), (6, .int r_29), (5, .int v5_L10), (0, .ref b0), (1, .ref b1)]) hx hb dL_isTrue_140 hl (by decide) rfl (fun ls hl => ?_)
                  refine lv_iinc (v := (v5_L10 + (1 : Int32))) (lv' := [(5, .int (v5_L10 + (1 : Int32))), (4, .int v4_140), (3, .int v3_122), (2, .int v2_114), (8, .int r_47), (7, .int r_38), (6, .int r_29), (0, .ref b0), (1, .ref b1)]) hx hb dL_isTrue_142 hl (k := 6) rfl rfl (by decide) rfl (fun ls hl => ?_)
                  refine lv_goto (tgt := 10) hx hb dL_isTrue_145 (by decide) ?_
                  exact ih10 _ _ _ _ h _ (lv_sub hl [0, 1, 2, 3, 7, 8] rfl)
                · have h := if_f h c_102
                  refine lv_iconst (v := (0 : Int32)) hx hb dL_isTrue_105 rfl ?_
                  cases h
                  exact eRz hx hb hr hlk rfl rfl dL_isTrue_106
  exact hL10 _ _ _ _ _ h _ (lv_sub hl [0, 1, 2, 3, 4, 5] rfl)
noncomputable def f_L_answer (p0_row : Nat → Int32) (v1 : Int32) (v2 : Int32) (v3 : Int32) (v4 : Int32) : Option (Int32) :=
  gd v2 19 (if (p0_row v2.toNatClampNeg) = v1 then (some (1 : Int32)) else (gd ((6 : Int32) + v3) 19 (if (p0_row ((6 : Int32) + v3).toNatClampNeg) = v1 then (some (1 : Int32)) else (gd ((12 : Int32) + v4) 19 (if (p0_row ((12 : Int32) + v4).toNatClampNeg) = v1 then (some (1 : Int32)) else (some (0 : Int32)))))))
set_option maxHeartbeats 4000000 in
set_option maxRecDepth 100000 in
theorem c_L_answer (l : Launch) (dC : Nat → ClassId) (dI : Nat → Nat → Nat) (ck : Nat → ClassId) (b0 : Nat) (p0_row : Nat → Int32) (v1 : Int32) (v2 : Int32) (v3 : Int32) (v4 : Int32) (o0 : Int32) (h : f_L_answer p0_row v1 v2 v3 v4 = some o0) : RD l yL_answer wsL_answer ({ frames := 0, cells := 0, slots := 0, locals := 0 }) [.ref b0, .int v1, .int v2, .int v3, .int v4] (dC, dI) ck ([(b0, .inl (ck 0, 19, .inl p0_row))]) o0 := by
  refine RD.ofW (cc := cL_answer) (maxL := 5) (ret := (some .int)) (by decide +kernel) rfl (Nat.le_of_ble_eq_true rfl) ?_
  intro p e s m below meth c hx hb hr hml hts hown hlk hK hP ls hl
  have hown : s.vm.findClass RL = some m.cls := hown
  have hl : lv_has ls 5 [(0, .ref b0), (1, .int v1), (2, .int v2), (3, .int v3), (4, .int v4)] := hl
  unfold f_L_answer at h
  refine lv_aload_n hx hb dL_answer_0 rfl (lv_at hl 0 rfl) ?_
  refine lv_iload_n hx hb dL_answer_1 rfl (lv_at hl 2 rfl) ?_
  obtain ⟨g_2, h⟩ := gd_e h
  refine va_iald hx hb hK.1 hP 0 0 rfl rfl g_2 dL_answer_2 ?_
  refine lv_iload_n hx hb dL_answer_3 rfl (lv_at hl 1 rfl) ?_
  refine lv_icmp_eq (tgt := 28) hx hb dL_answer_4 (by decide) (fun c_4 => ?_) (fun c_4 => ?_)
  · have h := if_t h c_4
    refine lv_iconst (v := (1 : Int32)) hx hb dL_answer_28 rfl ?_
    refine lv_goto (tgt := 33) hx hb dL_answer_29 (by decide) ?_
    cases h
    exact eRi hx hb hr hlk rfl dL_answer_33
  · have h := if_f h c_4
    refine lv_aload_n hx hb dL_answer_7 rfl (lv_at hl 0 rfl) ?_
    refine lv_bipush (v := (6 : Int32)) hx hb dL_answer_8 rfl ?_
    refine lv_iload_n hx hb dL_answer_10 rfl (lv_at hl 3 rfl) ?_
    refine lv_iadd hx hb dL_answer_11 ?_
    obtain ⟨g_12, h⟩ := gd_e h
    refine va_iald hx hb hK.1 hP 0 0 rfl rfl g_12 dL_answer_12 ?_
    refine lv_iload_n hx hb dL_answer_13 rfl (lv_at hl 1 rfl) ?_
    refine lv_icmp_eq (tgt := 28) hx hb dL_answer_14 (by decide) (fun c_14 => ?_) (fun c_14 => ?_)
    · have h := if_t h c_14
      refine lv_iconst (v := (1 : Int32)) hx hb dL_answer_28 rfl ?_
      refine lv_goto (tgt := 33) hx hb dL_answer_29 (by decide) ?_
      cases h
      exact eRi hx hb hr hlk rfl dL_answer_33
    · have h := if_f h c_14
      refine lv_aload_n hx hb dL_answer_17 rfl (lv_at hl 0 rfl) ?_
      refine lv_bipush (v := (12 : Int32)) hx hb dL_answer_18 rfl ?_
      refine lv_iload hx hb dL_answer_20 (lv_at hl 4 rfl) ?_
      refine lv_iadd hx hb dL_answer_22 ?_
      obtain ⟨g_23, h⟩ := gd_e h
      refine va_iald hx hb hK.1 hP 0 0 rfl rfl g_23 dL_answer_23 ?_
      refine lv_iload_n hx hb dL_answer_24 rfl (lv_at hl 1 rfl) ?_
      refine lv_icmp_ne (tgt := 32) hx hb dL_answer_25 (by decide) (fun c_25 => ?_) (fun c_25 => ?_)
      · have h := if_f h c_25
        refine lv_iconst (v := (0 : Int32)) hx hb dL_answer_32 rfl ?_
        cases h
        exact eRi hx hb hr hlk rfl dL_answer_33
      · have h := if_t h c_25
        refine lv_iconst (v := (1 : Int32)) hx hb dL_answer_28 rfl ?_
        refine lv_goto (tgt := 33) hx hb dL_answer_29 (by decide) ?_
        cases h
        exact eRi hx hb hr hlk rfl dL_answer_33
noncomputable def f_L_asks_J79 (p0_f_players : Int32) (p0_m_y_sets : Nat → Int32) (p0_m_y_coming : Nat → Int32) (p0_m_y_origins : Nat → Int32) (p0_m_y_round : Int32) (p0_m_n_sets : Nat → Int32) (p0_m_n_coming : Nat → Int32) (p0_m_n_origins : Nat → Int32) (p0_m_n_round : Int32) (p0_m_rounds : Int32) (p0_h_ad : Nat → Nat × Nat × Nat × Nat) (p0_h_len : Int32) (p0_h_st : Nat → Int32 × Int32 × (Nat → Int32) × (Nat → Int32) × (Nat → Int32)) (p0_p_length : Int32) (v2 : Int32) (v3 : Int32) (v4 : Int32) (v5 : Int32) (r_7 : Int32) (r_21 : Int32) (p0_f_told_37 : Int32) (p0_f_kinds_37 : Nat → Int32) (p0_f_owners_37 : Nat → Int32) (p0_f_cards_37 : Nat → Int32) (p0_s_y_sets_37 : Nat → Int32) (p0_s_y_coming_37 : Nat → Int32) (p0_s_y_origins_37 : Nat → Int32) (p0_s_y_round_37 : Int32) (p0_s_n_sets_37 : Nat → Int32) (p0_s_n_coming_37 : Nat → Int32) (p0_s_n_origins_37 : Nat → Int32) (p0_s_n_round_37 : Int32) (p0_s_rounds_37 : Int32) (v9_53 : Int32) (r_57 : Int32) : Option (Int32 × Int32 × (Nat → Int32) × (Nat → Int32) × (Nat → Int32) × (Nat → Int32) × (Nat → Int32) × (Nat → Int32) × Int32 × (Nat → Int32) × (Nat → Int32) × (Nat → Int32) × Int32 × Int32 × (Nat → Int32) × (Nat → Int32) × (Nat → Int32) × Int32 × (Nat → Int32) × (Nat → Int32) × (Nat → Int32) × Int32 × Int32 × (Nat → Nat × Nat × Nat × Nat) × Int32 × (Nat → Int32 × Int32 × (Nat → Int32) × (Nat → Int32) × (Nat → Int32))) :=
  ob17 (f_X5_answers p0_f_players p0_f_told_37 p0_f_kinds_37 p0_f_owners_37 p0_f_cards_37 p0_m_y_sets p0_m_y_coming p0_m_y_origins p0_m_y_round p0_m_n_sets p0_m_n_coming p0_m_n_origins p0_m_n_round p0_m_rounds p0_h_ad p0_h_len p0_h_st v2 r_7 v3 v4 v5) (fun (r_88 : Int32) (p0_f_told_88 : Int32) (p0_f_kinds_88 : Nat → Int32) (p0_f_owners_88 : Nat → Int32) (p0_f_cards_88 : Nat → Int32) (p0_m_y_sets_88 : Nat → Int32) (p0_m_y_coming_88 : Nat → Int32) (p0_m_y_origins_88 : Nat → Int32) (p0_m_y_round_88 : Int32) (p0_m_n_sets_88 : Nat → Int32) (p0_m_n_coming_88 : Nat → Int32) (p0_m_n_origins_88 : Nat → Int32) (p0_m_n_round_88 : Int32) (p0_m_rounds_88 : Int32) (p0_h_ad_88 : Nat → Nat × Nat × Nat × Nat) (p0_h_len_88 : Int32) (p0_h_st_88 : Nat → Int32 × Int32 × (Nat → Int32) × (Nat → Int32) × (Nat → Int32)) => if r_88 = (v9_53 + r_21) then (ob1 (f_X5_count p0_f_players p0_f_told_88 p0_f_kinds_88 p0_f_owners_88 p0_f_cards_88 p0_m_y_sets_88 p0_m_n_sets_88 p0_m_rounds_88 p0_h_len_88 p0_p_length (1 : Int32)) (fun (r_101 : Int32) => if r_101 = (r_57 + (1 : Int32)) then (ob1 (f_X5_ofFact p0_f_told_88 p0_f_kinds_88 p0_f_owners_88 p0_f_cards_88 r_57 (0 : Int32)) (fun (r_115 : Int32) => if r_115 = ((1 : Int32) + r_7) then (ob1 (f_X5_ofFact p0_f_told_88 p0_f_kinds_88 p0_f_owners_88 p0_f_cards_88 r_57 (1 : Int32)) (fun (r_129 : Int32) => if r_129 = v2 then (ob1 (f_X5_ofFact p0_f_told_88 p0_f_kinds_88 p0_f_owners_88 p0_f_cards_88 r_57 (2 : Int32)) (fun (r_140 : Int32) => if r_140 = v3 then (ob1 (f_X5_ofFact p0_f_told_88 p0_f_kinds_88 p0_f_owners_88 p0_f_cards_88 r_57 (3 : Int32)) (fun (r_151 : Int32) => if r_151 = ((6 : Int32) + v4) then (ob1 (f_X5_ofFact p0_f_told_88 p0_f_kinds_88 p0_f_owners_88 p0_f_cards_88 r_57 (4 : Int32)) (fun (r_166 : Int32) => if r_166 = ((12 : Int32) + v5) then (some ((1 : Int32), p0_f_told_88, p0_f_kinds_88, p0_f_owners_88, p0_f_cards_88, p0_m_y_sets_88, p0_m_y_coming_88, p0_m_y_origins_88, p0_m_y_round_88, p0_m_n_sets_88, p0_m_n_coming_88, p0_m_n_origins_88, p0_m_n_round_88, p0_m_rounds_88, p0_s_y_sets_37, p0_s_y_coming_37, p0_s_y_origins_37, p0_s_y_round_37, p0_s_n_sets_37, p0_s_n_coming_37, p0_s_n_origins_37, p0_s_n_round_37, p0_s_rounds_37, p0_h_ad_88, p0_h_len_88, p0_h_st_88)) else (some ((0 : Int32), p0_f_told_88, p0_f_kinds_88, p0_f_owners_88, p0_f_cards_88, p0_m_y_sets_88, p0_m_y_coming_88, p0_m_y_origins_88, p0_m_y_round_88, p0_m_n_sets_88, p0_m_n_coming_88, p0_m_n_origins_88, p0_m_n_round_88, p0_m_rounds_88, p0_s_y_sets_37, p0_s_y_coming_37, p0_s_y_origins_37, p0_s_y_round_37, p0_s_n_sets_37, p0_s_n_coming_37, p0_s_n_origins_37, p0_s_n_round_37, p0_s_rounds_37, p0_h_ad_88, p0_h_len_88, p0_h_st_88)))) else (some ((0 : Int32), p0_f_told_88, p0_f_kinds_88, p0_f_owners_88, p0_f_cards_88, p0_m_y_sets_88, p0_m_y_coming_88, p0_m_y_origins_88, p0_m_y_round_88, p0_m_n_sets_88, p0_m_n_coming_88, p0_m_n_origins_88, p0_m_n_round_88, p0_m_rounds_88, p0_s_y_sets_37, p0_s_y_coming_37, p0_s_y_origins_37, p0_s_y_round_37, p0_s_n_sets_37, p0_s_n_coming_37, p0_s_n_origins_37, p0_s_n_round_37, p0_s_rounds_37, p0_h_ad_88, p0_h_len_88, p0_h_st_88)))) else (some ((0 : Int32), p0_f_told_88, p0_f_kinds_88, p0_f_owners_88, p0_f_cards_88, p0_m_y_sets_88, p0_m_y_coming_88, p0_m_y_origins_88, p0_m_y_round_88, p0_m_n_sets_88, p0_m_n_coming_88, p0_m_n_origins_88, p0_m_n_round_88, p0_m_rounds_88, p0_s_y_sets_37, p0_s_y_coming_37, p0_s_y_origins_37, p0_s_y_round_37, p0_s_n_sets_37, p0_s_n_coming_37, p0_s_n_origins_37, p0_s_n_round_37, p0_s_rounds_37, p0_h_ad_88, p0_h_len_88, p0_h_st_88)))) else (some ((0 : Int32), p0_f_told_88, p0_f_kinds_88, p0_f_owners_88, p0_f_cards_88, p0_m_y_sets_88, p0_m_y_coming_88, p0_m_y_origins_88, p0_m_y_round_88, p0_m_n_sets_88, p0_m_n_coming_88, p0_m_n_origins_88, p0_m_n_round_88, p0_m_rounds_88, p0_s_y_sets_37, p0_s_y_coming_37, p0_s_y_origins_37, p0_s_y_round_37, p0_s_n_sets_37, p0_s_n_coming_37, p0_s_n_origins_37, p0_s_n_round_37, p0_s_rounds_37, p0_h_ad_88, p0_h_len_88, p0_h_st_88)))) else (some ((0 : Int32), p0_f_told_88, p0_f_kinds_88, p0_f_owners_88, p0_f_cards_88, p0_m_y_sets_88, p0_m_y_coming_88, p0_m_y_origins_88, p0_m_y_round_88, p0_m_n_sets_88, p0_m_n_coming_88, p0_m_n_origins_88, p0_m_n_round_88, p0_m_rounds_88, p0_s_y_sets_37, p0_s_y_coming_37, p0_s_y_origins_37, p0_s_y_round_37, p0_s_n_sets_37, p0_s_n_coming_37, p0_s_n_origins_37, p0_s_n_round_37, p0_s_rounds_37, p0_h_ad_88, p0_h_len_88, p0_h_st_88)))) else (some ((0 : Int32), p0_f_told_88, p0_f_kinds_88, p0_f_owners_88, p0_f_cards_88, p0_m_y_sets_88, p0_m_y_coming_88, p0_m_y_origins_88, p0_m_y_round_88, p0_m_n_sets_88, p0_m_n_coming_88, p0_m_n_origins_88, p0_m_n_round_88, p0_m_rounds_88, p0_s_y_sets_37, p0_s_y_coming_37, p0_s_y_origins_37, p0_s_y_round_37, p0_s_n_sets_37, p0_s_n_coming_37, p0_s_n_origins_37, p0_s_n_round_37, p0_s_rounds_37, p0_h_ad_88, p0_h_len_88, p0_h_st_88)))) else (some ((0 : Int32), p0_f_told_88, p0_f_kinds_88, p0_f_owners_88, p0_f_cards_88, p0_m_y_sets_88, p0_m_y_coming_88, p0_m_y_origins_88, p0_m_y_round_88, p0_m_n_sets_88, p0_m_n_coming_88, p0_m_n_origins_88, p0_m_n_round_88, p0_m_rounds_88, p0_s_y_sets_37, p0_s_y_coming_37, p0_s_y_origins_37, p0_s_y_round_37, p0_s_n_sets_37, p0_s_n_coming_37, p0_s_n_origins_37, p0_s_n_round_37, p0_s_rounds_37, p0_h_ad_88, p0_h_len_88, p0_h_st_88)))
noncomputable def f_L_asks (p0_f_players : Int32) (p0_f_told : Int32) (p0_f_kinds : Nat → Int32) (p0_f_owners : Nat → Int32) (p0_f_cards : Nat → Int32) (p0_m_y_sets : Nat → Int32) (p0_m_y_coming : Nat → Int32) (p0_m_y_origins : Nat → Int32) (p0_m_y_round : Int32) (p0_m_n_sets : Nat → Int32) (p0_m_n_coming : Nat → Int32) (p0_m_n_origins : Nat → Int32) (p0_m_n_round : Int32) (p0_m_rounds : Int32) (p0_s_y_sets : Nat → Int32) (p0_s_y_coming : Nat → Int32) (p0_s_y_origins : Nat → Int32) (p0_s_y_round : Int32) (p0_s_n_sets : Nat → Int32) (p0_s_n_coming : Nat → Int32) (p0_s_n_origins : Nat → Int32) (p0_s_n_round : Int32) (p0_s_rounds : Int32) (p0_h_ad : Nat → Nat × Nat × Nat × Nat) (p0_h_len : Int32) (p0_h_st : Nat → Int32 × Int32 × (Nat → Int32) × (Nat → Int32) × (Nat → Int32)) (p0_p_length : Int32) (p1_row : Nat → Int32) (v2 : Int32) (v3 : Int32) (v4 : Int32) (v5 : Int32) : Option (Int32 × Int32 × (Nat → Int32) × (Nat → Int32) × (Nat → Int32) × (Nat → Int32) × (Nat → Int32) × (Nat → Int32) × Int32 × (Nat → Int32) × (Nat → Int32) × (Nat → Int32) × Int32 × Int32 × (Nat → Int32) × (Nat → Int32) × (Nat → Int32) × Int32 × (Nat → Int32) × (Nat → Int32) × (Nat → Int32) × Int32 × Int32 × (Nat → Nat × Nat × Nat × Nat) × Int32 × (Nat → Int32 × Int32 × (Nat → Int32) × (Nat → Int32) × (Nat → Int32))) :=
  ob1 (f_L_answer p1_row v2 v3 v4 v5) (fun (r_7 : Int32) => ob14 (f_X5_gain p0_f_players p0_f_told p0_f_kinds p0_f_owners p0_f_cards p0_m_y_sets p0_m_n_sets p0_s_y_sets p0_s_y_coming p0_s_y_origins p0_s_y_round p0_s_n_sets p0_s_n_coming p0_s_n_origins p0_s_n_round p0_s_rounds v2 r_7 v3 v4 v5) (fun (r_21 : Int32) (p0_f_told_21 : Int32) (p0_f_kinds_21 : Nat → Int32) (p0_f_owners_21 : Nat → Int32) (p0_f_cards_21 : Nat → Int32) (p0_s_y_sets_21 : Nat → Int32) (p0_s_y_coming_21 : Nat → Int32) (p0_s_y_origins_21 : Nat → Int32) (p0_s_y_round_21 : Int32) (p0_s_n_sets_21 : Nat → Int32) (p0_s_n_coming_21 : Nat → Int32) (p0_s_n_origins_21 : Nat → Int32) (p0_s_n_round_21 : Int32) (p0_s_rounds_21 : Int32) => ob14 (f_X5_gain p0_f_players p0_f_told_21 p0_f_kinds_21 p0_f_owners_21 p0_f_cards_21 p0_m_y_sets p0_m_n_sets p0_s_y_sets_21 p0_s_y_coming_21 p0_s_y_origins_21 p0_s_y_round_21 p0_s_n_sets_21 p0_s_n_coming_21 p0_s_n_origins_21 p0_s_n_round_21 p0_s_rounds_21 v2 ((1 : Int32) - r_7) v3 v4 v5) (fun (r_37 : Int32) (p0_f_told_37 : Int32) (p0_f_kinds_37 : Nat → Int32) (p0_f_owners_37 : Nat → Int32) (p0_f_cards_37 : Nat → Int32) (p0_s_y_sets_37 : Nat → Int32) (p0_s_y_coming_37 : Nat → Int32) (p0_s_y_origins_37 : Nat → Int32) (p0_s_y_round_37 : Int32) (p0_s_n_sets_37 : Nat → Int32) (p0_s_n_coming_37 : Nat → Int32) (p0_s_n_origins_37 : Nat → Int32) (p0_s_n_round_37 : Int32) (p0_s_rounds_37 : Int32) => ob1 (f_X5_count p0_f_players p0_f_told_37 p0_f_kinds_37 p0_f_owners_37 p0_f_cards_37 p0_m_y_sets p0_m_n_sets p0_m_rounds p0_h_len p0_p_length (2 : Int32)) (fun (r_44 : Int32) => ob1 (f_X5_count p0_f_players p0_f_told_37 p0_f_kinds_37 p0_f_owners_37 p0_f_cards_37 p0_m_y_sets p0_m_n_sets p0_m_rounds p0_h_len p0_p_length (3 : Int32)) (fun (r_49 : Int32) => lt' (r_44 + r_49) (fun v9_53 : Int32 => ob1 (f_X5_count p0_f_players p0_f_told_37 p0_f_kinds_37 p0_f_owners_37 p0_f_cards_37 p0_m_y_sets p0_m_n_sets p0_m_rounds p0_h_len p0_p_length (1 : Int32)) (fun (r_57 : Int32) => if r_21 < (0 : Int32) then (some ((0 : Int32), p0_f_told_37, p0_f_kinds_37, p0_f_owners_37, p0_f_cards_37, p0_m_y_sets, p0_m_y_coming, p0_m_y_origins, p0_m_y_round, p0_m_n_sets, p0_m_n_coming, p0_m_n_origins, p0_m_n_round, p0_m_rounds, p0_s_y_sets_37, p0_s_y_coming_37, p0_s_y_origins_37, p0_s_y_round_37, p0_s_n_sets_37, p0_s_n_coming_37, p0_s_n_origins_37, p0_s_n_round_37, p0_s_rounds_37, p0_h_ad, p0_h_len, p0_h_st)) else (if (0 : Int32) ≤ r_37 then (f_L_asks_J79 p0_f_players p0_m_y_sets p0_m_y_coming p0_m_y_origins p0_m_y_round p0_m_n_sets p0_m_n_coming p0_m_n_origins p0_m_n_round p0_m_rounds p0_h_ad p0_h_len p0_h_st p0_p_length v2 v3 v4 v5 r_7 r_21 p0_f_told_37 p0_f_kinds_37 p0_f_owners_37 p0_f_cards_37 p0_s_y_sets_37 p0_s_y_coming_37 p0_s_y_origins_37 p0_s_y_round_37 p0_s_n_sets_37 p0_s_n_coming_37 p0_s_n_origins_37 p0_s_n_round_37 p0_s_rounds_37 v9_53 r_57) else (if r_37 = (-6 : Int32) then (f_L_asks_J79 p0_f_players p0_m_y_sets p0_m_y_coming p0_m_y_origins p0_m_y_round p0_m_n_sets p0_m_n_coming p0_m_n_origins p0_m_n_round p0_m_rounds p0_h_ad p0_h_len p0_h_st p0_p_length v2 v3 v4 v5 r_7 r_21 p0_f_told_37 p0_f_kinds_37 p0_f_owners_37 p0_f_cards_37 p0_s_y_sets_37 p0_s_y_coming_37 p0_s_y_origins_37 p0_s_y_round_37 p0_s_n_sets_37 p0_s_n_coming_37 p0_s_n_origins_37 p0_s_n_round_37 p0_s_rounds_37 v9_53 r_57) else (some ((0 : Int32), p0_f_told_37, p0_f_kinds_37, p0_f_owners_37, p0_f_cards_37, p0_m_y_sets, p0_m_y_coming, p0_m_y_origins, p0_m_y_round, p0_m_n_sets, p0_m_n_coming, p0_m_n_origins, p0_m_n_round, p0_m_rounds, p0_s_y_sets_37, p0_s_y_coming_37, p0_s_y_origins_37, p0_s_y_round_37, p0_s_n_sets_37, p0_s_n_coming_37, p0_s_n_origins_37, p0_s_n_round_37, p0_s_rounds_37, p0_h_ad, p0_h_len, p0_h_st)))))))))))
set_option maxHeartbeats 4000000 in
set_option maxRecDepth 100000 in
theorem c_L_asks (l : Launch) (dC : Nat → ClassId) (dI : Nat → Nat → Nat) (ck : Nat → ClassId) (b0 b0_f b0_f_kinds b0_f_owners b0_f_cards b0_m b0_m_y b0_m_y_sets b0_m_y_coming b0_m_y_origins b0_m_n b0_m_n_sets b0_m_n_coming b0_m_n_origins b0_s b0_s_y b0_s_y_sets b0_s_y_coming b0_s_y_origins b0_s_n b0_s_n_sets b0_s_n_coming b0_s_n_origins b0_h b0_hs b0_slots b0_p b0_p_text b0_f b0_f_kinds b0_f_owners b0_f_cards b0_m b0_m_y b0_m_y_sets b0_m_y_coming b0_m_y_origins b0_m_n b0_m_n_sets b0_m_n_coming b0_m_n_origins b0_s b0_s_y b0_s_y_sets b0_s_y_coming b0_s_y_origins b0_s_n b0_s_n_sets b0_s_n_coming b0_s_n_origins b0_h b0_hs b0_p b0_p_text b1 : Nat) (p0_f_players : Int32) (p0_f_told : Int32) (p0_f_kinds : Nat → Int32) (p0_f_owners : Nat → Int32) (p0_f_cards : Nat → Int32) (p0_m_y_sets : Nat → Int32) (p0_m_y_coming : Nat → Int32) (p0_m_y_origins : Nat → Int32) (p0_m_y_round : Int32) (p0_m_n_sets : Nat → Int32) (p0_m_n_coming : Nat → Int32) (p0_m_n_origins : Nat → Int32) (p0_m_n_round : Int32) (p0_m_rounds : Int32) (p0_s_y_sets : Nat → Int32) (p0_s_y_coming : Nat → Int32) (p0_s_y_origins : Nat → Int32) (p0_s_y_round : Int32) (p0_s_n_sets : Nat → Int32) (p0_s_n_coming : Nat → Int32) (p0_s_n_origins : Nat → Int32) (p0_s_n_round : Int32) (p0_s_rounds : Int32) (p0_h_ad : Nat → Nat × Nat × Nat × Nat) (p0_h_len : Int32) (p0_h_st : Nat → Int32 × Int32 × (Nat → Int32) × (Nat → Int32) × (Nat → Int32)) (p0_p_text : Nat → Int32) (p0_p_length : Int32) (p1_row : Nat → Int32) (v2 : Int32) (v3 : Int32) (v4 : Int32) (v5 : Int32) (o0 : Int32) (o1 : Int32) (o2 : Nat → Int32) (o3 : Nat → Int32) (o4 : Nat → Int32) (o5 : Nat → Int32) (o6 : Nat → Int32) (o7 : Nat → Int32) (o8 : Int32) (o9 : Nat → Int32) (o10 : Nat → Int32) (o11 : Nat → Int32) (o12 : Int32) (o13 : Int32) (o14 : Nat → Int32) (o15 : Nat → Int32) (o16 : Nat → Int32) (o17 : Int32) (o18 : Nat → Int32) (o19 : Nat → Int32) (o20 : Nat → Int32) (o21 : Int32) (o22 : Int32) (o23 : Nat → Nat × Nat × Nat × Nat) (o24 : Int32) (o25 : Nat → Int32 × Int32 × (Nat → Int32) × (Nat → Int32) × (Nat → Int32)) (h : f_L_asks p0_f_players p0_f_told p0_f_kinds p0_f_owners p0_f_cards p0_m_y_sets p0_m_y_coming p0_m_y_origins p0_m_y_round p0_m_n_sets p0_m_n_coming p0_m_n_origins p0_m_n_round p0_m_rounds p0_s_y_sets p0_s_y_coming p0_s_y_origins p0_s_y_round p0_s_n_sets p0_s_n_coming p0_s_n_origins p0_s_n_round p0_s_rounds p0_h_ad p0_h_len p0_h_st p0_p_length p1_row v2 v3 v4 v5 = some (o0, o1, o2, o3, o4, o5, o6, o7, o8, o9, o10, o11, o12, o13, o14, o15, o16, o17, o18, o19, o20, o21, o22, o23, o24, o25)) : MI l yL_asks wsL_asks ({ frames := 8, cells := 0, slots := 0, locals := 187 }) [.ref b0, .ref b1, .int v2, .int v3, .int v4, .int v5] (dC, dI) ck ([(b0, .inr (5, [.ref b0_f, .ref b0_m, .ref b0_s, .ref b0_h, .ref b0_slots, .ref b0_p]))] ++ wX0 ck b0_f b0_f_kinds b0_f_owners b0_f_cards p0_f_players p0_f_told p0_f_kinds p0_f_owners p0_f_cards ++ wX2 ck b0_m b0_m_y b0_m_y_sets b0_m_y_coming b0_m_y_origins b0_m_n b0_m_n_sets b0_m_n_coming b0_m_n_origins p0_m_y_sets p0_m_y_coming p0_m_y_origins p0_m_y_round p0_m_n_sets p0_m_n_coming p0_m_n_origins p0_m_n_round p0_m_rounds ++ wX2 ck b0_s b0_s_y b0_s_y_sets b0_s_y_coming b0_s_y_origins b0_s_n b0_s_n_sets b0_s_n_coming b0_s_n_origins p0_s_y_sets p0_s_y_coming p0_s_y_origins p0_s_y_round p0_s_n_sets p0_s_n_coming p0_s_n_origins p0_s_n_round p0_s_rounds ++ wX1 ck b0_h b0_hs p0_h_ad p0_h_len p0_h_st ++ wX3 ck b0_p b0_p_text p0_p_text p0_p_length ++ [(b1, .inl (ck 0, 19, .inl p1_row))]) ([(b0, .inr (5, [.ref b0_f, .ref b0_m, .ref b0_s, .ref b0_h, .ref b0_slots, .ref b0_p]))] ++ wX0 ck b0_f b0_f_kinds b0_f_owners b0_f_cards p0_f_players o1 o2 o3 o4 ++ wX2 ck b0_m b0_m_y b0_m_y_sets b0_m_y_coming b0_m_y_origins b0_m_n b0_m_n_sets b0_m_n_coming b0_m_n_origins o5 o6 o7 o8 o9 o10 o11 o12 o13 ++ wX2 ck b0_s b0_s_y b0_s_y_sets b0_s_y_coming b0_s_y_origins b0_s_n b0_s_n_sets b0_s_n_coming b0_s_n_origins o14 o15 o16 o17 o18 o19 o20 o21 o22 ++ wX1 ck b0_h b0_hs o23 o24 o25 ++ wX3 ck b0_p b0_p_text p0_p_text p0_p_length ++ [(b1, .inl (ck 0, 19, .inl p1_row))]) o0 := by
  refine MI.ofW (cc := cL_asks) (maxL := 11) (ret := (some .boolean)) (by decide +kernel) rfl (Nat.le_of_ble_eq_true rfl) ?_
  intro p e s m below meth c hx hb hr hml hts hown hlk hK hP A hA hD ls hl
  have hS : va_S A s.heap s.heap [] := va_S.rf
  have hown : s.vm.findClass RL = some m.cls := hown
  have hl : lv_has ls 11 [(0, .ref b0), (1, .ref b1), (2, .int v2), (3, .int v3), (4, .int v4), (5, .int v5)] := hl
  unfold f_L_asks at h
  refine lv_aload_n hx hb dL_asks_0 rfl (lv_at hl 1 rfl) ?_
  refine lv_iload_n hx hb dL_asks_1 rfl (lv_at hl 2 rfl) ?_
  refine lv_iload_n hx hb dL_asks_2 rfl (lv_at hl 3 rfl) ?_
  refine lv_iload hx hb dL_asks_3 (lv_at hl 4 rfl) ?_
  refine lv_iload hx hb dL_asks_5 (lv_at hl 5 rfl) ?_
  obtain ⟨r_7, q_7, h⟩ := ob1_e h
  refine cRS (wc := [(b1, .inl (ck 0, 19, .inl p1_row))]) ⟨hx, hb, hml, hown, hts⟩ hK hP [51] rfl (c_L_answer l dC dI ck b1 p1_row v2 v3 v4 v5 r_7 q_7) (va_cwS 5 hts gL_asks_L_answer rfl rfl rfl (by decide +kernel) ⟨Nat.le_of_ble_eq_true rfl, Nat.le_of_ble_eq_true rfl⟩) rfl hl.1 rfl (Nat.le_of_ble_eq_true rfl) dL_asks_7 ⟨Nat.zero_le _, Nat.zero_le _⟩ ?_
  refine lv_istore (lv' := [(6, .int r_7), (0, .ref b0), (1, .ref b1), (2, .int v2), (3, .int v3), (4, .int v4), (5, .int v5)]) hx hb dL_asks_10 hl (by decide) rfl (fun ls hl => ?_)
  refine lv_aload_n hx hb dL_asks_12 rfl (lv_at hl 1 rfl) ?_
  refine lv_iload_n hx hb dL_asks_13 rfl (lv_at hl 3 rfl) ?_
  refine lv_iload hx hb dL_asks_14 (lv_at hl 0 rfl) ?_
  refine lv_iload_n hx hb dL_asks_16 rfl (lv_at hl 4 rfl) ?_
  refine lv_iload hx hb dL_asks_17 (lv_at hl 5 rfl) ?_
  refine lv_iload hx hb dL_asks_19 (lv_at hl 6 rfl) ?_
  obtain ⟨r_21, p0_f_told_21, p0_f_kinds_21, p0_f_owners_21, p0_f_cards_21, p0_s_y_sets_21, p0_s_y_coming_21, p0_s_y_origins_21, p0_s_y_round_21, p0_s_n_sets_21, p0_s_n_coming_21, p0_s_n_origins_21, p0_s_n_round_21, p0_s_rounds_21, q_21, h⟩ := ob14_e h
  refine cMI (wc := [(b0, .inr (5, [.ref b0_f, .ref b0_m, .ref b0_s, .ref b0_h, .ref b0_slots, .ref b0_p]))] ++ wX0 ck b0_f b0_f_kinds b0_f_owners b0_f_cards p0_f_players p0_f_told p0_f_kinds p0_f_owners p0_f_cards ++ wX2 ck b0_m b0_m_y b0_m_y_sets b0_m_y_coming b0_m_y_origins b0_m_n b0_m_n_sets b0_m_n_coming b0_m_n_origins p0_m_y_sets p0_m_y_coming p0_m_y_origins p0_m_y_round p0_m_n_sets p0_m_n_coming p0_m_n_origins p0_m_n_round p0_m_rounds ++ wX2 ck b0_s b0_s_y b0_s_y_sets b0_s_y_coming b0_s_y_origins b0_s_n b0_s_n_sets b0_s_n_coming b0_s_n_origins p0_s_y_sets p0_s_y_coming p0_s_y_origins p0_s_y_round p0_s_n_sets p0_s_n_coming p0_s_n_origins p0_s_n_round p0_s_rounds) (wr := wX1 ck b0_h b0_hs p0_h_ad p0_h_len p0_h_st ++ wX3 ck b0_p b0_p_text p0_p_text p0_p_length ++ [(b1, .inl (ck 0, 19, .inl p1_row))]) (w1 := [(b0, .inr (5, [.ref b0_f, .ref b0_m, .ref b0_s, .ref b0_h, .ref b0_slots, .ref b0_p]))] ++ wX0 ck b0_f b0_f_kinds b0_f_owners b0_f_cards p0_f_players p0_f_told_21 p0_f_kinds_21 p0_f_owners_21 p0_f_cards_21 ++ wX2 ck b0_m b0_m_y b0_m_y_sets b0_m_y_coming b0_m_y_origins b0_m_n b0_m_n_sets b0_m_n_coming b0_m_n_origins p0_m_y_sets p0_m_y_coming p0_m_y_origins p0_m_y_round p0_m_n_sets p0_m_n_coming p0_m_n_origins p0_m_n_round p0_m_rounds ++ wX2 ck b0_s b0_s_y b0_s_y_sets b0_s_y_coming b0_s_y_origins b0_s_n b0_s_n_sets b0_s_n_coming b0_s_n_origins p0_s_y_sets_21 p0_s_y_coming_21 p0_s_y_origins_21 p0_s_y_round_21 p0_s_n_sets_21 p0_s_n_coming_21 p0_s_n_origins_21 p0_s_n_round_21 p0_s_rounds_21) (wn := [(b0, .inr (5, [.ref b0_f, .ref b0_m, .ref b0_s, .ref b0_h, .ref b0_slots, .ref b0_p]))] ++ wX0 ck b0_f b0_f_kinds b0_f_owners b0_f_cards p0_f_players p0_f_told_21 p0_f_kinds_21 p0_f_owners_21 p0_f_cards_21 ++ wX2 ck b0_m b0_m_y b0_m_y_sets b0_m_y_coming b0_m_y_origins b0_m_n b0_m_n_sets b0_m_n_coming b0_m_n_origins p0_m_y_sets p0_m_y_coming p0_m_y_origins p0_m_y_round p0_m_n_sets p0_m_n_coming p0_m_n_origins p0_m_n_round p0_m_rounds ++ wX2 ck b0_s b0_s_y b0_s_y_sets b0_s_y_coming b0_s_y_origins b0_s_n b0_s_n_sets b0_s_n_coming b0_s_n_origins p0_s_y_sets_21 p0_s_y_coming_21 p0_s_y_origins_21 p0_s_y_round_21 p0_s_n_sets_21 p0_s_n_coming_21 p0_s_n_origins_21 p0_s_n_round_21 p0_s_rounds_21 ++ wX1 ck b0_h b0_hs p0_h_ad p0_h_len p0_h_st ++ wX3 ck b0_p b0_p_text p0_p_text p0_p_length ++ [(b1, .inl (ck 0, 19, .inl p1_row))]) ⟨hx, hb, hml, hown, hts⟩ hK hP hD hS hA [0, 1, 2, 3, 4, 5, 6, 7, 8, 9, 10, 11, 12, 13, 14, 15, 16, 17, 18, 19, 20, 21, 22] [23, 24, 25, 26, 27, 28, 29, 30, 31, 32, 33, 34, 35, 36, 37, 38, 39, 40, 41, 42, 43, 44, 45, 46, 47, 48, 49, 50, 51] [29, 30, 31, 32, 33, 34, 35, 36, 37, 38, 39, 40, 41, 42, 43, 44, 45, 46, 47, 48, 49, 50, 51, 0, 1, 2, 3, 4, 5, 6, 7, 8, 9, 10, 11, 12, 13, 14, 15, 16, 17, 18, 19, 20, 21, 22, 23, 24, 25, 26, 27, 28] rfl (by decide) rfl (by decide) (by decide) rfl (by decide) (c_X5_gain l dC dI ck b0 b0_f b0_f_kinds b0_f_owners b0_f_cards b0_m b0_m_y b0_m_y_sets b0_m_y_coming b0_m_y_origins b0_m_n b0_m_n_sets b0_m_n_coming b0_m_n_origins b0_s b0_s_y b0_s_y_sets b0_s_y_coming b0_s_y_origins b0_s_n b0_s_n_sets b0_s_n_coming b0_s_n_origins b0_h b0_slots b0_p b0_f b0_f_kinds b0_f_owners b0_f_cards b0_m b0_m_y b0_m_y_sets b0_m_y_coming b0_m_y_origins b0_m_n b0_m_n_sets b0_m_n_coming b0_m_n_origins b0_s b0_s_y b0_s_y_sets b0_s_y_coming b0_s_y_origins b0_s_n b0_s_n_sets b0_s_n_coming b0_s_n_origins p0_f_players p0_f_told p0_f_kinds p0_f_owners p0_f_cards p0_m_y_sets p0_m_y_coming p0_m_y_origins p0_m_y_round p0_m_n_sets p0_m_n_coming p0_m_n_origins p0_m_n_round p0_m_rounds p0_s_y_sets p0_s_y_coming p0_s_y_origins p0_s_y_round p0_s_n_sets p0_s_n_coming p0_s_n_origins p0_s_n_round p0_s_rounds v2 r_7 v3 v4 v5 r_21 p0_f_told_21 p0_f_kinds_21 p0_f_owners_21 p0_f_cards_21 p0_s_y_sets_21 p0_s_y_coming_21 p0_s_y_origins_21 p0_s_y_round_21 p0_s_n_sets_21 p0_s_n_coming_21 p0_s_n_origins_21 p0_s_n_round_21 p0_s_rounds_21 q_21) (cwV 5 hts gL_asks_X5_gain rfl rfl rfl (by decide +kernel) ⟨Nat.le_of_ble_eq_true rfl, Nat.le_of_ble_eq_true rfl⟩) 0 rfl rfl rfl hl.1 rfl (Nat.le_of_ble_eq_true rfl) dL_asks_21 ⟨Nat.zero_le _, Nat.zero_le _⟩ (fun H locs hP hD hS => ?_)
  refine lv_istore (lv' := [(7, .int r_21), (6, .int r_7), (0, .ref b0), (1, .ref b1), (2, .int v2), (3, .int v3), (4, .int v4), (5, .int v5)]) hx hb dL_asks_24 hl (by decide) rfl (fun ls hl => ?_)
  refine lv_aload_n hx hb dL_asks_26 rfl (lv_at hl 2 rfl) ?_
  refine lv_iload_n hx hb dL_asks_27 rfl (lv_at hl 4 rfl) ?_
  refine lv_iconst (v := (1 : Int32)) hx hb dL_asks_28 rfl ?_
  refine lv_iload hx hb dL_asks_29 (lv_at hl 1 rfl) ?_
  refine lv_isub hx hb dL_asks_31 ?_
  refine lv_iload_n hx hb dL_asks_32 rfl (lv_at hl 5 rfl) ?_
  refine lv_iload hx hb dL_asks_33 (lv_at hl 6 rfl) ?_
  refine lv_iload hx hb dL_asks_35 (lv_at hl 7 rfl) ?_
  obtain ⟨r_37, p0_f_told_37, p0_f_kinds_37, p0_f_owners_37, p0_f_cards_37, p0_s_y_sets_37, p0_s_y_coming_37, p0_s_y_origins_37, p0_s_y_round_37, p0_s_n_sets_37, p0_s_n_coming_37, p0_s_n_origins_37, p0_s_n_round_37, p0_s_rounds_37, q_37, h⟩ := ob14_e h
  refine cMI (wc := [(b0, .inr (5, [.ref b0_f, .ref b0_m, .ref b0_s, .ref b0_h, .ref b0_slots, .ref b0_p]))] ++ wX0 ck b0_f b0_f_kinds b0_f_owners b0_f_cards p0_f_players p0_f_told_21 p0_f_kinds_21 p0_f_owners_21 p0_f_cards_21 ++ wX2 ck b0_m b0_m_y b0_m_y_sets b0_m_y_coming b0_m_y_origins b0_m_n b0_m_n_sets b0_m_n_coming b0_m_n_origins p0_m_y_sets p0_m_y_coming p0_m_y_origins p0_m_y_round p0_m_n_sets p0_m_n_coming p0_m_n_origins p0_m_n_round p0_m_rounds ++ wX2 ck b0_s b0_s_y b0_s_y_sets b0_s_y_coming b0_s_y_origins b0_s_n b0_s_n_sets b0_s_n_coming b0_s_n_origins p0_s_y_sets_21 p0_s_y_coming_21 p0_s_y_origins_21 p0_s_y_round_21 p0_s_n_sets_21 p0_s_n_coming_21 p0_s_n_origins_21 p0_s_n_round_21 p0_s_rounds_21) (wr := wX1 ck b0_h b0_hs p0_h_ad p0_h_len p0_h_st ++ wX3 ck b0_p b0_p_text p0_p_text p0_p_length ++ [(b1, .inl (ck 0, 19, .inl p1_row))]) (w1 := [(b0, .inr (5, [.ref b0_f, .ref b0_m, .ref b0_s, .ref b0_h, .ref b0_slots, .ref b0_p]))] ++ wX0 ck b0_f b0_f_kinds b0_f_owners b0_f_cards p0_f_players p0_f_told_37 p0_f_kinds_37 p0_f_owners_37 p0_f_cards_37 ++ wX2 ck b0_m b0_m_y b0_m_y_sets b0_m_y_coming b0_m_y_origins b0_m_n b0_m_n_sets b0_m_n_coming b0_m_n_origins p0_m_y_sets p0_m_y_coming p0_m_y_origins p0_m_y_round p0_m_n_sets p0_m_n_coming p0_m_n_origins p0_m_n_round p0_m_rounds ++ wX2 ck b0_s b0_s_y b0_s_y_sets b0_s_y_coming b0_s_y_origins b0_s_n b0_s_n_sets b0_s_n_coming b0_s_n_origins p0_s_y_sets_37 p0_s_y_coming_37 p0_s_y_origins_37 p0_s_y_round_37 p0_s_n_sets_37 p0_s_n_coming_37 p0_s_n_origins_37 p0_s_n_round_37 p0_s_rounds_37) (wn := [(b0, .inr (5, [.ref b0_f, .ref b0_m, .ref b0_s, .ref b0_h, .ref b0_slots, .ref b0_p]))] ++ wX0 ck b0_f b0_f_kinds b0_f_owners b0_f_cards p0_f_players p0_f_told_37 p0_f_kinds_37 p0_f_owners_37 p0_f_cards_37 ++ wX2 ck b0_m b0_m_y b0_m_y_sets b0_m_y_coming b0_m_y_origins b0_m_n b0_m_n_sets b0_m_n_coming b0_m_n_origins p0_m_y_sets p0_m_y_coming p0_m_y_origins p0_m_y_round p0_m_n_sets p0_m_n_coming p0_m_n_origins p0_m_n_round p0_m_rounds ++ wX2 ck b0_s b0_s_y b0_s_y_sets b0_s_y_coming b0_s_y_origins b0_s_n b0_s_n_sets b0_s_n_coming b0_s_n_origins p0_s_y_sets_37 p0_s_y_coming_37 p0_s_y_origins_37 p0_s_y_round_37 p0_s_n_sets_37 p0_s_n_coming_37 p0_s_n_origins_37 p0_s_n_round_37 p0_s_rounds_37 ++ wX1 ck b0_h b0_hs p0_h_ad p0_h_len p0_h_st ++ wX3 ck b0_p b0_p_text p0_p_text p0_p_length ++ [(b1, .inl (ck 0, 19, .inl p1_row))]) ⟨hx, hb, hml, hown, hts⟩ hK hP hD hS hA [0, 1, 2, 3, 4, 5, 6, 7, 8, 9, 10, 11, 12, 13, 14, 15, 16, 17, 18, 19, 20, 21, 22] [23, 24, 25, 26, 27, 28, 29, 30, 31, 32, 33, 34, 35, 36, 37, 38, 39, 40, 41, 42, 43, 44, 45, 46, 47, 48, 49, 50, 51] [29, 30, 31, 32, 33, 34, 35, 36, 37, 38, 39, 40, 41, 42, 43, 44, 45, 46, 47, 48, 49, 50, 51, 0, 1, 2, 3, 4, 5, 6, 7, 8, 9, 10, 11, 12, 13, 14, 15, 16, 17, 18, 19, 20, 21, 22, 23, 24, 25, 26, 27, 28] rfl (by decide) rfl (by decide) (by decide) rfl (by decide) (c_X5_gain l dC dI ck b0 b0_f b0_f_kinds b0_f_owners b0_f_cards b0_m b0_m_y b0_m_y_sets b0_m_y_coming b0_m_y_origins b0_m_n b0_m_n_sets b0_m_n_coming b0_m_n_origins b0_s b0_s_y b0_s_y_sets b0_s_y_coming b0_s_y_origins b0_s_n b0_s_n_sets b0_s_n_coming b0_s_n_origins b0_h b0_slots b0_p b0_f b0_f_kinds b0_f_owners b0_f_cards b0_m b0_m_y b0_m_y_sets b0_m_y_coming b0_m_y_origins b0_m_n b0_m_n_sets b0_m_n_coming b0_m_n_origins b0_s b0_s_y b0_s_y_sets b0_s_y_coming b0_s_y_origins b0_s_n b0_s_n_sets b0_s_n_coming b0_s_n_origins p0_f_players p0_f_told_21 p0_f_kinds_21 p0_f_owners_21 p0_f_cards_21 p0_m_y_sets p0_m_y_coming p0_m_y_origins p0_m_y_round p0_m_n_sets p0_m_n_coming p0_m_n_origins p0_m_n_round p0_m_rounds p0_s_y_sets_21 p0_s_y_coming_21 p0_s_y_origins_21 p0_s_y_round_21 p0_s_n_sets_21 p0_s_n_coming_21 p0_s_n_origins_21 p0_s_n_round_21 p0_s_rounds_21 v2 ((1 : Int32) - r_7) v3 v4 v5 r_37 p0_f_told_37 p0_f_kinds_37 p0_f_owners_37 p0_f_cards_37 p0_s_y_sets_37 p0_s_y_coming_37 p0_s_y_origins_37 p0_s_y_round_37 p0_s_n_sets_37 p0_s_n_coming_37 p0_s_n_origins_37 p0_s_n_round_37 p0_s_rounds_37 q_37) (cwV 5 hts gL_asks_X5_gain rfl rfl rfl (by decide +kernel) ⟨Nat.le_of_ble_eq_true rfl, Nat.le_of_ble_eq_true rfl⟩) 0 rfl rfl rfl hl.1 rfl (Nat.le_of_ble_eq_true rfl) dL_asks_37 ⟨Nat.zero_le _, Nat.zero_le _⟩ (fun H locs hP hD hS => ?_)
  refine lv_istore (lv' := [(8, .int r_37), (7, .int r_21), (6, .int r_7), (0, .ref b0), (1, .ref b1), (2, .int v2), (3, .int v3), (4, .int v4), (5, .int v5)]) hx hb dL_asks_40 hl (by decide) rfl (fun ls hl => ?_)
  refine lv_aload_n hx hb dL_asks_42 rfl (lv_at hl 3 rfl) ?_
  refine lv_iconst (v := (2 : Int32)) hx hb dL_asks_43 rfl ?_
  obtain ⟨r_44, q_44, h⟩ := ob1_e h
  refine cRV (wc := [(b0, .inr (5, [.ref b0_f, .ref b0_m, .ref b0_s, .ref b0_h, .ref b0_slots, .ref b0_p]))] ++ wX0 ck b0_f b0_f_kinds b0_f_owners b0_f_cards p0_f_players p0_f_told_37 p0_f_kinds_37 p0_f_owners_37 p0_f_cards_37 ++ wX2 ck b0_m b0_m_y b0_m_y_sets b0_m_y_coming b0_m_y_origins b0_m_n b0_m_n_sets b0_m_n_coming b0_m_n_origins p0_m_y_sets p0_m_y_coming p0_m_y_origins p0_m_y_round p0_m_n_sets p0_m_n_coming p0_m_n_origins p0_m_n_round p0_m_rounds ++ wX1 ck b0_h b0_hs p0_h_ad p0_h_len p0_h_st ++ wX3 ck b0_p b0_p_text p0_p_text p0_p_length) ⟨hx, hb, hml, hown, hts⟩ hK hP [0, 1, 2, 3, 4, 5, 6, 7, 8, 9, 10, 11, 12, 13, 23, 24, 25, 26, 27, 28, 29, 30, 31, 32, 33, 34, 35, 36, 37, 38, 39, 40, 41, 42, 43, 44, 45, 46, 47, 48, 49, 50] rfl (c_X5_count l dC dI ck b0 b0_f b0_f_kinds b0_f_owners b0_f_cards b0_m b0_m_y b0_m_y_sets b0_m_y_coming b0_m_y_origins b0_m_n b0_m_n_sets b0_m_n_coming b0_m_n_origins b0_s b0_h b0_hs b0_slots b0_p b0_p_text b0_f b0_f_kinds b0_f_owners b0_f_cards b0_m b0_m_y b0_m_y_sets b0_m_y_coming b0_m_y_origins b0_m_n b0_m_n_sets b0_m_n_coming b0_m_n_origins b0_h b0_hs b0_p b0_p_text p0_f_players p0_f_told_37 p0_f_kinds_37 p0_f_owners_37 p0_f_cards_37 p0_m_y_sets p0_m_y_coming p0_m_y_origins p0_m_y_round p0_m_n_sets p0_m_n_coming p0_m_n_origins p0_m_n_round p0_m_rounds p0_h_ad p0_h_len p0_h_st p0_p_text p0_p_length (2 : Int32) r_44 q_44) (cwV 1 hts gL_asks_X5_count rfl rfl rfl (by decide +kernel) ⟨Nat.le_of_ble_eq_true rfl, Nat.le_of_ble_eq_true rfl⟩) 0 rfl rfl rfl hl.1 rfl (Nat.le_of_ble_eq_true rfl) dL_asks_44 ⟨Nat.zero_le _, Nat.zero_le _⟩ ?_
  refine lv_aload_n hx hb dL_asks_47 rfl (lv_at hl 3 rfl) ?_
  refine lv_iconst (v := (3 : Int32)) hx hb dL_asks_48 rfl ?_
  obtain ⟨r_49, q_49, h⟩ := ob1_e h
  refine cRV (wc := [(b0, .inr (5, [.ref b0_f, .ref b0_m, .ref b0_s, .ref b0_h, .ref b0_slots, .ref b0_p]))] ++ wX0 ck b0_f b0_f_kinds b0_f_owners b0_f_cards p0_f_players p0_f_told_37 p0_f_kinds_37 p0_f_owners_37 p0_f_cards_37 ++ wX2 ck b0_m b0_m_y b0_m_y_sets b0_m_y_coming b0_m_y_origins b0_m_n b0_m_n_sets b0_m_n_coming b0_m_n_origins p0_m_y_sets p0_m_y_coming p0_m_y_origins p0_m_y_round p0_m_n_sets p0_m_n_coming p0_m_n_origins p0_m_n_round p0_m_rounds ++ wX1 ck b0_h b0_hs p0_h_ad p0_h_len p0_h_st ++ wX3 ck b0_p b0_p_text p0_p_text p0_p_length) ⟨hx, hb, hml, hown, hts⟩ hK hP [0, 1, 2, 3, 4, 5, 6, 7, 8, 9, 10, 11, 12, 13, 23, 24, 25, 26, 27, 28, 29, 30, 31, 32, 33, 34, 35, 36, 37, 38, 39, 40, 41, 42, 43, 44, 45, 46, 47, 48, 49, 50] rfl (c_X5_count l dC dI ck b0 b0_f b0_f_kinds b0_f_owners b0_f_cards b0_m b0_m_y b0_m_y_sets b0_m_y_coming b0_m_y_origins b0_m_n b0_m_n_sets b0_m_n_coming b0_m_n_origins b0_s b0_h b0_hs b0_slots b0_p b0_p_text b0_f b0_f_kinds b0_f_owners b0_f_cards b0_m b0_m_y b0_m_y_sets b0_m_y_coming b0_m_y_origins b0_m_n b0_m_n_sets b0_m_n_coming b0_m_n_origins b0_h b0_hs b0_p b0_p_text p0_f_players p0_f_told_37 p0_f_kinds_37 p0_f_owners_37 p0_f_cards_37 p0_m_y_sets p0_m_y_coming p0_m_y_origins p0_m_y_round p0_m_n_sets p0_m_n_coming p0_m_n_origins p0_m_n_round p0_m_rounds p0_h_ad p0_h_len p0_h_st p0_p_text p0_p_length (3 : Int32) r_49 q_49) (cwV 1 hts gL_asks_X5_count rfl rfl rfl (by decide +kernel) ⟨Nat.le_of_ble_eq_true rfl, Nat.le_of_ble_eq_true rfl⟩) 0 rfl rfl rfl hl.1 rfl (Nat.le_of_ble_eq_true rfl) dL_asks_49 ⟨Nat.zero_le _, Nat.zero_le _⟩ ?_
  refine lv_iadd hx hb dL_asks_52 ?_
  refine lv_topi (fun v9_53 e_53 => ?_)
  have h := lt'_e e_53 h
  refine lv_istore (lv' := [(9, .int v9_53), (8, .int r_37), (7, .int r_21), (6, .int r_7), (0, .ref b0), (1, .ref b1), (2, .int v2), (3, .int v3), (4, .int v4), (5, .int v5)]) hx hb dL_asks_53 hl (by decide) rfl (fun ls hl => ?_)
  refine lv_aload_n hx hb dL_asks_55 rfl (lv_at hl 4 rfl) ?_
  refine lv_iconst (v := (1 : Int32)) hx hb dL_asks_56 rfl ?_
  obtain ⟨r_57, q_57, h⟩ := ob1_e h
  refine cRV (wc := [(b0, .inr (5, [.ref b0_f, .ref b0_m, .ref b0_s, .ref b0_h, .ref b0_slots, .ref b0_p]))] ++ wX0 ck b0_f b0_f_kinds b0_f_owners b0_f_cards p0_f_players p0_f_told_37 p0_f_kinds_37 p0_f_owners_37 p0_f_cards_37 ++ wX2 ck b0_m b0_m_y b0_m_y_sets b0_m_y_coming b0_m_y_origins b0_m_n b0_m_n_sets b0_m_n_coming b0_m_n_origins p0_m_y_sets p0_m_y_coming p0_m_y_origins p0_m_y_round p0_m_n_sets p0_m_n_coming p0_m_n_origins p0_m_n_round p0_m_rounds ++ wX1 ck b0_h b0_hs p0_h_ad p0_h_len p0_h_st ++ wX3 ck b0_p b0_p_text p0_p_text p0_p_length) ⟨hx, hb, hml, hown, hts⟩ hK hP [0, 1, 2, 3, 4, 5, 6, 7, 8, 9, 10, 11, 12, 13, 23, 24, 25, 26, 27, 28, 29, 30, 31, 32, 33, 34, 35, 36, 37, 38, 39, 40, 41, 42, 43, 44, 45, 46, 47, 48, 49, 50] rfl (c_X5_count l dC dI ck b0 b0_f b0_f_kinds b0_f_owners b0_f_cards b0_m b0_m_y b0_m_y_sets b0_m_y_coming b0_m_y_origins b0_m_n b0_m_n_sets b0_m_n_coming b0_m_n_origins b0_s b0_h b0_hs b0_slots b0_p b0_p_text b0_f b0_f_kinds b0_f_owners b0_f_cards b0_m b0_m_y b0_m_y_sets b0_m_y_coming b0_m_y_origins b0_m_n b0_m_n_sets b0_m_n_coming b0_m_n_origins b0_h b0_hs b0_p b0_p_text p0_f_players p0_f_told_37 p0_f_kinds_37 p0_f_owners_37 p0_f_cards_37 p0_m_y_sets p0_m_y_coming p0_m_y_origins p0_m_y_round p0_m_n_sets p0_m_n_coming p0_m_n_origins p0_m_n_round p0_m_rounds p0_h_ad p0_h_len p0_h_st p0_p_text p0_p_length (1 : Int32) r_57 q_57) (cwV 1 hts gL_asks_X5_count rfl rfl rfl (by decide +kernel) ⟨Nat.le_of_ble_eq_true rfl, Nat.le_of_ble_eq_true rfl⟩) 0 rfl rfl rfl hl.1 rfl (Nat.le_of_ble_eq_true rfl) dL_asks_57 ⟨Nat.zero_le _, Nat.zero_le _⟩ ?_
  refine lv_istore (lv' := [(10, .int r_57), (9, .int v9_53), (8, .int r_37), (7, .int r_21), (6, .int r_7), (0, .ref b0), (1, .ref b1), (2, .int v2), (3, .int v3), (4, .int v4), (5, .int v5)]) hx hb dL_asks_60 hl (by decide) rfl (fun ls hl => ?_)
  refine lv_iload hx hb dL_asks_62 (lv_at hl 3 rfl) ?_
  refine lv_if_lt (tgt := 181) hx hb dL_asks_64 (by decide) (fun c_64 => ?_) (fun c_64 => ?_)
  · have h := if_t h c_64
    refine lv_iconst (v := (0 : Int32)) hx hb dL_asks_181 rfl ?_
    cases h
    exact eMz hx hb hr hlk hP hD hS rfl rfl dL_asks_182
  · have h := if_f h c_64
    refine lv_iload hx hb dL_asks_67 (lv_at hl 2 rfl) ?_
    have hJ79 : f_L_asks_J79 p0_f_players p0_m_y_sets p0_m_y_coming p0_m_y_origins p0_m_y_round p0_m_n_sets p0_m_n_coming p0_m_n_origins p0_m_n_round p0_m_rounds p0_h_ad p0_h_len p0_h_st p0_p_length v2 v3 v4 v5 r_7 r_21 p0_f_told_37 p0_f_kinds_37 p0_f_owners_37 p0_f_cards_37 p0_s_y_sets_37 p0_s_y_coming_37 p0_s_y_origins_37 p0_s_y_round_37 p0_s_n_sets_37 p0_s_n_coming_37 p0_s_n_origins_37 p0_s_n_round_37 p0_s_rounds_37 v9_53 r_57 = some (o0, o1, o2, o3, o4, o5, o6, o7, o8, o9, o10, o11, o12, o13, o14, o15, o16, o17, o18, o19, o20, o21, o22, o23, o24, o25) → ∀ (H : Heap) (locs : List Loc), va_P (dC, dI) vwCl ([(b0, .inr (5, [.ref b0_f, .ref b0_m, .ref b0_s, .ref b0_h, .ref b0_slots, .ref b0_p]))] ++ wX0 ck b0_f b0_f_kinds b0_f_owners b0_f_cards p0_f_players p0_f_told_37 p0_f_kinds_37 p0_f_owners_37 p0_f_cards_37 ++ wX2 ck b0_m b0_m_y b0_m_y_sets b0_m_y_coming b0_m_y_origins b0_m_n b0_m_n_sets b0_m_n_coming b0_m_n_origins p0_m_y_sets p0_m_y_coming p0_m_y_origins p0_m_y_round p0_m_n_sets p0_m_n_coming p0_m_n_origins p0_m_n_round p0_m_rounds ++ wX2 ck b0_s b0_s_y b0_s_y_sets b0_s_y_coming b0_s_y_origins b0_s_n b0_s_n_sets b0_s_n_coming b0_s_n_origins p0_s_y_sets_37 p0_s_y_coming_37 p0_s_y_origins_37 p0_s_y_round_37 p0_s_n_sets_37 p0_s_n_coming_37 p0_s_n_origins_37 p0_s_n_round_37 p0_s_rounds_37 ++ wX1 ck b0_h b0_hs p0_h_ad p0_h_len p0_h_st ++ wX3 ck b0_p b0_p_text p0_p_text p0_p_length ++ [(b1, .inl (ck 0, 19, .inl p1_row))]) H → va_D A ([(b0, .inr (5, [.ref b0_f, .ref b0_m, .ref b0_s, .ref b0_h, .ref b0_slots, .ref b0_p]))] ++ wX0 ck b0_f b0_f_kinds b0_f_owners b0_f_cards p0_f_players p0_f_told_37 p0_f_kinds_37 p0_f_owners_37 p0_f_cards_37 ++ wX2 ck b0_m b0_m_y b0_m_y_sets b0_m_y_coming b0_m_y_origins b0_m_n b0_m_n_sets b0_m_n_coming b0_m_n_origins p0_m_y_sets p0_m_y_coming p0_m_y_origins p0_m_y_round p0_m_n_sets p0_m_n_coming p0_m_n_origins p0_m_n_round p0_m_rounds ++ wX2 ck b0_s b0_s_y b0_s_y_sets b0_s_y_coming b0_s_y_origins b0_s_n b0_s_n_sets b0_s_n_coming b0_s_n_origins p0_s_y_sets_37 p0_s_y_coming_37 p0_s_y_origins_37 p0_s_y_round_37 p0_s_n_sets_37 p0_s_n_coming_37 p0_s_n_origins_37 p0_s_n_round_37 p0_s_rounds_37 ++ wX1 ck b0_h b0_hs p0_h_ad p0_h_len p0_h_st ++ wX3 ck b0_p b0_p_text p0_p_text p0_p_length ++ [(b1, .inl (ck 0, 19, .inl p1_row))]) → va_S A s.heap H locs → ∀ ls : Array Slot, lv_has ls 11 [(10, .int r_57), (9, .int v9_53), (7, .int r_21), (6, .int r_7), (0, .ref b0), (2, .int v2), (3, .int v3), (4, .int v4), (5, .int v5)] → W p l e (headSpec wsL_asks ({ frames := 8, cells := 0, slots := 0, locals := 187 })).room s m [.ref b0, .ref b1, .int v2, .int v3, .int v4, .int v5].toArray below meth c H locs 0 0 (MQ below (QI (dC, dI) ([(b0, .inr (5, [.ref b0_f, .ref b0_m, .ref b0_s, .ref b0_h, .ref b0_slots, .ref b0_p]))] ++ wX0 ck b0_f b0_f_kinds b0_f_owners b0_f_cards p0_f_players o1 o2 o3 o4 ++ wX2 ck b0_m b0_m_y b0_m_y_sets b0_m_y_coming b0_m_y_origins b0_m_n b0_m_n_sets b0_m_n_coming b0_m_n_origins o5 o6 o7 o8 o9 o10 o11 o12 o13 ++ wX2 ck b0_s b0_s_y b0_s_y_sets b0_s_y_coming b0_s_y_origins b0_s_n b0_s_n_sets b0_s_n_coming b0_s_n_origins o14 o15 o16 o17 o18 o19 o20 o21 o22 ++ wX1 ck b0_h b0_hs o23 o24 o25 ++ wX3 ck b0_p b0_p_text p0_p_text p0_p_length ++ [(b1, .inl (ck 0, 19, .inl p1_row))]) o0 A) [.ref b0, .ref b1, .int v2, .int v3, .int v4, .int v5].toArray s 0 0 A) (F0 m 79 ls []) := by
      intro  h H locs hP hD hS ls hl
      unfold f_L_asks_J79 at h
      refine lv_aload_n hx hb dL_asks_79 rfl (lv_at hl 4 rfl) ?_
      refine lv_iload_n hx hb dL_asks_80 rfl (lv_at hl 5 rfl) ?_
      refine lv_iload hx hb dL_asks_81 (lv_at hl 3 rfl) ?_
      refine lv_iload_n hx hb dL_asks_83 rfl (lv_at hl 6 rfl) ?_
      refine lv_iload hx hb dL_asks_84 (lv_at hl 7 rfl) ?_
      refine lv_iload hx hb dL_asks_86 (lv_at hl 8 rfl) ?_
      obtain ⟨r_88, p0_f_told_88, p0_f_kinds_88, p0_f_owners_88, p0_f_cards_88, p0_m_y_sets_88, p0_m_y_coming_88, p0_m_y_origins_88, p0_m_y_round_88, p0_m_n_sets_88, p0_m_n_coming_88, p0_m_n_origins_88, p0_m_n_round_88, p0_m_rounds_88, p0_h_ad_88, p0_h_len_88, p0_h_st_88, q_88, h⟩ := ob17_e h
      refine cMI (wc := [(b0, .inr (5, [.ref b0_f, .ref b0_m, .ref b0_s, .ref b0_h, .ref b0_slots, .ref b0_p]))] ++ wX0 ck b0_f b0_f_kinds b0_f_owners b0_f_cards p0_f_players p0_f_told_37 p0_f_kinds_37 p0_f_owners_37 p0_f_cards_37 ++ wX2 ck b0_m b0_m_y b0_m_y_sets b0_m_y_coming b0_m_y_origins b0_m_n b0_m_n_sets b0_m_n_coming b0_m_n_origins p0_m_y_sets p0_m_y_coming p0_m_y_origins p0_m_y_round p0_m_n_sets p0_m_n_coming p0_m_n_origins p0_m_n_round p0_m_rounds ++ wX1 ck b0_h b0_hs p0_h_ad p0_h_len p0_h_st) (wr := wX2 ck b0_s b0_s_y b0_s_y_sets b0_s_y_coming b0_s_y_origins b0_s_n b0_s_n_sets b0_s_n_coming b0_s_n_origins p0_s_y_sets_37 p0_s_y_coming_37 p0_s_y_origins_37 p0_s_y_round_37 p0_s_n_sets_37 p0_s_n_coming_37 p0_s_n_origins_37 p0_s_n_round_37 p0_s_rounds_37 ++ wX3 ck b0_p b0_p_text p0_p_text p0_p_length ++ [(b1, .inl (ck 0, 19, .inl p1_row))]) (w1 := [(b0, .inr (5, [.ref b0_f, .ref b0_m, .ref b0_s, .ref b0_h, .ref b0_slots, .ref b0_p]))] ++ wX0 ck b0_f b0_f_kinds b0_f_owners b0_f_cards p0_f_players p0_f_told_88 p0_f_kinds_88 p0_f_owners_88 p0_f_cards_88 ++ wX2 ck b0_m b0_m_y b0_m_y_sets b0_m_y_coming b0_m_y_origins b0_m_n b0_m_n_sets b0_m_n_coming b0_m_n_origins p0_m_y_sets_88 p0_m_y_coming_88 p0_m_y_origins_88 p0_m_y_round_88 p0_m_n_sets_88 p0_m_n_coming_88 p0_m_n_origins_88 p0_m_n_round_88 p0_m_rounds_88 ++ wX1 ck b0_h b0_hs p0_h_ad_88 p0_h_len_88 p0_h_st_88) (wn := [(b0, .inr (5, [.ref b0_f, .ref b0_m, .ref b0_s, .ref b0_h, .ref b0_slots, .ref b0_p]))] ++ wX0 ck b0_f b0_f_kinds b0_f_owners b0_f_cards p0_f_players p0_f_told_88 p0_f_kinds_88 p0_f_owners_88 p0_f_cards_88 ++ wX2 ck b0_m b0_m_y b0_m_y_sets b0_m_y_coming b0_m_y_origins b0_m_n b0_m_n_sets b0_m_n_coming b0_m_n_origins p0_m_y_sets_88 p0_m_y_coming_88 p0_m_y_origins_88 p0_m_y_round_88 p0_m_n_sets_88 p0_m_n_coming_88 p0_m_n_origins_88 p0_m_n_round_88 p0_m_rounds_88 ++ wX2 ck b0_s b0_s_y b0_s_y_sets b0_s_y_coming b0_s_y_origins b0_s_n b0_s_n_sets b0_s_n_coming b0_s_n_origins p0_s_y_sets_37 p0_s_y_coming_37 p0_s_y_origins_37 p0_s_y_round_37 p0_s_n_sets_37 p0_s_n_coming_37 p0_s_n_origins_37 p0_s_n_round_37 p0_s_rounds_37 ++ wX1 ck b0_h b0_hs p0_h_ad_88 p0_h_len_88 p0_h_st_88 ++ wX3 ck b0_p b0_p_text p0_p_text p0_p_length ++ [(b1, .inl (ck 0, 19, .inl p1_row))]) ⟨hx, hb, hml, hown, hts⟩ hK hP hD hS hA [0, 1, 2, 3, 4, 5, 6, 7, 8, 9, 10, 11, 12, 13, 23, 24, 25, 26, 27, 28, 29, 30, 31, 32, 33, 34, 35, 36, 37, 38, 39, 40, 41, 42, 43, 44, 45, 46, 47, 48] [14, 15, 16, 17, 18, 19, 20, 21, 22, 49, 50, 51] [12, 13, 14, 15, 16, 17, 18, 19, 20, 21, 22, 23, 24, 25, 0, 1, 2, 3, 4, 5, 6, 7, 8, 26, 27, 28, 29, 30, 31, 32, 33, 34, 35, 36, 37, 38, 39, 40, 41, 42, 43, 44, 45, 46, 47, 48, 49, 50, 51, 9, 10, 11] rfl (by decide) rfl (by decide) (by decide) rfl (by decide) (c_X5_answers l dC dI ck b0 b0_f b0_f_kinds b0_f_owners b0_f_cards b0_m b0_m_y b0_m_y_sets b0_m_y_coming b0_m_y_origins b0_m_n b0_m_n_sets b0_m_n_coming b0_m_n_origins b0_s b0_h b0_hs b0_slots b0_p b0_f b0_f_kinds b0_f_owners b0_f_cards b0_m b0_m_y b0_m_y_sets b0_m_y_coming b0_m_y_origins b0_m_n b0_m_n_sets b0_m_n_coming b0_m_n_origins b0_h b0_hs p0_f_players p0_f_told_37 p0_f_kinds_37 p0_f_owners_37 p0_f_cards_37 p0_m_y_sets p0_m_y_coming p0_m_y_origins p0_m_y_round p0_m_n_sets p0_m_n_coming p0_m_n_origins p0_m_n_round p0_m_rounds p0_h_ad p0_h_len p0_h_st v2 r_7 v3 v4 v5 r_88 p0_f_told_88 p0_f_kinds_88 p0_f_owners_88 p0_f_cards_88 p0_m_y_sets_88 p0_m_y_coming_88 p0_m_y_origins_88 p0_m_y_round_88 p0_m_n_sets_88 p0_m_n_coming_88 p0_m_n_origins_88 p0_m_n_round_88 p0_m_rounds_88 p0_h_ad_88 p0_h_len_88 p0_h_st_88 q_88) (cwV 5 hts gL_asks_X5_answers rfl rfl rfl (by decide +kernel) ⟨Nat.le_of_ble_eq_true rfl, Nat.le_of_ble_eq_true rfl⟩) 0 rfl rfl rfl hl.1 rfl (Nat.le_of_ble_eq_true rfl) dL_asks_88 ⟨Nat.zero_le _, Nat.zero_le _⟩ (fun H locs hP hD hS => ?_)
      refine lv_iload hx hb dL_asks_91 (lv_at hl 1 rfl) ?_
      refine lv_iload hx hb dL_asks_93 (lv_at hl 2 rfl) ?_
      refine lv_iadd hx hb dL_asks_95 ?_
      refine lv_icmp_ne (tgt := 181) hx hb dL_asks_96 (by decide) (fun c_96 => ?_) (fun c_96 => ?_)
      · have h := if_f h c_96
        refine lv_iconst (v := (0 : Int32)) hx hb dL_asks_181 rfl ?_
        cases h
        exact eMz hx hb hr hlk hP hD hS rfl rfl dL_asks_182
      · have h := if_t h c_96
        refine lv_aload_n hx hb dL_asks_99 rfl (lv_at hl 4 rfl) ?_
        refine lv_iconst (v := (1 : Int32)) hx hb dL_asks_100 rfl ?_
        obtain ⟨r_101, q_101, h⟩ := ob1_e h
        refine cRV (wc := [(b0, .inr (5, [.ref b0_f, .ref b0_m, .ref b0_s, .ref b0_h, .ref b0_slots, .ref b0_p]))] ++ wX0 ck b0_f b0_f_kinds b0_f_owners b0_f_cards p0_f_players p0_f_told_88 p0_f_kinds_88 p0_f_owners_88 p0_f_cards_88 ++ wX2 ck b0_m b0_m_y b0_m_y_sets b0_m_y_coming b0_m_y_origins b0_m_n b0_m_n_sets b0_m_n_coming b0_m_n_origins p0_m_y_sets_88 p0_m_y_coming_88 p0_m_y_origins_88 p0_m_y_round_88 p0_m_n_sets_88 p0_m_n_coming_88 p0_m_n_origins_88 p0_m_n_round_88 p0_m_rounds_88 ++ wX1 ck b0_h b0_hs p0_h_ad_88 p0_h_len_88 p0_h_st_88 ++ wX3 ck b0_p b0_p_text p0_p_text p0_p_length) ⟨hx, hb, hml, hown, hts⟩ hK hP [0, 1, 2, 3, 4, 5, 6, 7, 8, 9, 10, 11, 12, 13, 23, 24, 25, 26, 27, 28, 29, 30, 31, 32, 33, 34, 35, 36, 37, 38, 39, 40, 41, 42, 43, 44, 45, 46, 47, 48, 49, 50] rfl (c_X5_count l dC dI ck b0 b0_f b0_f_kinds b0_f_owners b0_f_cards b0_m b0_m_y b0_m_y_sets b0_m_y_coming b0_m_y_origins b0_m_n b0_m_n_sets b0_m_n_coming b0_m_n_origins b0_s b0_h b0_hs b0_slots b0_p b0_p_text b0_f b0_f_kinds b0_f_owners b0_f_cards b0_m b0_m_y b0_m_y_sets b0_m_y_coming b0_m_y_origins b0_m_n b0_m_n_sets b0_m_n_coming b0_m_n_origins b0_h b0_hs b0_p b0_p_text p0_f_players p0_f_told_88 p0_f_kinds_88 p0_f_owners_88 p0_f_cards_88 p0_m_y_sets_88 p0_m_y_coming_88 p0_m_y_origins_88 p0_m_y_round_88 p0_m_n_sets_88 p0_m_n_coming_88 p0_m_n_origins_88 p0_m_n_round_88 p0_m_rounds_88 p0_h_ad_88 p0_h_len_88 p0_h_st_88 p0_p_text p0_p_length (1 : Int32) r_101 q_101) (cwV 1 hts gL_asks_X5_count rfl rfl rfl (by decide +kernel) ⟨Nat.le_of_ble_eq_true rfl, Nat.le_of_ble_eq_true rfl⟩) 0 rfl rfl rfl hl.1 rfl (Nat.le_of_ble_eq_true rfl) dL_asks_101 ⟨Nat.zero_le _, Nat.zero_le _⟩ ?_
        refine lv_iload hx hb dL_asks_104 (lv_at hl 0 rfl) ?_
        refine lv_iconst (v := (1 : Int32)) hx hb dL_asks_106 rfl ?_
        refine lv_iadd hx hb dL_asks_107 ?_
        refine lv_icmp_ne (tgt := 181) hx hb dL_asks_108 (by decide) (fun c_108 => ?_) (fun c_108 => ?_)
        · have h := if_f h c_108
          refine lv_iconst (v := (0 : Int32)) hx hb dL_asks_181 rfl ?_
          cases h
          exact eMz hx hb hr hlk hP hD hS rfl rfl dL_asks_182
        · have h := if_t h c_108
          refine lv_aload_n hx hb dL_asks_111 rfl (lv_at hl 4 rfl) ?_
          refine lv_iload hx hb dL_asks_112 (lv_at hl 0 rfl) ?_
          refine lv_iconst (v := (0 : Int32)) hx hb dL_asks_114 rfl ?_
          obtain ⟨r_115, q_115, h⟩ := ob1_e h
          refine cRV (wc := [(b0, .inr (5, [.ref b0_f, .ref b0_m, .ref b0_s, .ref b0_h, .ref b0_slots, .ref b0_p]))] ++ wX0 ck b0_f b0_f_kinds b0_f_owners b0_f_cards p0_f_players p0_f_told_88 p0_f_kinds_88 p0_f_owners_88 p0_f_cards_88) ⟨hx, hb, hml, hown, hts⟩ hK hP [0, 1, 2, 3, 4] rfl (c_X5_ofFact l dC dI ck b0 b0_f b0_f_kinds b0_f_owners b0_f_cards b0_m b0_s b0_h b0_slots b0_p b0_f b0_f_kinds b0_f_owners b0_f_cards p0_f_players p0_f_told_88 p0_f_kinds_88 p0_f_owners_88 p0_f_cards_88 r_57 (0 : Int32) r_115 q_115) (cwV 2 hts gL_asks_X5_ofFact rfl rfl rfl (by decide +kernel) ⟨Nat.le_of_ble_eq_true rfl, Nat.le_of_ble_eq_true rfl⟩) 0 rfl rfl rfl hl.1 rfl (Nat.le_of_ble_eq_true rfl) dL_asks_115 ⟨Nat.zero_le _, Nat.zero_le _⟩ ?_
          refine lv_iconst (v := (1 : Int32)) hx hb dL_asks_118 rfl ?_
          refine lv_iload hx hb dL_asks_119 (lv_at hl 3 rfl) ?_
          refine lv_iadd hx hb dL_asks_121 ?_
          refine lv_icmp_ne (tgt := 181) hx hb dL_asks_122 (by decide) (fun c_122 => ?_) (fun c_122 => ?_)
          · have h := if_f h c_122
            refine lv_iconst (v := (0 : Int32)) hx hb dL_asks_181 rfl ?_
            cases h
            exact eMz hx hb hr hlk hP hD hS rfl rfl dL_asks_182
          · have h := if_t h c_122
            refine lv_aload_n hx hb dL_asks_125 rfl (lv_at hl 4 rfl) ?_
            refine lv_iload hx hb dL_asks_126 (lv_at hl 0 rfl) ?_
            refine lv_iconst (v := (1 : Int32)) hx hb dL_asks_128 rfl ?_
            obtain ⟨r_129, q_129, h⟩ := ob1_e h
            refine cRV (wc := [(b0, .inr (5, [.ref b0_f, .ref b0_m, .ref b0_s, .ref b0_h, .ref b0_slots, .ref b0_p]))] ++ wX0 ck b0_f b0_f_kinds b0_f_owners b0_f_cards p0_f_players p0_f_told_88 p0_f_kinds_88 p0_f_owners_88 p0_f_cards_88) ⟨hx, hb, hml, hown, hts⟩ hK hP [0, 1, 2, 3, 4] rfl (c_X5_ofFact l dC dI ck b0 b0_f b0_f_kinds b0_f_owners b0_f_cards b0_m b0_s b0_h b0_slots b0_p b0_f b0_f_kinds b0_f_owners b0_f_cards p0_f_players p0_f_told_88 p0_f_kinds_88 p0_f_owners_88 p0_f_cards_88 r_57 (1 : Int32) r_129 q_129) (cwV 2 hts gL_asks_X5_ofFact rfl rfl rfl (by decide +kernel) ⟨Nat.le_of_ble_eq_true rfl, Nat.le_of_ble_eq_true rfl⟩) 0 rfl rfl rfl hl.1 rfl (Nat.le_of_ble_eq_true rfl) dL_asks_129 ⟨Nat.zero_le _, Nat.zero_le _⟩ ?_
            refine lv_iload_n hx hb dL_asks_132 rfl (lv_at hl 5 rfl) ?_
            refine lv_icmp_ne (tgt := 181) hx hb dL_asks_133 (by decide) (fun c_133 => ?_) (fun c_133 => ?_)
            · have h := if_f h c_133
              refine lv_iconst (v := (0 : Int32)) hx hb dL_asks_181 rfl ?_
              cases h
              exact eMz hx hb hr hlk hP hD hS rfl rfl dL_asks_182
            · have h := if_t h c_133
              refine lv_aload_n hx hb dL_asks_136 rfl (lv_at hl 4 rfl) ?_
              refine lv_iload hx hb dL_asks_137 (lv_at hl 0 rfl) ?_
              refine lv_iconst (v := (2 : Int32)) hx hb dL_asks_139 rfl ?_
              obtain ⟨r_140, q_140, h⟩ := ob1_e h
              refine cRV (wc := [(b0, .inr (5, [.ref b0_f, .ref b0_m, .ref b0_s, .ref b0_h, .ref b0_slots, .ref b0_p]))] ++ wX0 ck b0_f b0_f_kinds b0_f_owners b0_f_cards p0_f_players p0_f_told_88 p0_f_kinds_88 p0_f_owners_88 p0_f_cards_88) ⟨hx, hb, hml, hown, hts⟩ hK hP [0, 1, 2, 3, 4] rfl (c_X5_ofFact l dC dI ck b0 b0_f b0_f_kinds b0_f_owners b0_f_cards b0_m b0_s b0_h b0_slots b0_p b0_f b0_f_kinds b0_f_owners b0_f_cards p0_f_players p0_f_told_88 p0_f_kinds_88 p0_f_owners_88 p0_f_cards_88 r_57 (2 : Int32) r_140 q_140) (cwV 2 hts gL_asks_X5_ofFact rfl rfl rfl (by decide +kernel) ⟨Nat.le_of_ble_eq_true rfl, Nat.le_of_ble_eq_true rfl⟩) 0 rfl rfl rfl hl.1 rfl (Nat.le_of_ble_eq_true rfl) dL_asks_140 ⟨Nat.zero_le _, Nat.zero_le _⟩ ?_
              refine lv_iload_n hx hb dL_asks_143 rfl (lv_at hl 6 rfl) ?_
              refine lv_icmp_ne (tgt := 181) hx hb dL_asks_144 (by decide) (fun c_144 => ?_) (fun c_144 => ?_)
              · have h := if_f h c_144
                refine lv_iconst (v := (0 : Int32)) hx hb dL_asks_181 rfl ?_
                cases h
                exact eMz hx hb hr hlk hP hD hS rfl rfl dL_asks_182
              · have h := if_t h c_144
                refine lv_aload_n hx hb dL_asks_147 rfl (lv_at hl 4 rfl) ?_
                refine lv_iload hx hb dL_asks_148 (lv_at hl 0 rfl) ?_
                refine lv_iconst (v := (3 : Int32)) hx hb dL_asks_150 rfl ?_
                obtain ⟨r_151, q_151, h⟩ := ob1_e h
                refine cRV (wc := [(b0, .inr (5, [.ref b0_f, .ref b0_m, .ref b0_s, .ref b0_h, .ref b0_slots, .ref b0_p]))] ++ wX0 ck b0_f b0_f_kinds b0_f_owners b0_f_cards p0_f_players p0_f_told_88 p0_f_kinds_88 p0_f_owners_88 p0_f_cards_88) ⟨hx, hb, hml, hown, hts⟩ hK hP [0, 1, 2, 3, 4] rfl (c_X5_ofFact l dC dI ck b0 b0_f b0_f_kinds b0_f_owners b0_f_cards b0_m b0_s b0_h b0_slots b0_p b0_f b0_f_kinds b0_f_owners b0_f_cards p0_f_players p0_f_told_88 p0_f_kinds_88 p0_f_owners_88 p0_f_cards_88 r_57 (3 : Int32) r_151 q_151) (cwV 2 hts gL_asks_X5_ofFact rfl rfl rfl (by decide +kernel) ⟨Nat.le_of_ble_eq_true rfl, Nat.le_of_ble_eq_true rfl⟩) 0 rfl rfl rfl hl.1 rfl (Nat.le_of_ble_eq_true rfl) dL_asks_151 ⟨Nat.zero_le _, Nat.zero_le _⟩ ?_
                refine lv_bipush (v := (6 : Int32)) hx hb dL_asks_154 rfl ?_
                refine lv_iload hx hb dL_asks_156 (lv_at hl 7 rfl) ?_
                refine lv_iadd hx hb dL_asks_158 ?_
                refine lv_icmp_ne (tgt := 181) hx hb dL_asks_159 (by decide) (fun c_159 => ?_) (fun c_159 => ?_)
                · have h := if_f h c_159
                  refine lv_iconst (v := (0 : Int32)) hx hb dL_asks_181 rfl ?_
                  cases h
                  exact eMz hx hb hr hlk hP hD hS rfl rfl dL_asks_182
                · have h := if_t h c_159
                  refine lv_aload_n hx hb dL_asks_162 rfl (lv_at hl 4 rfl) ?_
                  refine lv_iload hx hb dL_asks_163 (lv_at hl 0 rfl) ?_
                  refine lv_iconst (v := (4 : Int32)) hx hb dL_asks_165 rfl ?_
                  obtain ⟨r_166, q_166, h⟩ := ob1_e h
                  refine cRV (wc := [(b0, .inr (5, [.ref b0_f, .ref b0_m, .ref b0_s, .ref b0_h, .ref b0_slots, .ref b0_p]))] ++ wX0 ck b0_f b0_f_kinds b0_f_owners b0_f_cards p0_f_players p0_f_told_88 p0_f_kinds_88 p0_f_owners_88 p0_f_cards_88) ⟨hx, hb, hml, hown, hts⟩ hK hP [0, 1, 2, 3, 4] rfl (c_X5_ofFact l dC dI ck b0 b0_f b0_f_kinds b0_f_owners b0_f_cards b0_m b0_s b0_h b0_slots b0_p b0_f b0_f_kinds b0_f_owners b0_f_cards p0_f_players p0_f_told_88 p0_f_kinds_88 p0_f_owners_88 p0_f_cards_88 r_57 (4 : Int32) r_166 q_166) (cwV 2 hts gL_asks_X5_ofFact rfl rfl rfl (by decide +kernel) ⟨Nat.le_of_ble_eq_true rfl, Nat.le_of_ble_eq_true rfl⟩) 0 rfl rfl rfl hl.1 rfl (Nat.le_of_ble_eq_true rfl) dL_asks_166 ⟨Nat.zero_le _, Nat.zero_le _⟩ ?_
                  refine lv_bipush (v := (12 : Int32)) hx hb dL_asks_169 rfl ?_
                  refine lv_iload hx hb dL_asks_171 (lv_at hl 8 rfl) ?_
                  refine lv_iadd hx hb dL_asks_173 ?_
                  refine lv_icmp_ne (tgt := 181) hx hb dL_asks_174 (by decide) (fun c_174 => ?_) (fun c_174 => ?_)
                  · have h := if_f h c_174
                    refine lv_iconst (v := (0 : Int32)) hx hb dL_asks_181 rfl ?_
                    cases h
                    exact eMz hx hb hr hlk hP hD hS rfl rfl dL_asks_182
                  · have h := if_t h c_174
                    refine lv_iconst (v := (1 : Int32)) hx hb dL_asks_177 rfl ?_
                    refine lv_goto (tgt := 182) hx hb dL_asks_178 (by decide) ?_
                    cases h
                    exact eMz hx hb hr hlk hP hD hS rfl rfl dL_asks_182
    refine lv_if_ge (tgt := 79) hx hb dL_asks_69 (by decide) (fun c_69 => ?_) (fun c_69 => ?_)
    · have h := if_t h c_69
      exact hJ79 h _ _ hP hD hS _ (lv_sub hl [0, 1, 3, 4, 5, 7, 8, 9, 10] rfl)
    · have h := if_f h c_69
      refine lv_iload hx hb dL_asks_72 (lv_at hl 2 rfl) ?_
      refine lv_bipush (v := (-6 : Int32)) hx hb dL_asks_74 rfl ?_
      refine lv_icmp_ne (tgt := 181) hx hb dL_asks_76 (by decide) (fun c_76 => ?_) (fun c_76 => ?_)
      · have h := if_f h c_76
        refine lv_iconst (v := (0 : Int32)) hx hb dL_asks_181 rfl ?_
        cases h
        exact eMz hx hb hr hlk hP hD hS rfl rfl dL_asks_182
      · have h := if_t h c_76
        exact hJ79 h _ _ hP hD hS _ (lv_sub hl [0, 1, 3, 4, 5, 7, 8, 9, 10] rfl)
noncomputable def f_L_musts_J12 (p0_f_players : Int32) (p0_f_told : Int32) (p0_f_kinds : Nat → Int32) (p0_f_owners : Nat → Int32) (p0_f_cards : Nat → Int32) (p0_m_y_sets : Nat → Int32) (p0_m_y_origins : Nat → Int32) (p0_m_n_sets : Nat → Int32) (p0_m_n_origins : Nat → Int32) (p0_s_y_sets : Nat → Int32) (p0_s_y_coming : Nat → Int32) (p0_s_y_origins : Nat → Int32) (p0_s_y_round : Int32) (p0_s_n_sets : Nat → Int32) (p0_s_n_coming : Nat → Int32) (p0_s_n_origins : Nat → Int32) (p0_s_n_round : Int32) (p0_s_rounds : Int32) (v2 : Int32) (v3 : Int32) (t0_J12 : Int32) : Option (Int32 × (Nat → Int32) × (Nat → Int32) × (Nat → Int32) × Int32 × (Nat → Int32) × (Nat → Int32) × (Nat → Int32) × Int32 × Int32) :=
  ob10 (f_X5_must p0_f_players p0_f_told p0_f_kinds p0_f_owners p0_f_cards p0_m_y_sets p0_m_n_sets p0_s_y_sets p0_s_y_coming p0_s_y_origins p0_s_y_round p0_s_n_sets p0_s_n_coming p0_s_n_origins p0_s_n_round p0_s_rounds v2 v3) (fun (r_17 : Int32) (p0_s_y_sets_17 : Nat → Int32) (p0_s_y_coming_17 : Nat → Int32) (p0_s_y_origins_17 : Nat → Int32) (p0_s_y_round_17 : Int32) (p0_s_n_sets_17 : Nat → Int32) (p0_s_n_coming_17 : Nat → Int32) (p0_s_n_origins_17 : Nat → Int32) (p0_s_n_round_17 : Int32) (p0_s_rounds_17 : Int32) => ob1 (f_X5_mark p0_f_players p0_m_y_sets p0_m_y_origins p0_m_n_sets p0_m_n_origins v2 v3 (0 : Int32)) (fun (r_26 : Int32) => if r_17 = (0 : Int32) then (some ((1 : Int32), p0_s_y_sets_17, p0_s_y_coming_17, p0_s_y_origins_17, p0_s_y_round_17, p0_s_n_sets_17, p0_s_n_coming_17, p0_s_n_origins_17, p0_s_n_round_17, p0_s_rounds_17)) else (if t0_J12 = (0 : Int32) then (if r_17 = (2 : Int32) then (if r_26 = (0 : Int32) then (some ((1 : Int32), p0_s_y_sets_17, p0_s_y_coming_17, p0_s_y_origins_17, p0_s_y_round_17, p0_s_n_sets_17, p0_s_n_coming_17, p0_s_n_origins_17, p0_s_n_round_17, p0_s_rounds_17)) else (if t0_J12 = (0 : Int32) then (if r_26 = (2 : Int32) then (some ((1 : Int32), p0_s_y_sets_17, p0_s_y_coming_17, p0_s_y_origins_17, p0_s_y_round_17, p0_s_n_sets_17, p0_s_n_coming_17, p0_s_n_origins_17, p0_s_n_round_17, p0_s_rounds_17)) else (some ((0 : Int32), p0_s_y_sets_17, p0_s_y_coming_17, p0_s_y_origins_17, p0_s_y_round_17, p0_s_n_sets_17, p0_s_n_coming_17, p0_s_n_origins_17, p0_s_n_round_17, p0_s_rounds_17))) else (if r_26 = (1 : Int32) then (some ((1 : Int32), p0_s_y_sets_17, p0_s_y_coming_17, p0_s_y_origins_17, p0_s_y_round_17, p0_s_n_sets_17, p0_s_n_coming_17, p0_s_n_origins_17, p0_s_n_round_17, p0_s_rounds_17)) else (some ((0 : Int32), p0_s_y_sets_17, p0_s_y_coming_17, p0_s_y_origins_17, p0_s_y_round_17, p0_s_n_sets_17, p0_s_n_coming_17, p0_s_n_origins_17, p0_s_n_round_17, p0_s_rounds_17))))) else (some ((0 : Int32), p0_s_y_sets_17, p0_s_y_coming_17, p0_s_y_origins_17, p0_s_y_round_17, p0_s_n_sets_17, p0_s_n_coming_17, p0_s_n_origins_17, p0_s_n_round_17, p0_s_rounds_17))) else (if r_17 = (1 : Int32) then (if r_26 = (0 : Int32) then (some ((1 : Int32), p0_s_y_sets_17, p0_s_y_coming_17, p0_s_y_origins_17, p0_s_y_round_17, p0_s_n_sets_17, p0_s_n_coming_17, p0_s_n_origins_17, p0_s_n_round_17, p0_s_rounds_17)) else (if t0_J12 = (0 : Int32) then (if r_26 = (2 : Int32) then (some ((1 : Int32), p0_s_y_sets_17, p0_s_y_coming_17, p0_s_y_origins_17, p0_s_y_round_17, p0_s_n_sets_17, p0_s_n_coming_17, p0_s_n_origins_17, p0_s_n_round_17, p0_s_rounds_17)) else (some ((0 : Int32), p0_s_y_sets_17, p0_s_y_coming_17, p0_s_y_origins_17, p0_s_y_round_17, p0_s_n_sets_17, p0_s_n_coming_17, p0_s_n_origins_17, p0_s_n_round_17, p0_s_rounds_17))) else (if r_26 = (1 : Int32) then (some ((1 : Int32), p0_s_y_sets_17, p0_s_y_coming_17, p0_s_y_origins_17, p0_s_y_round_17, p0_s_n_sets_17, p0_s_n_coming_17, p0_s_n_origins_17, p0_s_n_round_17, p0_s_rounds_17)) else (some ((0 : Int32), p0_s_y_sets_17, p0_s_y_coming_17, p0_s_y_origins_17, p0_s_y_round_17, p0_s_n_sets_17, p0_s_n_coming_17, p0_s_n_origins_17, p0_s_n_round_17, p0_s_rounds_17))))) else (some ((0 : Int32), p0_s_y_sets_17, p0_s_y_coming_17, p0_s_y_origins_17, p0_s_y_round_17, p0_s_n_sets_17, p0_s_n_coming_17, p0_s_n_origins_17, p0_s_n_round_17, p0_s_rounds_17))))))
noncomputable def f_L_musts (p0_f_players : Int32) (p0_f_told : Int32) (p0_f_kinds : Nat → Int32) (p0_f_owners : Nat → Int32) (p0_f_cards : Nat → Int32) (p0_m_y_sets : Nat → Int32) (p0_m_y_origins : Nat → Int32) (p0_m_n_sets : Nat → Int32) (p0_m_n_origins : Nat → Int32) (p0_s_y_sets : Nat → Int32) (p0_s_y_coming : Nat → Int32) (p0_s_y_origins : Nat → Int32) (p0_s_y_round : Int32) (p0_s_n_sets : Nat → Int32) (p0_s_n_coming : Nat → Int32) (p0_s_n_origins : Nat → Int32) (p0_s_n_round : Int32) (p0_s_rounds : Int32) (p1_row : Nat → Int32) (v2 : Int32) (v3 : Int32) : Option (Int32 × (Nat → Int32) × (Nat → Int32) × (Nat → Int32) × Int32 × (Nat → Int32) × (Nat → Int32) × (Nat → Int32) × Int32 × Int32) :=
  gd v3 19 (if (p1_row v3.toNatClampNeg) = v2 then (f_L_musts_J12 p0_f_players p0_f_told p0_f_kinds p0_f_owners p0_f_cards p0_m_y_sets p0_m_y_origins p0_m_n_sets p0_m_n_origins p0_s_y_sets p0_s_y_coming p0_s_y_origins p0_s_y_round p0_s_n_sets p0_s_n_coming p0_s_n_origins p0_s_n_round p0_s_rounds v2 v3 (1 : Int32)) else (f_L_musts_J12 p0_f_players p0_f_told p0_f_kinds p0_f_owners p0_f_cards p0_m_y_sets p0_m_y_origins p0_m_n_sets p0_m_n_origins p0_s_y_sets p0_s_y_coming p0_s_y_origins p0_s_y_round p0_s_n_sets p0_s_n_coming p0_s_n_origins p0_s_n_round p0_s_rounds v2 v3 (0 : Int32)))
set_option maxHeartbeats 4000000 in
set_option maxRecDepth 100000 in
theorem c_L_musts (l : Launch) (dC : Nat → ClassId) (dI : Nat → Nat → Nat) (ck : Nat → ClassId) (b0 b0_f b0_f_kinds b0_f_owners b0_f_cards b0_m b0_m_y b0_m_y_sets b0_m_y_coming b0_m_y_origins b0_m_n b0_m_n_sets b0_m_n_coming b0_m_n_origins b0_s b0_s_y b0_s_y_sets b0_s_y_coming b0_s_y_origins b0_s_n b0_s_n_sets b0_s_n_coming b0_s_n_origins b0_h b0_slots b0_p b0_f b0_f_kinds b0_f_owners b0_f_cards b0_m b0_m_y b0_m_y_sets b0_m_y_coming b0_m_y_origins b0_m_n b0_m_n_sets b0_m_n_coming b0_m_n_origins b0_s b0_s_y b0_s_y_sets b0_s_y_coming b0_s_y_origins b0_s_n b0_s_n_sets b0_s_n_coming b0_s_n_origins b1 : Nat) (p0_f_players : Int32) (p0_f_told : Int32) (p0_f_kinds : Nat → Int32) (p0_f_owners : Nat → Int32) (p0_f_cards : Nat → Int32) (p0_m_y_sets : Nat → Int32) (p0_m_y_coming : Nat → Int32) (p0_m_y_origins : Nat → Int32) (p0_m_y_round : Int32) (p0_m_n_sets : Nat → Int32) (p0_m_n_coming : Nat → Int32) (p0_m_n_origins : Nat → Int32) (p0_m_n_round : Int32) (p0_m_rounds : Int32) (p0_s_y_sets : Nat → Int32) (p0_s_y_coming : Nat → Int32) (p0_s_y_origins : Nat → Int32) (p0_s_y_round : Int32) (p0_s_n_sets : Nat → Int32) (p0_s_n_coming : Nat → Int32) (p0_s_n_origins : Nat → Int32) (p0_s_n_round : Int32) (p0_s_rounds : Int32) (p1_row : Nat → Int32) (v2 : Int32) (v3 : Int32) (o0 : Int32) (o1 : Nat → Int32) (o2 : Nat → Int32) (o3 : Nat → Int32) (o4 : Int32) (o5 : Nat → Int32) (o6 : Nat → Int32) (o7 : Nat → Int32) (o8 : Int32) (o9 : Int32) (h : f_L_musts p0_f_players p0_f_told p0_f_kinds p0_f_owners p0_f_cards p0_m_y_sets p0_m_y_origins p0_m_n_sets p0_m_n_origins p0_s_y_sets p0_s_y_coming p0_s_y_origins p0_s_y_round p0_s_n_sets p0_s_n_coming p0_s_n_origins p0_s_n_round p0_s_rounds p1_row v2 v3 = some (o0, o1, o2, o3, o4, o5, o6, o7, o8, o9)) : MI l yL_musts wsL_musts ({ frames := 7, cells := 0, slots := 0, locals := 161 }) [.ref b0, .ref b1, .int v2, .int v3] (dC, dI) ck ([(b0, .inr (5, [.ref b0_f, .ref b0_m, .ref b0_s, .ref b0_h, .ref b0_slots, .ref b0_p]))] ++ wX0 ck b0_f b0_f_kinds b0_f_owners b0_f_cards p0_f_players p0_f_told p0_f_kinds p0_f_owners p0_f_cards ++ wX2 ck b0_m b0_m_y b0_m_y_sets b0_m_y_coming b0_m_y_origins b0_m_n b0_m_n_sets b0_m_n_coming b0_m_n_origins p0_m_y_sets p0_m_y_coming p0_m_y_origins p0_m_y_round p0_m_n_sets p0_m_n_coming p0_m_n_origins p0_m_n_round p0_m_rounds ++ wX2 ck b0_s b0_s_y b0_s_y_sets b0_s_y_coming b0_s_y_origins b0_s_n b0_s_n_sets b0_s_n_coming b0_s_n_origins p0_s_y_sets p0_s_y_coming p0_s_y_origins p0_s_y_round p0_s_n_sets p0_s_n_coming p0_s_n_origins p0_s_n_round p0_s_rounds ++ [(b1, .inl (ck 0, 19, .inl p1_row))]) ([(b0, .inr (5, [.ref b0_f, .ref b0_m, .ref b0_s, .ref b0_h, .ref b0_slots, .ref b0_p]))] ++ wX0 ck b0_f b0_f_kinds b0_f_owners b0_f_cards p0_f_players p0_f_told p0_f_kinds p0_f_owners p0_f_cards ++ wX2 ck b0_m b0_m_y b0_m_y_sets b0_m_y_coming b0_m_y_origins b0_m_n b0_m_n_sets b0_m_n_coming b0_m_n_origins p0_m_y_sets p0_m_y_coming p0_m_y_origins p0_m_y_round p0_m_n_sets p0_m_n_coming p0_m_n_origins p0_m_n_round p0_m_rounds ++ wX2 ck b0_s b0_s_y b0_s_y_sets b0_s_y_coming b0_s_y_origins b0_s_n b0_s_n_sets b0_s_n_coming b0_s_n_origins o1 o2 o3 o4 o5 o6 o7 o8 o9 ++ [(b1, .inl (ck 0, 19, .inl p1_row))]) o0 := by
  refine MI.ofW (cc := cL_musts) (maxL := 7) (ret := (some .boolean)) (by decide +kernel) rfl (Nat.le_of_ble_eq_true rfl) ?_
  intro p e s m below meth c hx hb hr hml hts hown hlk hK hP A hA hD ls hl
  have hS : va_S A s.heap s.heap [] := va_S.rf
  have hown : s.vm.findClass RL = some m.cls := hown
  have hl : lv_has ls 7 [(0, .ref b0), (1, .ref b1), (2, .int v2), (3, .int v3)] := hl
  unfold f_L_musts at h
  refine lv_aload_n hx hb dL_musts_0 rfl (lv_at hl 1 rfl) ?_
  refine lv_iload_n hx hb dL_musts_1 rfl (lv_at hl 3 rfl) ?_
  obtain ⟨g_2, h⟩ := gd_e h
  refine va_iald hx hb hK.1 hP 23 0 rfl rfl g_2 dL_musts_2 ?_
  refine lv_iload_n hx hb dL_musts_3 rfl (lv_at hl 2 rfl) ?_
  have hJ12 : ∀ (t0_J12 : Int32), f_L_musts_J12 p0_f_players p0_f_told p0_f_kinds p0_f_owners p0_f_cards p0_m_y_sets p0_m_y_origins p0_m_n_sets p0_m_n_origins p0_s_y_sets p0_s_y_coming p0_s_y_origins p0_s_y_round p0_s_n_sets p0_s_n_coming p0_s_n_origins p0_s_n_round p0_s_rounds v2 v3 t0_J12 = some (o0, o1, o2, o3, o4, o5, o6, o7, o8, o9) → ∀ (H : Heap) (locs : List Loc), va_P (dC, dI) vwCl ([(b0, .inr (5, [.ref b0_f, .ref b0_m, .ref b0_s, .ref b0_h, .ref b0_slots, .ref b0_p]))] ++ wX0 ck b0_f b0_f_kinds b0_f_owners b0_f_cards p0_f_players p0_f_told p0_f_kinds p0_f_owners p0_f_cards ++ wX2 ck b0_m b0_m_y b0_m_y_sets b0_m_y_coming b0_m_y_origins b0_m_n b0_m_n_sets b0_m_n_coming b0_m_n_origins p0_m_y_sets p0_m_y_coming p0_m_y_origins p0_m_y_round p0_m_n_sets p0_m_n_coming p0_m_n_origins p0_m_n_round p0_m_rounds ++ wX2 ck b0_s b0_s_y b0_s_y_sets b0_s_y_coming b0_s_y_origins b0_s_n b0_s_n_sets b0_s_n_coming b0_s_n_origins p0_s_y_sets p0_s_y_coming p0_s_y_origins p0_s_y_round p0_s_n_sets p0_s_n_coming p0_s_n_origins p0_s_n_round p0_s_rounds ++ [(b1, .inl (ck 0, 19, .inl p1_row))]) H → va_D A ([(b0, .inr (5, [.ref b0_f, .ref b0_m, .ref b0_s, .ref b0_h, .ref b0_slots, .ref b0_p]))] ++ wX0 ck b0_f b0_f_kinds b0_f_owners b0_f_cards p0_f_players p0_f_told p0_f_kinds p0_f_owners p0_f_cards ++ wX2 ck b0_m b0_m_y b0_m_y_sets b0_m_y_coming b0_m_y_origins b0_m_n b0_m_n_sets b0_m_n_coming b0_m_n_origins p0_m_y_sets p0_m_y_coming p0_m_y_origins p0_m_y_round p0_m_n_sets p0_m_n_coming p0_m_n_origins p0_m_n_round p0_m_rounds ++ wX2 ck b0_s b0_s_y b0_s_y_sets b0_s_y_coming b0_s_y_origins b0_s_n b0_s_n_sets b0_s_n_coming b0_s_n_origins p0_s_y_sets p0_s_y_coming p0_s_y_origins p0_s_y_round p0_s_n_sets p0_s_n_coming p0_s_n_origins p0_s_n_round p0_s_rounds ++ [(b1, .inl (ck 0, 19, .inl p1_row))]) → va_S A s.heap H locs → ∀ ls : Array Slot, lv_has ls 7 [(0, .ref b0), (2, .int v2), (3, .int v3)] → W p l e (headSpec wsL_musts ({ frames := 7, cells := 0, slots := 0, locals := 161 })).room s m [.ref b0, .ref b1, .int v2, .int v3].toArray below meth c H locs 0 0 (MQ below (QI (dC, dI) ([(b0, .inr (5, [.ref b0_f, .ref b0_m, .ref b0_s, .ref b0_h, .ref b0_slots, .ref b0_p]))] ++ wX0 ck b0_f b0_f_kinds b0_f_owners b0_f_cards p0_f_players p0_f_told p0_f_kinds p0_f_owners p0_f_cards ++ wX2 ck b0_m b0_m_y b0_m_y_sets b0_m_y_coming b0_m_y_origins b0_m_n b0_m_n_sets b0_m_n_coming b0_m_n_origins p0_m_y_sets p0_m_y_coming p0_m_y_origins p0_m_y_round p0_m_n_sets p0_m_n_coming p0_m_n_origins p0_m_n_round p0_m_rounds ++ wX2 ck b0_s b0_s_y b0_s_y_sets b0_s_y_coming b0_s_y_origins b0_s_n b0_s_n_sets b0_s_n_coming b0_s_n_origins o1 o2 o3 o4 o5 o6 o7 o8 o9 ++ [(b1, .inl (ck 0, 19, .inl p1_row))]) o0 A) [.ref b0, .ref b1, .int v2, .int v3].toArray s 0 0 A) (F0 m 12 ls [.int t0_J12]) := by
    intro t0_J12 h H locs hP hD hS ls hl
    unfold f_L_musts_J12 at h
    refine lv_istore (lv' := [(4, .int t0_J12), (0, .ref b0), (2, .int v2), (3, .int v3)]) hx hb dL_musts_12 hl (by decide) rfl (fun ls hl => ?_)
    refine lv_aload_n hx hb dL_musts_14 rfl (lv_at hl 1 rfl) ?_
    refine lv_iload_n hx hb dL_musts_15 rfl (lv_at hl 2 rfl) ?_
    refine lv_iload_n hx hb dL_musts_16 rfl (lv_at hl 3 rfl) ?_
    obtain ⟨r_17, p0_s_y_sets_17, p0_s_y_coming_17, p0_s_y_origins_17, p0_s_y_round_17, p0_s_n_sets_17, p0_s_n_coming_17, p0_s_n_origins_17, p0_s_n_round_17, p0_s_rounds_17, q_17, h⟩ := ob10_e h
    refine cMI (wc := [(b0, .inr (5, [.ref b0_f, .ref b0_m, .ref b0_s, .ref b0_h, .ref b0_slots, .ref b0_p]))] ++ wX0 ck b0_f b0_f_kinds b0_f_owners b0_f_cards p0_f_players p0_f_told p0_f_kinds p0_f_owners p0_f_cards ++ wX2 ck b0_m b0_m_y b0_m_y_sets b0_m_y_coming b0_m_y_origins b0_m_n b0_m_n_sets b0_m_n_coming b0_m_n_origins p0_m_y_sets p0_m_y_coming p0_m_y_origins p0_m_y_round p0_m_n_sets p0_m_n_coming p0_m_n_origins p0_m_n_round p0_m_rounds ++ wX2 ck b0_s b0_s_y b0_s_y_sets b0_s_y_coming b0_s_y_origins b0_s_n b0_s_n_sets b0_s_n_coming b0_s_n_origins p0_s_y_sets p0_s_y_coming p0_s_y_origins p0_s_y_round p0_s_n_sets p0_s_n_coming p0_s_n_origins p0_s_n_round p0_s_rounds) (wr := [(b1, .inl (ck 0, 19, .inl p1_row))]) (w1 := [(b0, .inr (5, [.ref b0_f, .ref b0_m, .ref b0_s, .ref b0_h, .ref b0_slots, .ref b0_p]))] ++ wX0 ck b0_f b0_f_kinds b0_f_owners b0_f_cards p0_f_players p0_f_told p0_f_kinds p0_f_owners p0_f_cards ++ wX2 ck b0_m b0_m_y b0_m_y_sets b0_m_y_coming b0_m_y_origins b0_m_n b0_m_n_sets b0_m_n_coming b0_m_n_origins p0_m_y_sets p0_m_y_coming p0_m_y_origins p0_m_y_round p0_m_n_sets p0_m_n_coming p0_m_n_origins p0_m_n_round p0_m_rounds ++ wX2 ck b0_s b0_s_y b0_s_y_sets b0_s_y_coming b0_s_y_origins b0_s_n b0_s_n_sets b0_s_n_coming b0_s_n_origins p0_s_y_sets_17 p0_s_y_coming_17 p0_s_y_origins_17 p0_s_y_round_17 p0_s_n_sets_17 p0_s_n_coming_17 p0_s_n_origins_17 p0_s_n_round_17 p0_s_rounds_17) (wn := [(b0, .inr (5, [.ref b0_f, .ref b0_m, .ref b0_s, .ref b0_h, .ref b0_slots, .ref b0_p]))] ++ wX0 ck b0_f b0_f_kinds b0_f_owners b0_f_cards p0_f_players p0_f_told p0_f_kinds p0_f_owners p0_f_cards ++ wX2 ck b0_m b0_m_y b0_m_y_sets b0_m_y_coming b0_m_y_origins b0_m_n b0_m_n_sets b0_m_n_coming b0_m_n_origins p0_m_y_sets p0_m_y_coming p0_m_y_origins p0_m_y_round p0_m_n_sets p0_m_n_coming p0_m_n_origins p0_m_n_round p0_m_rounds ++ wX2 ck b0_s b0_s_y b0_s_y_sets b0_s_y_coming b0_s_y_origins b0_s_n b0_s_n_sets b0_s_n_coming b0_s_n_origins p0_s_y_sets_17 p0_s_y_coming_17 p0_s_y_origins_17 p0_s_y_round_17 p0_s_n_sets_17 p0_s_n_coming_17 p0_s_n_origins_17 p0_s_n_round_17 p0_s_rounds_17 ++ [(b1, .inl (ck 0, 19, .inl p1_row))]) ⟨hx, hb, hml, hown, hts⟩ hK hP hD hS hA [0, 1, 2, 3, 4, 5, 6, 7, 8, 9, 10, 11, 12, 13, 14, 15, 16, 17, 18, 19, 20, 21, 22] [23] [1, 2, 3, 4, 5, 6, 7, 8, 9, 10, 11, 12, 13, 14, 15, 16, 17, 18, 19, 20, 21, 22, 23, 0] rfl (by decide) rfl (by decide) (by decide) rfl (by decide) (c_X5_must l dC dI ck b0 b0_f b0_f_kinds b0_f_owners b0_f_cards b0_m b0_m_y b0_m_y_sets b0_m_y_coming b0_m_y_origins b0_m_n b0_m_n_sets b0_m_n_coming b0_m_n_origins b0_s b0_s_y b0_s_y_sets b0_s_y_coming b0_s_y_origins b0_s_n b0_s_n_sets b0_s_n_coming b0_s_n_origins b0_h b0_slots b0_p b0_f b0_f_kinds b0_f_owners b0_f_cards b0_m b0_m_y b0_m_y_sets b0_m_y_coming b0_m_y_origins b0_m_n b0_m_n_sets b0_m_n_coming b0_m_n_origins b0_s b0_s_y b0_s_y_sets b0_s_y_coming b0_s_y_origins b0_s_n b0_s_n_sets b0_s_n_coming b0_s_n_origins p0_f_players p0_f_told p0_f_kinds p0_f_owners p0_f_cards p0_m_y_sets p0_m_y_coming p0_m_y_origins p0_m_y_round p0_m_n_sets p0_m_n_coming p0_m_n_origins p0_m_n_round p0_m_rounds p0_s_y_sets p0_s_y_coming p0_s_y_origins p0_s_y_round p0_s_n_sets p0_s_n_coming p0_s_n_origins p0_s_n_round p0_s_rounds v2 v3 r_17 p0_s_y_sets_17 p0_s_y_coming_17 p0_s_y_origins_17 p0_s_y_round_17 p0_s_n_sets_17 p0_s_n_coming_17 p0_s_n_origins_17 p0_s_n_round_17 p0_s_rounds_17 q_17) (cwV 2 hts gL_musts_X5_must rfl rfl rfl (by decide +kernel) ⟨Nat.le_of_ble_eq_true rfl, Nat.le_of_ble_eq_true rfl⟩) 0 rfl rfl rfl hl.1 rfl (Nat.le_of_ble_eq_true rfl) dL_musts_17 ⟨Nat.zero_le _, Nat.zero_le _⟩ (fun H locs hP hD hS => ?_)
    refine lv_istore (lv' := [(5, .int r_17), (4, .int t0_J12), (0, .ref b0), (2, .int v2), (3, .int v3)]) hx hb dL_musts_20 hl (by decide) rfl (fun ls hl => ?_)
    refine lv_aload_n hx hb dL_musts_22 rfl (lv_at hl 2 rfl) ?_
    refine lv_iload_n hx hb dL_musts_23 rfl (lv_at hl 3 rfl) ?_
    refine lv_iload_n hx hb dL_musts_24 rfl (lv_at hl 4 rfl) ?_
    refine lv_iconst (v := (0 : Int32)) hx hb dL_musts_25 rfl ?_
    obtain ⟨r_26, q_26, h⟩ := ob1_e h
    refine cRV (wc := [(b0, .inr (5, [.ref b0_f, .ref b0_m, .ref b0_s, .ref b0_h, .ref b0_slots, .ref b0_p]))] ++ wX0 ck b0_f b0_f_kinds b0_f_owners b0_f_cards p0_f_players p0_f_told p0_f_kinds p0_f_owners p0_f_cards ++ wX2 ck b0_m b0_m_y b0_m_y_sets b0_m_y_coming b0_m_y_origins b0_m_n b0_m_n_sets b0_m_n_coming b0_m_n_origins p0_m_y_sets p0_m_y_coming p0_m_y_origins p0_m_y_round p0_m_n_sets p0_m_n_coming p0_m_n_origins p0_m_n_round p0_m_rounds) ⟨hx, hb, hml, hown, hts⟩ hK hP [0, 1, 2, 3, 4, 5, 6, 7, 8, 9, 10, 11, 12, 13] rfl (c_X5_mark l dC dI ck b0 b0_f b0_f_kinds b0_f_owners b0_f_cards b0_m b0_m_y b0_m_y_sets b0_m_y_coming b0_m_y_origins b0_m_n b0_m_n_sets b0_m_n_coming b0_m_n_origins b0_s b0_h b0_slots b0_p b0_f b0_f_kinds b0_f_owners b0_f_cards b0_m b0_m_y b0_m_y_sets b0_m_y_coming b0_m_y_origins b0_m_n b0_m_n_sets b0_m_n_coming b0_m_n_origins p0_f_players p0_f_told p0_f_kinds p0_f_owners p0_f_cards p0_m_y_sets p0_m_y_coming p0_m_y_origins p0_m_y_round p0_m_n_sets p0_m_n_coming p0_m_n_origins p0_m_n_round p0_m_rounds v2 v3 (0 : Int32) r_26 q_26) (cwV 3 hts gL_musts_X5_mark rfl rfl rfl (by decide +kernel) ⟨Nat.le_of_ble_eq_true rfl, Nat.le_of_ble_eq_true rfl⟩) 0 rfl rfl rfl hl.1 rfl (Nat.le_of_ble_eq_true rfl) dL_musts_26 ⟨Nat.zero_le _, Nat.zero_le _⟩ ?_
    refine lv_istore (lv' := [(6, .int r_26), (5, .int r_17), (4, .int t0_J12), (0, .ref b0), (2, .int v2), (3, .int v3)]) hx hb dL_musts_29 hl (by decide) rfl (fun ls hl => ?_)
    refine lv_iload hx hb dL_musts_31 (lv_at hl 1 rfl) ?_
    refine lv_if_eq (tgt := 71) hx hb dL_musts_33 (by decide) (fun c_33 => ?_) (fun c_33 => ?_)
    · have h := if_t h c_33
      refine lv_iconst (v := (1 : Int32)) hx hb dL_musts_71 rfl ?_
      refine lv_goto (tgt := 76) hx hb dL_musts_72 (by decide) ?_
      cases h
      exact eMz hx hb hr hlk hP hD hS rfl rfl dL_musts_76
    · have h := if_f h c_33
      refine lv_iload hx hb dL_musts_36 (lv_at hl 1 rfl) ?_
      refine lv_iload hx hb dL_musts_38 (lv_at hl 2 rfl) ?_
      refine lv_if_eq (tgt := 47) hx hb dL_musts_40 (by decide) (fun c_40 => ?_) (fun c_40 => ?_)
      · have h := if_t h c_40
        refine lv_iconst (v := (2 : Int32)) hx hb dL_musts_47 rfl ?_
        refine lv_icmp_ne (tgt := 75) hx hb dL_musts_48 (by decide) (fun c_48 => ?_) (fun c_48 => ?_)
        · have h := if_f h c_48
          refine lv_iconst (v := (0 : Int32)) hx hb dL_musts_75 rfl ?_
          cases h
          exact eMz hx hb hr hlk hP hD hS rfl rfl dL_musts_76
        · have h := if_t h c_48
          refine lv_iload hx hb dL_musts_51 (lv_at hl 0 rfl) ?_
          refine lv_if_eq (tgt := 71) hx hb dL_musts_53 (by decide) (fun c_53 => ?_) (fun c_53 => ?_)
          · have h := if_t h c_53
            refine lv_iconst (v := (1 : Int32)) hx hb dL_musts_71 rfl ?_
            refine lv_goto (tgt := 76) hx hb dL_musts_72 (by decide) ?_
            cases h
            exact eMz hx hb hr hlk hP hD hS rfl rfl dL_musts_76
          · have h := if_f h c_53
            refine lv_iload hx hb dL_musts_56 (lv_at hl 0 rfl) ?_
            refine lv_iload hx hb dL_musts_58 (lv_at hl 2 rfl) ?_
            refine lv_if_eq (tgt := 67) hx hb dL_musts_60 (by decide) (fun c_60 => ?_) (fun c_60 => ?_)
            · have h := if_t h c_60
              refine lv_iconst (v := (2 : Int32)) hx hb dL_musts_67 rfl ?_
              refine lv_icmp_ne (tgt := 75) hx hb dL_musts_68 (by decide) (fun c_68 => ?_) (fun c_68 => ?_)
              · have h := if_f h c_68
                refine lv_iconst (v := (0 : Int32)) hx hb dL_musts_75 rfl ?_
                cases h
                exact eMz hx hb hr hlk hP hD hS rfl rfl dL_musts_76
              · have h := if_t h c_68
                refine lv_iconst (v := (1 : Int32)) hx hb dL_musts_71 rfl ?_
                refine lv_goto (tgt := 76) hx hb dL_musts_72 (by decide) ?_
                cases h
                exact eMz hx hb hr hlk hP hD hS rfl rfl dL_musts_76
            · have h := if_f h c_60
              refine lv_iconst (v := (1 : Int32)) hx hb dL_musts_63 rfl ?_
              refine lv_goto (tgt := 68) hx hb dL_musts_64 (by decide) ?_
              refine lv_icmp_ne (tgt := 75) hx hb dL_musts_68 (by decide) (fun c_68 => ?_) (fun c_68 => ?_)
              · have h := if_f h c_68
                refine lv_iconst (v := (0 : Int32)) hx hb dL_musts_75 rfl ?_
                cases h
                exact eMz hx hb hr hlk hP hD hS rfl rfl dL_musts_76
              · have h := if_t h c_68
                refine lv_iconst (v := (1 : Int32)) hx hb dL_musts_71 rfl ?_
                refine lv_goto (tgt := 76) hx hb dL_musts_72 (by decide) ?_
                cases h
                exact eMz hx hb hr hlk hP hD hS rfl rfl dL_musts_76
      · have h := if_f h c_40
        refine lv_iconst (v := (1 : Int32)) hx hb dL_musts_43 rfl ?_
        refine lv_goto (tgt := 48) hx hb dL_musts_44 (by decide) ?_
        refine lv_icmp_ne (tgt := 75) hx hb dL_musts_48 (by decide) (fun c_48 => ?_) (fun c_48 => ?_)
        · have h := if_f h c_48
          refine lv_iconst (v := (0 : Int32)) hx hb dL_musts_75 rfl ?_
          cases h
          exact eMz hx hb hr hlk hP hD hS rfl rfl dL_musts_76
        · have h := if_t h c_48
          refine lv_iload hx hb dL_musts_51 (lv_at hl 0 rfl) ?_
          refine lv_if_eq (tgt := 71) hx hb dL_musts_53 (by decide) (fun c_53 => ?_) (fun c_53 => ?_)
          · have h := if_t h c_53
            refine lv_iconst (v := (1 : Int32)) hx hb dL_musts_71 rfl ?_
            refine lv_goto (tgt := 76) hx hb dL_musts_72 (by decide) ?_
            cases h
            exact eMz hx hb hr hlk hP hD hS rfl rfl dL_musts_76
          · have h := if_f h c_53
            refine lv_iload hx hb dL_musts_56 (lv_at hl 0 rfl) ?_
            refine lv_iload hx hb dL_musts_58 (lv_at hl 2 rfl) ?_
            refine lv_if_eq (tgt := 67) hx hb dL_musts_60 (by decide) (fun c_60 => ?_) (fun c_60 => ?_)
            · have h := if_t h c_60
              refine lv_iconst (v := (2 : Int32)) hx hb dL_musts_67 rfl ?_
              refine lv_icmp_ne (tgt := 75) hx hb dL_musts_68 (by decide) (fun c_68 => ?_) (fun c_68 => ?_)
              · have h := if_f h c_68
                refine lv_iconst (v := (0 : Int32)) hx hb dL_musts_75 rfl ?_
                cases h
                exact eMz hx hb hr hlk hP hD hS rfl rfl dL_musts_76
              · have h := if_t h c_68
                refine lv_iconst (v := (1 : Int32)) hx hb dL_musts_71 rfl ?_
                refine lv_goto (tgt := 76) hx hb dL_musts_72 (by decide) ?_
                cases h
                exact eMz hx hb hr hlk hP hD hS rfl rfl dL_musts_76
            · have h := if_f h c_60
              refine lv_iconst (v := (1 : Int32)) hx hb dL_musts_63 rfl ?_
              refine lv_goto (tgt := 68) hx hb dL_musts_64 (by decide) ?_
              refine lv_icmp_ne (tgt := 75) hx hb dL_musts_68 (by decide) (fun c_68 => ?_) (fun c_68 => ?_)
              · have h := if_f h c_68
                refine lv_iconst (v := (0 : Int32)) hx hb dL_musts_75 rfl ?_
                cases h
                exact eMz hx hb hr hlk hP hD hS rfl rfl dL_musts_76
              · have h := if_t h c_68
                refine lv_iconst (v := (1 : Int32)) hx hb dL_musts_71 rfl ?_
                refine lv_goto (tgt := 76) hx hb dL_musts_72 (by decide) ?_
                cases h
                exact eMz hx hb hr hlk hP hD hS rfl rfl dL_musts_76
  refine lv_icmp_ne (tgt := 11) hx hb dL_musts_4 (by decide) (fun c_4 => ?_) (fun c_4 => ?_)
  · have h := if_f h c_4
    refine lv_iconst (v := (0 : Int32)) hx hb dL_musts_11 rfl ?_
    exact hJ12 _ h _ _ hP hD hS _ (lv_sub hl [0, 2, 3] rfl)
  · have h := if_t h c_4
    refine lv_iconst (v := (1 : Int32)) hx hb dL_musts_7 rfl ?_
    refine lv_goto (tgt := 12) hx hb dL_musts_8 (by decide) ?_
    exact hJ12 _ h _ _ hP hD hS _ (lv_sub hl [0, 2, 3] rfl)
noncomputable def f_L_lesser_J38 (r_7 : Int32) (r_19 : Int32) (p0_f_told_19 : Int32) (p0_f_kinds_19 : Nat → Int32) (p0_f_owners_19 : Nat → Int32) (p0_f_cards_19 : Nat → Int32) (p0_s_y_sets_19 : Nat → Int32) (p0_s_y_coming_19 : Nat → Int32) (p0_s_y_origins_19 : Nat → Int32) (p0_s_y_round_19 : Int32) (p0_s_n_sets_19 : Nat → Int32) (p0_s_n_coming_19 : Nat → Int32) (p0_s_n_origins_19 : Nat → Int32) (p0_s_n_round_19 : Int32) (p0_s_rounds_19 : Int32) (t0_J38 : Int32) : Option (Int32 × Int32 × (Nat → Int32) × (Nat → Int32) × (Nat → Int32) × (Nat → Int32) × (Nat → Int32) × (Nat → Int32) × Int32 × (Nat → Int32) × (Nat → Int32) × (Nat → Int32) × Int32 × Int32) :=
  if r_19 ≤ r_7 then (if r_7 = (-6 : Int32) then (some ((0 : Int32), p0_f_told_19, p0_f_kinds_19, p0_f_owners_19, p0_f_cards_19, p0_s_y_sets_19, p0_s_y_coming_19, p0_s_y_origins_19, p0_s_y_round_19, p0_s_n_sets_19, p0_s_n_coming_19, p0_s_n_origins_19, p0_s_n_round_19, p0_s_rounds_19)) else (if t0_J38 = (-6 : Int32) then (some (r_7, p0_f_told_19, p0_f_kinds_19, p0_f_owners_19, p0_f_cards_19, p0_s_y_sets_19, p0_s_y_coming_19, p0_s_y_origins_19, p0_s_y_round_19, p0_s_n_sets_19, p0_s_n_coming_19, p0_s_n_origins_19, p0_s_n_round_19, p0_s_rounds_19)) else (some (t0_J38, p0_f_told_19, p0_f_kinds_19, p0_f_owners_19, p0_f_cards_19, p0_s_y_sets_19, p0_s_y_coming_19, p0_s_y_origins_19, p0_s_y_round_19, p0_s_n_sets_19, p0_s_n_coming_19, p0_s_n_origins_19, p0_s_n_round_19, p0_s_rounds_19)))) else (if r_19 = (-6 : Int32) then (some ((0 : Int32), p0_f_told_19, p0_f_kinds_19, p0_f_owners_19, p0_f_cards_19, p0_s_y_sets_19, p0_s_y_coming_19, p0_s_y_origins_19, p0_s_y_round_19, p0_s_n_sets_19, p0_s_n_coming_19, p0_s_n_origins_19, p0_s_n_round_19, p0_s_rounds_19)) else (if t0_J38 = (-6 : Int32) then (some (r_19, p0_f_told_19, p0_f_kinds_19, p0_f_owners_19, p0_f_cards_19, p0_s_y_sets_19, p0_s_y_coming_19, p0_s_y_origins_19, p0_s_y_round_19, p0_s_n_sets_19, p0_s_n_coming_19, p0_s_n_origins_19, p0_s_n_round_19, p0_s_rounds_19)) else (some (t0_J38, p0_f_told_19, p0_f_kinds_19, p0_f_owners_19, p0_f_cards_19, p0_s_y_sets_19, p0_s_y_coming_19, p0_s_y_origins_19, p0_s_y_round_19, p0_s_n_sets_19, p0_s_n_coming_19, p0_s_n_origins_19, p0_s_n_round_19, p0_s_rounds_19))))
noncomputable def f_L_lesser (p0_f_players : Int32) (p0_f_told : Int32) (p0_f_kinds : Nat → Int32) (p0_f_owners : Nat → Int32) (p0_f_cards : Nat → Int32) (p0_m_y_sets : Nat → Int32) (p0_m_n_sets : Nat → Int32) (p0_s_y_sets : Nat → Int32) (p0_s_y_coming : Nat → Int32) (p0_s_y_origins : Nat → Int32) (p0_s_y_round : Int32) (p0_s_n_sets : Nat → Int32) (p0_s_n_coming : Nat → Int32) (p0_s_n_origins : Nat → Int32) (p0_s_n_round : Int32) (p0_s_rounds : Int32) (v1 : Int32) (v2 : Int32) (v3 : Int32) (v4 : Int32) : Option (Int32 × Int32 × (Nat → Int32) × (Nat → Int32) × (Nat → Int32) × (Nat → Int32) × (Nat → Int32) × (Nat → Int32) × Int32 × (Nat → Int32) × (Nat → Int32) × (Nat → Int32) × Int32 × Int32) :=
  ob14 (f_X5_gain p0_f_players p0_f_told p0_f_kinds p0_f_owners p0_f_cards p0_m_y_sets p0_m_n_sets p0_s_y_sets p0_s_y_coming p0_s_y_origins p0_s_y_round p0_s_n_sets p0_s_n_coming p0_s_n_origins p0_s_n_round p0_s_rounds v1 (0 : Int32) v2 v3 v4) (fun (r_7 : Int32) (p0_f_told_7 : Int32) (p0_f_kinds_7 : Nat → Int32) (p0_f_owners_7 : Nat → Int32) (p0_f_cards_7 : Nat → Int32) (p0_s_y_sets_7 : Nat → Int32) (p0_s_y_coming_7 : Nat → Int32) (p0_s_y_origins_7 : Nat → Int32) (p0_s_y_round_7 : Int32) (p0_s_n_sets_7 : Nat → Int32) (p0_s_n_coming_7 : Nat → Int32) (p0_s_n_origins_7 : Nat → Int32) (p0_s_n_round_7 : Int32) (p0_s_rounds_7 : Int32) => ob14 (f_X5_gain p0_f_players p0_f_told_7 p0_f_kinds_7 p0_f_owners_7 p0_f_cards_7 p0_m_y_sets p0_m_n_sets p0_s_y_sets_7 p0_s_y_coming_7 p0_s_y_origins_7 p0_s_y_round_7 p0_s_n_sets_7 p0_s_n_coming_7 p0_s_n_origins_7 p0_s_n_round_7 p0_s_rounds_7 v1 (1 : Int32) v2 v3 v4) (fun (r_19 : Int32) (p0_f_told_19 : Int32) (p0_f_kinds_19 : Nat → Int32) (p0_f_owners_19 : Nat → Int32) (p0_f_cards_19 : Nat → Int32) (p0_s_y_sets_19 : Nat → Int32) (p0_s_y_coming_19 : Nat → Int32) (p0_s_y_origins_19 : Nat → Int32) (p0_s_y_round_19 : Int32) (p0_s_n_sets_19 : Nat → Int32) (p0_s_n_coming_19 : Nat → Int32) (p0_s_n_origins_19 : Nat → Int32) (p0_s_n_round_19 : Int32) (p0_s_rounds_19 : Int32) => if r_19 ≤ r_7 then (f_L_lesser_J38 r_7 r_19 p0_f_told_19 p0_f_kinds_19 p0_f_owners_19 p0_f_cards_19 p0_s_y_sets_19 p0_s_y_coming_19 p0_s_y_origins_19 p0_s_y_round_19 p0_s_n_sets_19 p0_s_n_coming_19 p0_s_n_origins_19 p0_s_n_round_19 p0_s_rounds_19 r_19) else (f_L_lesser_J38 r_7 r_19 p0_f_told_19 p0_f_kinds_19 p0_f_owners_19 p0_f_cards_19 p0_s_y_sets_19 p0_s_y_coming_19 p0_s_y_origins_19 p0_s_y_round_19 p0_s_n_sets_19 p0_s_n_coming_19 p0_s_n_origins_19 p0_s_n_round_19 p0_s_rounds_19 r_7)))
set_option maxHeartbeats 4000000 in
set_option maxRecDepth 100000 in
theorem c_L_lesser (l : Launch) (dC : Nat → ClassId) (dI : Nat → Nat → Nat) (ck : Nat → ClassId) (b0 b0_f b0_f_kinds b0_f_owners b0_f_cards b0_m b0_m_y b0_m_y_sets b0_m_y_coming b0_m_y_origins b0_m_n b0_m_n_sets b0_m_n_coming b0_m_n_origins b0_s b0_s_y b0_s_y_sets b0_s_y_coming b0_s_y_origins b0_s_n b0_s_n_sets b0_s_n_coming b0_s_n_origins b0_h b0_slots b0_p b0_f b0_f_kinds b0_f_owners b0_f_cards b0_m b0_m_y b0_m_y_sets b0_m_y_coming b0_m_y_origins b0_m_n b0_m_n_sets b0_m_n_coming b0_m_n_origins b0_s b0_s_y b0_s_y_sets b0_s_y_coming b0_s_y_origins b0_s_n b0_s_n_sets b0_s_n_coming b0_s_n_origins : Nat) (p0_f_players : Int32) (p0_f_told : Int32) (p0_f_kinds : Nat → Int32) (p0_f_owners : Nat → Int32) (p0_f_cards : Nat → Int32) (p0_m_y_sets : Nat → Int32) (p0_m_y_coming : Nat → Int32) (p0_m_y_origins : Nat → Int32) (p0_m_y_round : Int32) (p0_m_n_sets : Nat → Int32) (p0_m_n_coming : Nat → Int32) (p0_m_n_origins : Nat → Int32) (p0_m_n_round : Int32) (p0_m_rounds : Int32) (p0_s_y_sets : Nat → Int32) (p0_s_y_coming : Nat → Int32) (p0_s_y_origins : Nat → Int32) (p0_s_y_round : Int32) (p0_s_n_sets : Nat → Int32) (p0_s_n_coming : Nat → Int32) (p0_s_n_origins : Nat → Int32) (p0_s_n_round : Int32) (p0_s_rounds : Int32) (v1 : Int32) (v2 : Int32) (v3 : Int32) (v4 : Int32) (o0 : Int32) (o1 : Int32) (o2 : Nat → Int32) (o3 : Nat → Int32) (o4 : Nat → Int32) (o5 : Nat → Int32) (o6 : Nat → Int32) (o7 : Nat → Int32) (o8 : Int32) (o9 : Nat → Int32) (o10 : Nat → Int32) (o11 : Nat → Int32) (o12 : Int32) (o13 : Int32) (h : f_L_lesser p0_f_players p0_f_told p0_f_kinds p0_f_owners p0_f_cards p0_m_y_sets p0_m_n_sets p0_s_y_sets p0_s_y_coming p0_s_y_origins p0_s_y_round p0_s_n_sets p0_s_n_coming p0_s_n_origins p0_s_n_round p0_s_rounds v1 v2 v3 v4 = some (o0, o1, o2, o3, o4, o5, o6, o7, o8, o9, o10, o11, o12, o13)) : MI l yL_lesser wsL_lesser ({ frames := 7, cells := 0, slots := 0, locals := 167 }) [.ref b0, .int v1, .int v2, .int v3, .int v4] (dC, dI) ck ([(b0, .inr (5, [.ref b0_f, .ref b0_m, .ref b0_s, .ref b0_h, .ref b0_slots, .ref b0_p]))] ++ wX0 ck b0_f b0_f_kinds b0_f_owners b0_f_cards p0_f_players p0_f_told p0_f_kinds p0_f_owners p0_f_cards ++ wX2 ck b0_m b0_m_y b0_m_y_sets b0_m_y_coming b0_m_y_origins b0_m_n b0_m_n_sets b0_m_n_coming b0_m_n_origins p0_m_y_sets p0_m_y_coming p0_m_y_origins p0_m_y_round p0_m_n_sets p0_m_n_coming p0_m_n_origins p0_m_n_round p0_m_rounds ++ wX2 ck b0_s b0_s_y b0_s_y_sets b0_s_y_coming b0_s_y_origins b0_s_n b0_s_n_sets b0_s_n_coming b0_s_n_origins p0_s_y_sets p0_s_y_coming p0_s_y_origins p0_s_y_round p0_s_n_sets p0_s_n_coming p0_s_n_origins p0_s_n_round p0_s_rounds) ([(b0, .inr (5, [.ref b0_f, .ref b0_m, .ref b0_s, .ref b0_h, .ref b0_slots, .ref b0_p]))] ++ wX0 ck b0_f b0_f_kinds b0_f_owners b0_f_cards p0_f_players o1 o2 o3 o4 ++ wX2 ck b0_m b0_m_y b0_m_y_sets b0_m_y_coming b0_m_y_origins b0_m_n b0_m_n_sets b0_m_n_coming b0_m_n_origins p0_m_y_sets p0_m_y_coming p0_m_y_origins p0_m_y_round p0_m_n_sets p0_m_n_coming p0_m_n_origins p0_m_n_round p0_m_rounds ++ wX2 ck b0_s b0_s_y b0_s_y_sets b0_s_y_coming b0_s_y_origins b0_s_n b0_s_n_sets b0_s_n_coming b0_s_n_origins o5 o6 o7 o8 o9 o10 o11 o12 o13) o0 := by
  refine MI.ofW (cc := cL_lesser) (maxL := 9) (ret := (some .int)) (by decide +kernel) rfl (Nat.le_of_ble_eq_true rfl) ?_
  intro p e s m below meth c hx hb hr hml hts hown hlk hK hP A hA hD ls hl
  have hS : va_S A s.heap s.heap [] := va_S.rf
  have hown : s.vm.findClass RL = some m.cls := hown
  have hl : lv_has ls 9 [(0, .ref b0), (1, .int v1), (2, .int v2), (3, .int v3), (4, .int v4)] := hl
  unfold f_L_lesser at h
  refine lv_aload_n hx hb dL_lesser_0 rfl (lv_at hl 0 rfl) ?_
  refine lv_iload_n hx hb dL_lesser_1 rfl (lv_at hl 1 rfl) ?_
  refine lv_iconst (v := (0 : Int32)) hx hb dL_lesser_2 rfl ?_
  refine lv_iload_n hx hb dL_lesser_3 rfl (lv_at hl 2 rfl) ?_
  refine lv_iload_n hx hb dL_lesser_4 rfl (lv_at hl 3 rfl) ?_
  refine lv_iload hx hb dL_lesser_5 (lv_at hl 4 rfl) ?_
  obtain ⟨r_7, p0_f_told_7, p0_f_kinds_7, p0_f_owners_7, p0_f_cards_7, p0_s_y_sets_7, p0_s_y_coming_7, p0_s_y_origins_7, p0_s_y_round_7, p0_s_n_sets_7, p0_s_n_coming_7, p0_s_n_origins_7, p0_s_n_round_7, p0_s_rounds_7, q_7, h⟩ := ob14_e h
  refine cMI (wc := [(b0, .inr (5, [.ref b0_f, .ref b0_m, .ref b0_s, .ref b0_h, .ref b0_slots, .ref b0_p]))] ++ wX0 ck b0_f b0_f_kinds b0_f_owners b0_f_cards p0_f_players p0_f_told p0_f_kinds p0_f_owners p0_f_cards ++ wX2 ck b0_m b0_m_y b0_m_y_sets b0_m_y_coming b0_m_y_origins b0_m_n b0_m_n_sets b0_m_n_coming b0_m_n_origins p0_m_y_sets p0_m_y_coming p0_m_y_origins p0_m_y_round p0_m_n_sets p0_m_n_coming p0_m_n_origins p0_m_n_round p0_m_rounds ++ wX2 ck b0_s b0_s_y b0_s_y_sets b0_s_y_coming b0_s_y_origins b0_s_n b0_s_n_sets b0_s_n_coming b0_s_n_origins p0_s_y_sets p0_s_y_coming p0_s_y_origins p0_s_y_round p0_s_n_sets p0_s_n_coming p0_s_n_origins p0_s_n_round p0_s_rounds) (wr := []) (w1 := [(b0, .inr (5, [.ref b0_f, .ref b0_m, .ref b0_s, .ref b0_h, .ref b0_slots, .ref b0_p]))] ++ wX0 ck b0_f b0_f_kinds b0_f_owners b0_f_cards p0_f_players p0_f_told_7 p0_f_kinds_7 p0_f_owners_7 p0_f_cards_7 ++ wX2 ck b0_m b0_m_y b0_m_y_sets b0_m_y_coming b0_m_y_origins b0_m_n b0_m_n_sets b0_m_n_coming b0_m_n_origins p0_m_y_sets p0_m_y_coming p0_m_y_origins p0_m_y_round p0_m_n_sets p0_m_n_coming p0_m_n_origins p0_m_n_round p0_m_rounds ++ wX2 ck b0_s b0_s_y b0_s_y_sets b0_s_y_coming b0_s_y_origins b0_s_n b0_s_n_sets b0_s_n_coming b0_s_n_origins p0_s_y_sets_7 p0_s_y_coming_7 p0_s_y_origins_7 p0_s_y_round_7 p0_s_n_sets_7 p0_s_n_coming_7 p0_s_n_origins_7 p0_s_n_round_7 p0_s_rounds_7) (wn := [(b0, .inr (5, [.ref b0_f, .ref b0_m, .ref b0_s, .ref b0_h, .ref b0_slots, .ref b0_p]))] ++ wX0 ck b0_f b0_f_kinds b0_f_owners b0_f_cards p0_f_players p0_f_told_7 p0_f_kinds_7 p0_f_owners_7 p0_f_cards_7 ++ wX2 ck b0_m b0_m_y b0_m_y_sets b0_m_y_coming b0_m_y_origins b0_m_n b0_m_n_sets b0_m_n_coming b0_m_n_origins p0_m_y_sets p0_m_y_coming p0_m_y_origins p0_m_y_round p0_m_n_sets p0_m_n_coming p0_m_n_origins p0_m_n_round p0_m_rounds ++ wX2 ck b0_s b0_s_y b0_s_y_sets b0_s_y_coming b0_s_y_origins b0_s_n b0_s_n_sets b0_s_n_coming b0_s_n_origins p0_s_y_sets_7 p0_s_y_coming_7 p0_s_y_origins_7 p0_s_y_round_7 p0_s_n_sets_7 p0_s_n_coming_7 p0_s_n_origins_7 p0_s_n_round_7 p0_s_rounds_7) ⟨hx, hb, hml, hown, hts⟩ hK hP hD hS hA [0, 1, 2, 3, 4, 5, 6, 7, 8, 9, 10, 11, 12, 13, 14, 15, 16, 17, 18, 19, 20, 21, 22] [] [0, 1, 2, 3, 4, 5, 6, 7, 8, 9, 10, 11, 12, 13, 14, 15, 16, 17, 18, 19, 20, 21, 22] rfl (by decide) rfl (by decide) (by decide) rfl (by decide) (c_X5_gain l dC dI ck b0 b0_f b0_f_kinds b0_f_owners b0_f_cards b0_m b0_m_y b0_m_y_sets b0_m_y_coming b0_m_y_origins b0_m_n b0_m_n_sets b0_m_n_coming b0_m_n_origins b0_s b0_s_y b0_s_y_sets b0_s_y_coming b0_s_y_origins b0_s_n b0_s_n_sets b0_s_n_coming b0_s_n_origins b0_h b0_slots b0_p b0_f b0_f_kinds b0_f_owners b0_f_cards b0_m b0_m_y b0_m_y_sets b0_m_y_coming b0_m_y_origins b0_m_n b0_m_n_sets b0_m_n_coming b0_m_n_origins b0_s b0_s_y b0_s_y_sets b0_s_y_coming b0_s_y_origins b0_s_n b0_s_n_sets b0_s_n_coming b0_s_n_origins p0_f_players p0_f_told p0_f_kinds p0_f_owners p0_f_cards p0_m_y_sets p0_m_y_coming p0_m_y_origins p0_m_y_round p0_m_n_sets p0_m_n_coming p0_m_n_origins p0_m_n_round p0_m_rounds p0_s_y_sets p0_s_y_coming p0_s_y_origins p0_s_y_round p0_s_n_sets p0_s_n_coming p0_s_n_origins p0_s_n_round p0_s_rounds v1 (0 : Int32) v2 v3 v4 r_7 p0_f_told_7 p0_f_kinds_7 p0_f_owners_7 p0_f_cards_7 p0_s_y_sets_7 p0_s_y_coming_7 p0_s_y_origins_7 p0_s_y_round_7 p0_s_n_sets_7 p0_s_n_coming_7 p0_s_n_origins_7 p0_s_n_round_7 p0_s_rounds_7 q_7) (cwV 5 hts gL_lesser_X5_gain rfl rfl rfl (by decide +kernel) ⟨Nat.le_of_ble_eq_true rfl, Nat.le_of_ble_eq_true rfl⟩) 0 rfl rfl rfl hl.1 rfl (Nat.le_of_ble_eq_true rfl) dL_lesser_7 ⟨Nat.zero_le _, Nat.zero_le _⟩ (fun H locs hP hD hS => ?_)
  refine lv_istore (lv' := [(5, .int r_7), (0, .ref b0), (1, .int v1), (2, .int v2), (3, .int v3), (4, .int v4)]) hx hb dL_lesser_10 hl (by decide) rfl (fun ls hl => ?_)
  refine lv_aload_n hx hb dL_lesser_12 rfl (lv_at hl 1 rfl) ?_
  refine lv_iload_n hx hb dL_lesser_13 rfl (lv_at hl 2 rfl) ?_
  refine lv_iconst (v := (1 : Int32)) hx hb dL_lesser_14 rfl ?_
  refine lv_iload_n hx hb dL_lesser_15 rfl (lv_at hl 3 rfl) ?_
  refine lv_iload_n hx hb dL_lesser_16 rfl (lv_at hl 4 rfl) ?_
  refine lv_iload hx hb dL_lesser_17 (lv_at hl 5 rfl) ?_
  obtain ⟨r_19, p0_f_told_19, p0_f_kinds_19, p0_f_owners_19, p0_f_cards_19, p0_s_y_sets_19, p0_s_y_coming_19, p0_s_y_origins_19, p0_s_y_round_19, p0_s_n_sets_19, p0_s_n_coming_19, p0_s_n_origins_19, p0_s_n_round_19, p0_s_rounds_19, q_19, h⟩ := ob14_e h
  refine cMI (wc := [(b0, .inr (5, [.ref b0_f, .ref b0_m, .ref b0_s, .ref b0_h, .ref b0_slots, .ref b0_p]))] ++ wX0 ck b0_f b0_f_kinds b0_f_owners b0_f_cards p0_f_players p0_f_told_7 p0_f_kinds_7 p0_f_owners_7 p0_f_cards_7 ++ wX2 ck b0_m b0_m_y b0_m_y_sets b0_m_y_coming b0_m_y_origins b0_m_n b0_m_n_sets b0_m_n_coming b0_m_n_origins p0_m_y_sets p0_m_y_coming p0_m_y_origins p0_m_y_round p0_m_n_sets p0_m_n_coming p0_m_n_origins p0_m_n_round p0_m_rounds ++ wX2 ck b0_s b0_s_y b0_s_y_sets b0_s_y_coming b0_s_y_origins b0_s_n b0_s_n_sets b0_s_n_coming b0_s_n_origins p0_s_y_sets_7 p0_s_y_coming_7 p0_s_y_origins_7 p0_s_y_round_7 p0_s_n_sets_7 p0_s_n_coming_7 p0_s_n_origins_7 p0_s_n_round_7 p0_s_rounds_7) (wr := []) (w1 := [(b0, .inr (5, [.ref b0_f, .ref b0_m, .ref b0_s, .ref b0_h, .ref b0_slots, .ref b0_p]))] ++ wX0 ck b0_f b0_f_kinds b0_f_owners b0_f_cards p0_f_players p0_f_told_19 p0_f_kinds_19 p0_f_owners_19 p0_f_cards_19 ++ wX2 ck b0_m b0_m_y b0_m_y_sets b0_m_y_coming b0_m_y_origins b0_m_n b0_m_n_sets b0_m_n_coming b0_m_n_origins p0_m_y_sets p0_m_y_coming p0_m_y_origins p0_m_y_round p0_m_n_sets p0_m_n_coming p0_m_n_origins p0_m_n_round p0_m_rounds ++ wX2 ck b0_s b0_s_y b0_s_y_sets b0_s_y_coming b0_s_y_origins b0_s_n b0_s_n_sets b0_s_n_coming b0_s_n_origins p0_s_y_sets_19 p0_s_y_coming_19 p0_s_y_origins_19 p0_s_y_round_19 p0_s_n_sets_19 p0_s_n_coming_19 p0_s_n_origins_19 p0_s_n_round_19 p0_s_rounds_19) (wn := [(b0, .inr (5, [.ref b0_f, .ref b0_m, .ref b0_s, .ref b0_h, .ref b0_slots, .ref b0_p]))] ++ wX0 ck b0_f b0_f_kinds b0_f_owners b0_f_cards p0_f_players p0_f_told_19 p0_f_kinds_19 p0_f_owners_19 p0_f_cards_19 ++ wX2 ck b0_m b0_m_y b0_m_y_sets b0_m_y_coming b0_m_y_origins b0_m_n b0_m_n_sets b0_m_n_coming b0_m_n_origins p0_m_y_sets p0_m_y_coming p0_m_y_origins p0_m_y_round p0_m_n_sets p0_m_n_coming p0_m_n_origins p0_m_n_round p0_m_rounds ++ wX2 ck b0_s b0_s_y b0_s_y_sets b0_s_y_coming b0_s_y_origins b0_s_n b0_s_n_sets b0_s_n_coming b0_s_n_origins p0_s_y_sets_19 p0_s_y_coming_19 p0_s_y_origins_19 p0_s_y_round_19 p0_s_n_sets_19 p0_s_n_coming_19 p0_s_n_origins_19 p0_s_n_round_19 p0_s_rounds_19) ⟨hx, hb, hml, hown, hts⟩ hK hP hD hS hA [0, 1, 2, 3, 4, 5, 6, 7, 8, 9, 10, 11, 12, 13, 14, 15, 16, 17, 18, 19, 20, 21, 22] [] [0, 1, 2, 3, 4, 5, 6, 7, 8, 9, 10, 11, 12, 13, 14, 15, 16, 17, 18, 19, 20, 21, 22] rfl (by decide) rfl (by decide) (by decide) rfl (by decide) (c_X5_gain l dC dI ck b0 b0_f b0_f_kinds b0_f_owners b0_f_cards b0_m b0_m_y b0_m_y_sets b0_m_y_coming b0_m_y_origins b0_m_n b0_m_n_sets b0_m_n_coming b0_m_n_origins b0_s b0_s_y b0_s_y_sets b0_s_y_coming b0_s_y_origins b0_s_n b0_s_n_sets b0_s_n_coming b0_s_n_origins b0_h b0_slots b0_p b0_f b0_f_kinds b0_f_owners b0_f_cards b0_m b0_m_y b0_m_y_sets b0_m_y_coming b0_m_y_origins b0_m_n b0_m_n_sets b0_m_n_coming b0_m_n_origins b0_s b0_s_y b0_s_y_sets b0_s_y_coming b0_s_y_origins b0_s_n b0_s_n_sets b0_s_n_coming b0_s_n_origins p0_f_players p0_f_told_7 p0_f_kinds_7 p0_f_owners_7 p0_f_cards_7 p0_m_y_sets p0_m_y_coming p0_m_y_origins p0_m_y_round p0_m_n_sets p0_m_n_coming p0_m_n_origins p0_m_n_round p0_m_rounds p0_s_y_sets_7 p0_s_y_coming_7 p0_s_y_origins_7 p0_s_y_round_7 p0_s_n_sets_7 p0_s_n_coming_7 p0_s_n_origins_7 p0_s_n_round_7 p0_s_rounds_7 v1 (1 : Int32) v2 v3 v4 r_19 p0_f_told_19 p0_f_kinds_19 p0_f_owners_19 p0_f_cards_19 p0_s_y_sets_19 p0_s_y_coming_19 p0_s_y_origins_19 p0_s_y_round_19 p0_s_n_sets_19 p0_s_n_coming_19 p0_s_n_origins_19 p0_s_n_round_19 p0_s_rounds_19 q_19) (cwV 5 hts gL_lesser_X5_gain rfl rfl rfl (by decide +kernel) ⟨Nat.le_of_ble_eq_true rfl, Nat.le_of_ble_eq_true rfl⟩) 0 rfl rfl rfl hl.1 rfl (Nat.le_of_ble_eq_true rfl) dL_lesser_19 ⟨Nat.zero_le _, Nat.zero_le _⟩ (fun H locs hP hD hS => ?_)
  refine lv_istore (lv' := [(6, .int r_19), (5, .int r_7), (0, .ref b0), (1, .int v1), (2, .int v2), (3, .int v3), (4, .int v4)]) hx hb dL_lesser_22 hl (by decide) rfl (fun ls hl => ?_)
  refine lv_iload hx hb dL_lesser_24 (lv_at hl 1 rfl) ?_
  refine lv_iload hx hb dL_lesser_26 (lv_at hl 0 rfl) ?_
  have hJ38 : ∀ (t0_J38 : Int32), f_L_lesser_J38 r_7 r_19 p0_f_told_19 p0_f_kinds_19 p0_f_owners_19 p0_f_cards_19 p0_s_y_sets_19 p0_s_y_coming_19 p0_s_y_origins_19 p0_s_y_round_19 p0_s_n_sets_19 p0_s_n_coming_19 p0_s_n_origins_19 p0_s_n_round_19 p0_s_rounds_19 t0_J38 = some (o0, o1, o2, o3, o4, o5, o6, o7, o8, o9, o10, o11, o12, o13) → ∀ (H : Heap) (locs : List Loc), va_P (dC, dI) vwCl ([(b0, .inr (5, [.ref b0_f, .ref b0_m, .ref b0_s, .ref b0_h, .ref b0_slots, .ref b0_p]))] ++ wX0 ck b0_f b0_f_kinds b0_f_owners b0_f_cards p0_f_players p0_f_told_19 p0_f_kinds_19 p0_f_owners_19 p0_f_cards_19 ++ wX2 ck b0_m b0_m_y b0_m_y_sets b0_m_y_coming b0_m_y_origins b0_m_n b0_m_n_sets b0_m_n_coming b0_m_n_origins p0_m_y_sets p0_m_y_coming p0_m_y_origins p0_m_y_round p0_m_n_sets p0_m_n_coming p0_m_n_origins p0_m_n_round p0_m_rounds ++ wX2 ck b0_s b0_s_y b0_s_y_sets b0_s_y_coming b0_s_y_origins b0_s_n b0_s_n_sets b0_s_n_coming b0_s_n_origins p0_s_y_sets_19 p0_s_y_coming_19 p0_s_y_origins_19 p0_s_y_round_19 p0_s_n_sets_19 p0_s_n_coming_19 p0_s_n_origins_19 p0_s_n_round_19 p0_s_rounds_19) H → va_D A ([(b0, .inr (5, [.ref b0_f, .ref b0_m, .ref b0_s, .ref b0_h, .ref b0_slots, .ref b0_p]))] ++ wX0 ck b0_f b0_f_kinds b0_f_owners b0_f_cards p0_f_players p0_f_told_19 p0_f_kinds_19 p0_f_owners_19 p0_f_cards_19 ++ wX2 ck b0_m b0_m_y b0_m_y_sets b0_m_y_coming b0_m_y_origins b0_m_n b0_m_n_sets b0_m_n_coming b0_m_n_origins p0_m_y_sets p0_m_y_coming p0_m_y_origins p0_m_y_round p0_m_n_sets p0_m_n_coming p0_m_n_origins p0_m_n_round p0_m_rounds ++ wX2 ck b0_s b0_s_y b0_s_y_sets b0_s_y_coming b0_s_y_origins b0_s_n b0_s_n_sets b0_s_n_coming b0_s_n_origins p0_s_y_sets_19 p0_s_y_coming_19 p0_s_y_origins_19 p0_s_y_round_19 p0_s_n_sets_19 p0_s_n_coming_19 p0_s_n_origins_19 p0_s_n_round_19 p0_s_rounds_19) → va_S A s.heap H locs → ∀ ls : Array Slot, lv_has ls 9 [(6, .int r_19), (5, .int r_7)] → W p l e (headSpec wsL_lesser ({ frames := 7, cells := 0, slots := 0, locals := 167 })).room s m [.ref b0, .int v1, .int v2, .int v3, .int v4].toArray below meth c H locs 0 0 (MQ below (QI (dC, dI) ([(b0, .inr (5, [.ref b0_f, .ref b0_m, .ref b0_s, .ref b0_h, .ref b0_slots, .ref b0_p]))] ++ wX0 ck b0_f b0_f_kinds b0_f_owners b0_f_cards p0_f_players o1 o2 o3 o4 ++ wX2 ck b0_m b0_m_y b0_m_y_sets b0_m_y_coming b0_m_y_origins b0_m_n b0_m_n_sets b0_m_n_coming b0_m_n_origins p0_m_y_sets p0_m_y_coming p0_m_y_origins p0_m_y_round p0_m_n_sets p0_m_n_coming p0_m_n_origins p0_m_n_round p0_m_rounds ++ wX2 ck b0_s b0_s_y b0_s_y_sets b0_s_y_coming b0_s_y_origins b0_s_n b0_s_n_sets b0_s_n_coming b0_s_n_origins o5 o6 o7 o8 o9 o10 o11 o12 o13) o0 A) [.ref b0, .int v1, .int v2, .int v3, .int v4].toArray s 0 0 A) (F0 m 38 ls [.int t0_J38]) := by
    intro t0_J38 h H locs hP hD hS ls hl
    unfold f_L_lesser_J38 at h
    refine lv_istore (lv' := [(7, .int t0_J38), (6, .int r_19), (5, .int r_7)]) hx hb dL_lesser_38 hl (by decide) rfl (fun ls hl => ?_)
    refine lv_iload hx hb dL_lesser_40 (lv_at hl 2 rfl) ?_
    refine lv_iload hx hb dL_lesser_42 (lv_at hl 1 rfl) ?_
    refine lv_icmp_ge (tgt := 52) hx hb dL_lesser_44 (by decide) (fun c_44 => ?_) (fun c_44 => ?_)
    · have h := if_t h c_44
      refine lv_iload hx hb dL_lesser_52 (lv_at hl 2 rfl) ?_
      refine lv_istore (lv' := [(8, .int r_7), (7, .int t0_J38), (6, .int r_19), (5, .int r_7)]) hx hb dL_lesser_54 hl (by decide) rfl (fun ls hl => ?_)
      refine lv_iload hx hb dL_lesser_56 (lv_at hl 0 rfl) ?_
      refine lv_bipush (v := (-6 : Int32)) hx hb dL_lesser_58 rfl ?_
      refine lv_icmp_ne (tgt := 67) hx hb dL_lesser_60 (by decide) (fun c_60 => ?_) (fun c_60 => ?_)
      · have h := if_f h c_60
        refine lv_iload hx hb dL_lesser_67 (lv_at hl 1 rfl) ?_
        refine lv_bipush (v := (-6 : Int32)) hx hb dL_lesser_69 rfl ?_
        refine lv_icmp_ne (tgt := 79) hx hb dL_lesser_71 (by decide) (fun c_71 => ?_) (fun c_71 => ?_)
        · have h := if_f h c_71
          refine lv_iload hx hb dL_lesser_79 (lv_at hl 1 rfl) ?_
          cases h
          exact eMi hx hb hr hlk hP hD hS rfl dL_lesser_81
        · have h := if_t h c_71
          refine lv_iload hx hb dL_lesser_74 (lv_at hl 0 rfl) ?_
          refine lv_goto (tgt := 81) hx hb dL_lesser_76 (by decide) ?_
          cases h
          exact eMi hx hb hr hlk hP hD hS rfl dL_lesser_81
      · have h := if_t h c_60
        refine lv_iconst (v := (0 : Int32)) hx hb dL_lesser_63 rfl ?_
        refine lv_goto (tgt := 81) hx hb dL_lesser_64 (by decide) ?_
        cases h
        exact eMi hx hb hr hlk hP hD hS rfl dL_lesser_81
    · have h := if_f h c_44
      refine lv_iload hx hb dL_lesser_47 (lv_at hl 1 rfl) ?_
      refine lv_goto (tgt := 54) hx hb dL_lesser_49 (by decide) ?_
      refine lv_istore (lv' := [(8, .int r_19), (7, .int t0_J38), (6, .int r_19), (5, .int r_7)]) hx hb dL_lesser_54 hl (by decide) rfl (fun ls hl => ?_)
      refine lv_iload hx hb dL_lesser_56 (lv_at hl 0 rfl) ?_
      refine lv_bipush (v := (-6 : Int32)) hx hb dL_lesser_58 rfl ?_
      refine lv_icmp_ne (tgt := 67) hx hb dL_lesser_60 (by decide) (fun c_60 => ?_) (fun c_60 => ?_)
      · have h := if_f h c_60
        refine lv_iload hx hb dL_lesser_67 (lv_at hl 1 rfl) ?_
        refine lv_bipush (v := (-6 : Int32)) hx hb dL_lesser_69 rfl ?_
        refine lv_icmp_ne (tgt := 79) hx hb dL_lesser_71 (by decide) (fun c_71 => ?_) (fun c_71 => ?_)
        · have h := if_f h c_71
          refine lv_iload hx hb dL_lesser_79 (lv_at hl 1 rfl) ?_
          cases h
          exact eMi hx hb hr hlk hP hD hS rfl dL_lesser_81
        · have h := if_t h c_71
          refine lv_iload hx hb dL_lesser_74 (lv_at hl 0 rfl) ?_
          refine lv_goto (tgt := 81) hx hb dL_lesser_76 (by decide) ?_
          cases h
          exact eMi hx hb hr hlk hP hD hS rfl dL_lesser_81
      · have h := if_t h c_60
        refine lv_iconst (v := (0 : Int32)) hx hb dL_lesser_63 rfl ?_
        refine lv_goto (tgt := 81) hx hb dL_lesser_64 (by decide) ?_
        cases h
        exact eMi hx hb hr hlk hP hD hS rfl dL_lesser_81
  refine lv_icmp_ge (tgt := 36) hx hb dL_lesser_28 (by decide) (fun c_28 => ?_) (fun c_28 => ?_)
  · have h := if_t h c_28
    refine lv_iload hx hb dL_lesser_36 (lv_at hl 0 rfl) ?_
    exact hJ38 _ h _ _ hP hD hS _ (lv_sub hl [0, 1] rfl)
  · have h := if_f h c_28
    refine lv_iload hx hb dL_lesser_31 (lv_at hl 1 rfl) ?_
    refine lv_goto (tgt := 38) hx hb dL_lesser_33 (by decide) ?_
    exact hJ38 _ h _ _ hP hD hS _ (lv_sub hl [0, 1] rfl)
noncomputable def f_L_question_L94 (p0_f_players : Int32) (p0_m_y_sets : Nat → Int32) (p0_m_n_sets : Nat → Int32) (v2 : Int32) (v3 : Int32) (r_3 : Int32) (r_11 : Int32) (r_19 : Int32) (r_27 : Int32) (rec94 : Int32 → Int32 → Int32 → (Nat → Int32) → (Nat → Int32) → (Nat → Int32) → (Nat → Int32) → (Nat → Int32) → (Nat → Int32) → Int32 → (Nat → Int32) → (Nat → Int32) → (Nat → Int32) → Int32 → Int32 → Option (Int32 × Int32 × (Nat → Int32) × (Nat → Int32) × (Nat → Int32) × (Nat → Int32) × (Nat → Int32) × (Nat → Int32) × Int32 × (Nat → Int32) × (Nat → Int32) × (Nat → Int32) × Int32 × Int32)) (v8_L94 : Int32) (v9_L94 : Int32) (p0_f_told_L94 : Int32) (p0_f_kinds_L94 : Nat → Int32) (p0_f_owners_L94 : Nat → Int32) (p0_f_cards_L94 : Nat → Int32) (p0_s_y_sets_L94 : Nat → Int32) (p0_s_y_coming_L94 : Nat → Int32) (p0_s_y_origins_L94 : Nat → Int32) (p0_s_y_round_L94 : Int32) (p0_s_n_sets_L94 : Nat → Int32) (p0_s_n_coming_L94 : Nat → Int32) (p0_s_n_origins_L94 : Nat → Int32) (p0_s_n_round_L94 : Int32) (p0_s_rounds_L94 : Int32) : Option (Int32 × Int32 × (Nat → Int32) × (Nat → Int32) × (Nat → Int32) × (Nat → Int32) × (Nat → Int32) × (Nat → Int32) × Int32 × (Nat → Int32) × (Nat → Int32) × (Nat → Int32) × Int32 × Int32) :=
  if (12 : Int32) ≤ v9_L94 then (bo v8_L94 (some (v8_L94, p0_f_told_L94, p0_f_kinds_L94, p0_f_owners_L94, p0_f_cards_L94, p0_s_y_sets_L94, p0_s_y_coming_L94, p0_s_y_origins_L94, p0_s_y_round_L94, p0_s_n_sets_L94, p0_s_n_coming_L94, p0_s_n_origins_L94, p0_s_n_round_L94, p0_s_rounds_L94))) else (ob1 (f_L_low (v3 >>> (v9_L94 &&& 31)) (6 : Int32)) (fun (r_107 : Int32) => ob1 (f_L_low (v3 >>> ((v9_L94 + (3 : Int32)) &&& 31)) (6 : Int32)) (fun (r_120 : Int32) => ob1 (f_L_low (v3 >>> ((v9_L94 + (6 : Int32)) &&& 31)) (6 : Int32)) (fun (r_134 : Int32) => ob14 (f_L_lesser p0_f_players p0_f_told_L94 p0_f_kinds_L94 p0_f_owners_L94 p0_f_cards_L94 p0_m_y_sets p0_m_n_sets p0_s_y_sets_L94 p0_s_y_coming_L94 p0_s_y_origins_L94 p0_s_y_round_L94 p0_s_n_sets_L94 p0_s_n_coming_L94 p0_s_n_origins_L94 p0_s_n_round_L94 p0_s_rounds_L94 v2 r_107 r_120 r_134) (fun (r_147 : Int32) (p0_f_told_147 : Int32) (p0_f_kinds_147 : Nat → Int32) (p0_f_owners_147 : Nat → Int32) (p0_f_cards_147 : Nat → Int32) (p0_s_y_sets_147 : Nat → Int32) (p0_s_y_coming_147 : Nat → Int32) (p0_s_y_origins_147 : Nat → Int32) (p0_s_y_round_147 : Int32) (p0_s_n_sets_147 : Nat → Int32) (p0_s_n_coming_147 : Nat → Int32) (p0_s_n_origins_147 : Nat → Int32) (p0_s_n_round_147 : Int32) (p0_s_rounds_147 : Int32) => if v8_L94 = (0 : Int32) then (rec94 (0 : Int32) (v9_L94 + (1 : Int32)) p0_f_told_147 p0_f_kinds_147 p0_f_owners_147 p0_f_cards_147 p0_s_y_sets_147 p0_s_y_coming_147 p0_s_y_origins_147 p0_s_y_round_147 p0_s_n_sets_147 p0_s_n_coming_147 p0_s_n_origins_147 p0_s_n_round_147 p0_s_rounds_147) else (if r_147 < r_27 then (rec94 (1 : Int32) (v9_L94 + (1 : Int32)) p0_f_told_147 p0_f_kinds_147 p0_f_owners_147 p0_f_cards_147 p0_s_y_sets_147 p0_s_y_coming_147 p0_s_y_origins_147 p0_s_y_round_147 p0_s_n_sets_147 p0_s_n_coming_147 p0_s_n_origins_147 p0_s_n_round_147 p0_s_rounds_147) else (if r_147 = r_27 then (if ((((36 : Int32) * r_107) + ((6 : Int32) * r_120)) + r_134) < ((((36 : Int32) * r_3) + ((6 : Int32) * r_11)) + r_19) then (rec94 (0 : Int32) (v9_L94 + (1 : Int32)) p0_f_told_147 p0_f_kinds_147 p0_f_owners_147 p0_f_cards_147 p0_s_y_sets_147 p0_s_y_coming_147 p0_s_y_origins_147 p0_s_y_round_147 p0_s_n_sets_147 p0_s_n_coming_147 p0_s_n_origins_147 p0_s_n_round_147 p0_s_rounds_147) else (rec94 (1 : Int32) (v9_L94 + (1 : Int32)) p0_f_told_147 p0_f_kinds_147 p0_f_owners_147 p0_f_cards_147 p0_s_y_sets_147 p0_s_y_coming_147 p0_s_y_origins_147 p0_s_y_round_147 p0_s_n_sets_147 p0_s_n_coming_147 p0_s_n_origins_147 p0_s_n_round_147 p0_s_rounds_147)) else (rec94 (0 : Int32) (v9_L94 + (1 : Int32)) p0_f_told_147 p0_f_kinds_147 p0_f_owners_147 p0_f_cards_147 p0_s_y_sets_147 p0_s_y_coming_147 p0_s_y_origins_147 p0_s_y_round_147 p0_s_n_sets_147 p0_s_n_coming_147 p0_s_n_origins_147 p0_s_n_round_147 p0_s_rounds_147))))))))
noncomputable def f_L_question_J89 (p0_f_players : Int32) (p0_m_y_sets : Nat → Int32) (p0_m_n_sets : Nat → Int32) (v2 : Int32) (v3 : Int32) (r_3 : Int32) (r_11 : Int32) (r_19 : Int32) (r_27 : Int32) (t0_J89 : Int32) (p0_f_told_J89 : Int32) (p0_f_kinds_J89 : Nat → Int32) (p0_f_owners_J89 : Nat → Int32) (p0_f_cards_J89 : Nat → Int32) (p0_s_y_sets_J89 : Nat → Int32) (p0_s_y_coming_J89 : Nat → Int32) (p0_s_y_origins_J89 : Nat → Int32) (p0_s_y_round_J89 : Int32) (p0_s_n_sets_J89 : Nat → Int32) (p0_s_n_coming_J89 : Nat → Int32) (p0_s_n_origins_J89 : Nat → Int32) (p0_s_n_round_J89 : Int32) (p0_s_rounds_J89 : Int32) : Option (Int32 × Int32 × (Nat → Int32) × (Nat → Int32) × (Nat → Int32) × (Nat → Int32) × (Nat → Int32) × (Nat → Int32) × Int32 × (Nat → Int32) × (Nat → Int32) × (Nat → Int32) × Int32 × Int32) :=
  lo15 (f_L_question_L94 p0_f_players p0_m_y_sets p0_m_n_sets v2 v3 r_3 r_11 r_19 r_27) FU t0_J89 (0 : Int32) p0_f_told_J89 p0_f_kinds_J89 p0_f_owners_J89 p0_f_cards_J89 p0_s_y_sets_J89 p0_s_y_coming_J89 p0_s_y_origins_J89 p0_s_y_round_J89 p0_s_n_sets_J89 p0_s_n_coming_J89 p0_s_n_origins_J89 p0_s_n_round_J89 p0_s_rounds_J89
noncomputable def f_L_question_J88 (p0_f_players : Int32) (p0_m_y_sets : Nat → Int32) (p0_m_n_sets : Nat → Int32) (v2 : Int32) (v3 : Int32) (r_3 : Int32) (r_11 : Int32) (r_19 : Int32) (r_27 : Int32) (p0_f_told_J88 : Int32) (p0_f_kinds_J88 : Nat → Int32) (p0_f_owners_J88 : Nat → Int32) (p0_f_cards_J88 : Nat → Int32) (p0_s_y_sets_J88 : Nat → Int32) (p0_s_y_coming_J88 : Nat → Int32) (p0_s_y_origins_J88 : Nat → Int32) (p0_s_y_round_J88 : Int32) (p0_s_n_sets_J88 : Nat → Int32) (p0_s_n_coming_J88 : Nat → Int32) (p0_s_n_origins_J88 : Nat → Int32) (p0_s_n_round_J88 : Int32) (p0_s_rounds_J88 : Int32) : Option (Int32 × Int32 × (Nat → Int32) × (Nat → Int32) × (Nat → Int32) × (Nat → Int32) × (Nat → Int32) × (Nat → Int32) × Int32 × (Nat → Int32) × (Nat → Int32) × (Nat → Int32) × Int32 × Int32) :=
  f_L_question_J89 p0_f_players p0_m_y_sets p0_m_n_sets v2 v3 r_3 r_11 r_19 r_27 (0 : Int32) p0_f_told_J88 p0_f_kinds_J88 p0_f_owners_J88 p0_f_cards_J88 p0_s_y_sets_J88 p0_s_y_coming_J88 p0_s_y_origins_J88 p0_s_y_round_J88 p0_s_n_sets_J88 p0_s_n_coming_J88 p0_s_n_origins_J88 p0_s_n_round_J88 p0_s_rounds_J88
noncomputable def f_L_question (p0_f_players : Int32) (p0_f_told : Int32) (p0_f_kinds : Nat → Int32) (p0_f_owners : Nat → Int32) (p0_f_cards : Nat → Int32) (p0_m_y_sets : Nat → Int32) (p0_m_n_sets : Nat → Int32) (p0_s_y_sets : Nat → Int32) (p0_s_y_coming : Nat → Int32) (p0_s_y_origins : Nat → Int32) (p0_s_y_round : Int32) (p0_s_n_sets : Nat → Int32) (p0_s_n_coming : Nat → Int32) (p0_s_n_origins : Nat → Int32) (p0_s_n_round : Int32) (p0_s_rounds : Int32) (v2 : Int32) (v3 : Int32) : Option (Int32 × Int32 × (Nat → Int32) × (Nat → Int32) × (Nat → Int32) × (Nat → Int32) × (Nat → Int32) × (Nat → Int32) × Int32 × (Nat → Int32) × (Nat → Int32) × (Nat → Int32) × Int32 × Int32) :=
  ob14 (f_X5_bestQuestion p0_f_players p0_f_told p0_f_kinds p0_f_owners p0_f_cards p0_m_y_sets p0_m_n_sets p0_s_y_sets p0_s_y_coming p0_s_y_origins p0_s_y_round p0_s_n_sets p0_s_n_coming p0_s_n_origins p0_s_n_round p0_s_rounds v2 (0 : Int32)) (fun (r_3 : Int32) (p0_f_told_3 : Int32) (p0_f_kinds_3 : Nat → Int32) (p0_f_owners_3 : Nat → Int32) (p0_f_cards_3 : Nat → Int32) (p0_s_y_sets_3 : Nat → Int32) (p0_s_y_coming_3 : Nat → Int32) (p0_s_y_origins_3 : Nat → Int32) (p0_s_y_round_3 : Int32) (p0_s_n_sets_3 : Nat → Int32) (p0_s_n_coming_3 : Nat → Int32) (p0_s_n_origins_3 : Nat → Int32) (p0_s_n_round_3 : Int32) (p0_s_rounds_3 : Int32) => ob14 (f_X5_bestQuestion p0_f_players p0_f_told_3 p0_f_kinds_3 p0_f_owners_3 p0_f_cards_3 p0_m_y_sets p0_m_n_sets p0_s_y_sets_3 p0_s_y_coming_3 p0_s_y_origins_3 p0_s_y_round_3 p0_s_n_sets_3 p0_s_n_coming_3 p0_s_n_origins_3 p0_s_n_round_3 p0_s_rounds_3 v2 (1 : Int32)) (fun (r_11 : Int32) (p0_f_told_11 : Int32) (p0_f_kinds_11 : Nat → Int32) (p0_f_owners_11 : Nat → Int32) (p0_f_cards_11 : Nat → Int32) (p0_s_y_sets_11 : Nat → Int32) (p0_s_y_coming_11 : Nat → Int32) (p0_s_y_origins_11 : Nat → Int32) (p0_s_y_round_11 : Int32) (p0_s_n_sets_11 : Nat → Int32) (p0_s_n_coming_11 : Nat → Int32) (p0_s_n_origins_11 : Nat → Int32) (p0_s_n_round_11 : Int32) (p0_s_rounds_11 : Int32) => ob14 (f_X5_bestQuestion p0_f_players p0_f_told_11 p0_f_kinds_11 p0_f_owners_11 p0_f_cards_11 p0_m_y_sets p0_m_n_sets p0_s_y_sets_11 p0_s_y_coming_11 p0_s_y_origins_11 p0_s_y_round_11 p0_s_n_sets_11 p0_s_n_coming_11 p0_s_n_origins_11 p0_s_n_round_11 p0_s_rounds_11 v2 (2 : Int32)) (fun (r_19 : Int32) (p0_f_told_19 : Int32) (p0_f_kinds_19 : Nat → Int32) (p0_f_owners_19 : Nat → Int32) (p0_f_cards_19 : Nat → Int32) (p0_s_y_sets_19 : Nat → Int32) (p0_s_y_coming_19 : Nat → Int32) (p0_s_y_origins_19 : Nat → Int32) (p0_s_y_round_19 : Int32) (p0_s_n_sets_19 : Nat → Int32) (p0_s_n_coming_19 : Nat → Int32) (p0_s_n_origins_19 : Nat → Int32) (p0_s_n_round_19 : Int32) (p0_s_rounds_19 : Int32) => ob14 (f_X5_bestQuestion p0_f_players p0_f_told_19 p0_f_kinds_19 p0_f_owners_19 p0_f_cards_19 p0_m_y_sets p0_m_n_sets p0_s_y_sets_19 p0_s_y_coming_19 p0_s_y_origins_19 p0_s_y_round_19 p0_s_n_sets_19 p0_s_n_coming_19 p0_s_n_origins_19 p0_s_n_round_19 p0_s_rounds_19 v2 (3 : Int32)) (fun (r_27 : Int32) (p0_f_told_27 : Int32) (p0_f_kinds_27 : Nat → Int32) (p0_f_owners_27 : Nat → Int32) (p0_f_cards_27 : Nat → Int32) (p0_s_y_sets_27 : Nat → Int32) (p0_s_y_coming_27 : Nat → Int32) (p0_s_y_origins_27 : Nat → Int32) (p0_s_y_round_27 : Int32) (p0_s_n_sets_27 : Nat → Int32) (p0_s_n_coming_27 : Nat → Int32) (p0_s_n_origins_27 : Nat → Int32) (p0_s_n_round_27 : Int32) (p0_s_rounds_27 : Int32) => if r_3 < (0 : Int32) then (f_L_question_J88 p0_f_players p0_m_y_sets p0_m_n_sets v2 v3 r_3 r_11 r_19 r_27 p0_f_told_27 p0_f_kinds_27 p0_f_owners_27 p0_f_cards_27 p0_s_y_sets_27 p0_s_y_coming_27 p0_s_y_origins_27 p0_s_y_round_27 p0_s_n_sets_27 p0_s_n_coming_27 p0_s_n_origins_27 p0_s_n_round_27 p0_s_rounds_27) else (if (6 : Int32) ≤ r_3 then (f_L_question_J88 p0_f_players p0_m_y_sets p0_m_n_sets v2 v3 r_3 r_11 r_19 r_27 p0_f_told_27 p0_f_kinds_27 p0_f_owners_27 p0_f_cards_27 p0_s_y_sets_27 p0_s_y_coming_27 p0_s_y_origins_27 p0_s_y_round_27 p0_s_n_sets_27 p0_s_n_coming_27 p0_s_n_origins_27 p0_s_n_round_27 p0_s_rounds_27) else (if r_11 < (0 : Int32) then (f_L_question_J88 p0_f_players p0_m_y_sets p0_m_n_sets v2 v3 r_3 r_11 r_19 r_27 p0_f_told_27 p0_f_kinds_27 p0_f_owners_27 p0_f_cards_27 p0_s_y_sets_27 p0_s_y_coming_27 p0_s_y_origins_27 p0_s_y_round_27 p0_s_n_sets_27 p0_s_n_coming_27 p0_s_n_origins_27 p0_s_n_round_27 p0_s_rounds_27) else (if (6 : Int32) ≤ r_11 then (f_L_question_J88 p0_f_players p0_m_y_sets p0_m_n_sets v2 v3 r_3 r_11 r_19 r_27 p0_f_told_27 p0_f_kinds_27 p0_f_owners_27 p0_f_cards_27 p0_s_y_sets_27 p0_s_y_coming_27 p0_s_y_origins_27 p0_s_y_round_27 p0_s_n_sets_27 p0_s_n_coming_27 p0_s_n_origins_27 p0_s_n_round_27 p0_s_rounds_27) else (if r_19 < (0 : Int32) then (f_L_question_J88 p0_f_players p0_m_y_sets p0_m_n_sets v2 v3 r_3 r_11 r_19 r_27 p0_f_told_27 p0_f_kinds_27 p0_f_owners_27 p0_f_cards_27 p0_s_y_sets_27 p0_s_y_coming_27 p0_s_y_origins_27 p0_s_y_round_27 p0_s_n_sets_27 p0_s_n_coming_27 p0_s_n_origins_27 p0_s_n_round_27 p0_s_rounds_27) else (if (6 : Int32) ≤ r_19 then (f_L_question_J88 p0_f_players p0_m_y_sets p0_m_n_sets v2 v3 r_3 r_11 r_19 r_27 p0_f_told_27 p0_f_kinds_27 p0_f_owners_27 p0_f_cards_27 p0_s_y_sets_27 p0_s_y_coming_27 p0_s_y_origins_27 p0_s_y_round_27 p0_s_n_sets_27 p0_s_n_coming_27 p0_s_n_origins_27 p0_s_n_round_27 p0_s_rounds_27) else (ob14 (f_L_lesser p0_f_players p0_f_told_27 p0_f_kinds_27 p0_f_owners_27 p0_f_cards_27 p0_m_y_sets p0_m_n_sets p0_s_y_sets_27 p0_s_y_coming_27 p0_s_y_origins_27 p0_s_y_round_27 p0_s_n_sets_27 p0_s_n_coming_27 p0_s_n_origins_27 p0_s_n_round_27 p0_s_rounds_27 v2 r_3 r_11 r_19) (fun (r_76 : Int32) (p0_f_told_76 : Int32) (p0_f_kinds_76 : Nat → Int32) (p0_f_owners_76 : Nat → Int32) (p0_f_cards_76 : Nat → Int32) (p0_s_y_sets_76 : Nat → Int32) (p0_s_y_coming_76 : Nat → Int32) (p0_s_y_origins_76 : Nat → Int32) (p0_s_y_round_76 : Int32) (p0_s_n_sets_76 : Nat → Int32) (p0_s_n_coming_76 : Nat → Int32) (p0_s_n_origins_76 : Nat → Int32) (p0_s_n_round_76 : Int32) (p0_s_rounds_76 : Int32) => if r_76 = r_27 then (f_L_question_J89 p0_f_players p0_m_y_sets p0_m_n_sets v2 v3 r_3 r_11 r_19 r_27 (1 : Int32) p0_f_told_76 p0_f_kinds_76 p0_f_owners_76 p0_f_cards_76 p0_s_y_sets_76 p0_s_y_coming_76 p0_s_y_origins_76 p0_s_y_round_76 p0_s_n_sets_76 p0_s_n_coming_76 p0_s_n_origins_76 p0_s_n_round_76 p0_s_rounds_76) else (f_L_question_J88 p0_f_players p0_m_y_sets p0_m_n_sets v2 v3 r_3 r_11 r_19 r_27 p0_f_told_76 p0_f_kinds_76 p0_f_owners_76 p0_f_cards_76 p0_s_y_sets_76 p0_s_y_coming_76 p0_s_y_origins_76 p0_s_y_round_76 p0_s_n_sets_76 p0_s_n_coming_76 p0_s_n_origins_76 p0_s_n_round_76 p0_s_rounds_76))))))))))))
set_option maxHeartbeats 4000000 in
set_option maxRecDepth 100000 in
theorem c_L_question (l : Launch) (dC : Nat → ClassId) (dI : Nat → Nat → Nat) (ck : Nat → ClassId) (b0 b0_f b0_f_kinds b0_f_owners b0_f_cards b0_m b0_m_y b0_m_y_sets b0_m_y_coming b0_m_y_origins b0_m_n b0_m_n_sets b0_m_n_coming b0_m_n_origins b0_s b0_s_y b0_s_y_sets b0_s_y_coming b0_s_y_origins b0_s_n b0_s_n_sets b0_s_n_coming b0_s_n_origins b0_h b0_slots b0_p b0_f b0_f_kinds b0_f_owners b0_f_cards b0_m b0_m_y b0_m_y_sets b0_m_y_coming b0_m_y_origins b0_m_n b0_m_n_sets b0_m_n_coming b0_m_n_origins b0_s b0_s_y b0_s_y_sets b0_s_y_coming b0_s_y_origins b0_s_n b0_s_n_sets b0_s_n_coming b0_s_n_origins b1 : Nat) (p0_f_players : Int32) (p0_f_told : Int32) (p0_f_kinds : Nat → Int32) (p0_f_owners : Nat → Int32) (p0_f_cards : Nat → Int32) (p0_m_y_sets : Nat → Int32) (p0_m_y_coming : Nat → Int32) (p0_m_y_origins : Nat → Int32) (p0_m_y_round : Int32) (p0_m_n_sets : Nat → Int32) (p0_m_n_coming : Nat → Int32) (p0_m_n_origins : Nat → Int32) (p0_m_n_round : Int32) (p0_m_rounds : Int32) (p0_s_y_sets : Nat → Int32) (p0_s_y_coming : Nat → Int32) (p0_s_y_origins : Nat → Int32) (p0_s_y_round : Int32) (p0_s_n_sets : Nat → Int32) (p0_s_n_coming : Nat → Int32) (p0_s_n_origins : Nat → Int32) (p0_s_n_round : Int32) (p0_s_rounds : Int32) (p1_row : Nat → Int32) (v2 : Int32) (v3 : Int32) (o0 : Int32) (o1 : Int32) (o2 : Nat → Int32) (o3 : Nat → Int32) (o4 : Nat → Int32) (o5 : Nat → Int32) (o6 : Nat → Int32) (o7 : Nat → Int32) (o8 : Int32) (o9 : Nat → Int32) (o10 : Nat → Int32) (o11 : Nat → Int32) (o12 : Int32) (o13 : Int32) (h : f_L_question p0_f_players p0_f_told p0_f_kinds p0_f_owners p0_f_cards p0_m_y_sets p0_m_n_sets p0_s_y_sets p0_s_y_coming p0_s_y_origins p0_s_y_round p0_s_n_sets p0_s_n_coming p0_s_n_origins p0_s_n_round p0_s_rounds v2 v3 = some (o0, o1, o2, o3, o4, o5, o6, o7, o8, o9, o10, o11, o12, o13)) : MI l yL_question wsL_question ({ frames := 8, cells := 0, slots := 0, locals := 195 }) [.ref b0, .ref b1, .int v2, .int v3] (dC, dI) ck ([(b0, .inr (5, [.ref b0_f, .ref b0_m, .ref b0_s, .ref b0_h, .ref b0_slots, .ref b0_p]))] ++ wX0 ck b0_f b0_f_kinds b0_f_owners b0_f_cards p0_f_players p0_f_told p0_f_kinds p0_f_owners p0_f_cards ++ wX2 ck b0_m b0_m_y b0_m_y_sets b0_m_y_coming b0_m_y_origins b0_m_n b0_m_n_sets b0_m_n_coming b0_m_n_origins p0_m_y_sets p0_m_y_coming p0_m_y_origins p0_m_y_round p0_m_n_sets p0_m_n_coming p0_m_n_origins p0_m_n_round p0_m_rounds ++ wX2 ck b0_s b0_s_y b0_s_y_sets b0_s_y_coming b0_s_y_origins b0_s_n b0_s_n_sets b0_s_n_coming b0_s_n_origins p0_s_y_sets p0_s_y_coming p0_s_y_origins p0_s_y_round p0_s_n_sets p0_s_n_coming p0_s_n_origins p0_s_n_round p0_s_rounds ++ [(b1, .inl (ck 0, 19, .inl p1_row))]) ([(b0, .inr (5, [.ref b0_f, .ref b0_m, .ref b0_s, .ref b0_h, .ref b0_slots, .ref b0_p]))] ++ wX0 ck b0_f b0_f_kinds b0_f_owners b0_f_cards p0_f_players o1 o2 o3 o4 ++ wX2 ck b0_m b0_m_y b0_m_y_sets b0_m_y_coming b0_m_y_origins b0_m_n b0_m_n_sets b0_m_n_coming b0_m_n_origins p0_m_y_sets p0_m_y_coming p0_m_y_origins p0_m_y_round p0_m_n_sets p0_m_n_coming p0_m_n_origins p0_m_n_round p0_m_rounds ++ wX2 ck b0_s b0_s_y b0_s_y_sets b0_s_y_coming b0_s_y_origins b0_s_n b0_s_n_sets b0_s_n_coming b0_s_n_origins o5 o6 o7 o8 o9 o10 o11 o12 o13 ++ [(b1, .inl (ck 0, 19, .inl p1_row))]) o0 := by
  refine MI.ofW (cc := cL_question) (maxL := 14) (ret := (some .boolean)) (by decide +kernel) rfl (Nat.le_of_ble_eq_true rfl) ?_
  intro p e s m below meth c hx hb hr hml hts hown hlk hK hP A hA hD ls hl
  have hS : va_S A s.heap s.heap [] := va_S.rf
  have hown : s.vm.findClass RL = some m.cls := hown
  have hl : lv_has ls 14 [(0, .ref b0), (1, .ref b1), (2, .int v2), (3, .int v3)] := hl
  unfold f_L_question at h
  refine lv_aload_n hx hb dL_question_0 rfl (lv_at hl 0 rfl) ?_
  refine lv_iload_n hx hb dL_question_1 rfl (lv_at hl 2 rfl) ?_
  refine lv_iconst (v := (0 : Int32)) hx hb dL_question_2 rfl ?_
  obtain ⟨r_3, p0_f_told_3, p0_f_kinds_3, p0_f_owners_3, p0_f_cards_3, p0_s_y_sets_3, p0_s_y_coming_3, p0_s_y_origins_3, p0_s_y_round_3, p0_s_n_sets_3, p0_s_n_coming_3, p0_s_n_origins_3, p0_s_n_round_3, p0_s_rounds_3, q_3, h⟩ := ob14_e h
  refine cMI (wc := [(b0, .inr (5, [.ref b0_f, .ref b0_m, .ref b0_s, .ref b0_h, .ref b0_slots, .ref b0_p]))] ++ wX0 ck b0_f b0_f_kinds b0_f_owners b0_f_cards p0_f_players p0_f_told p0_f_kinds p0_f_owners p0_f_cards ++ wX2 ck b0_m b0_m_y b0_m_y_sets b0_m_y_coming b0_m_y_origins b0_m_n b0_m_n_sets b0_m_n_coming b0_m_n_origins p0_m_y_sets p0_m_y_coming p0_m_y_origins p0_m_y_round p0_m_n_sets p0_m_n_coming p0_m_n_origins p0_m_n_round p0_m_rounds ++ wX2 ck b0_s b0_s_y b0_s_y_sets b0_s_y_coming b0_s_y_origins b0_s_n b0_s_n_sets b0_s_n_coming b0_s_n_origins p0_s_y_sets p0_s_y_coming p0_s_y_origins p0_s_y_round p0_s_n_sets p0_s_n_coming p0_s_n_origins p0_s_n_round p0_s_rounds) (wr := [(b1, .inl (ck 0, 19, .inl p1_row))]) (w1 := [(b0, .inr (5, [.ref b0_f, .ref b0_m, .ref b0_s, .ref b0_h, .ref b0_slots, .ref b0_p]))] ++ wX0 ck b0_f b0_f_kinds b0_f_owners b0_f_cards p0_f_players p0_f_told_3 p0_f_kinds_3 p0_f_owners_3 p0_f_cards_3 ++ wX2 ck b0_m b0_m_y b0_m_y_sets b0_m_y_coming b0_m_y_origins b0_m_n b0_m_n_sets b0_m_n_coming b0_m_n_origins p0_m_y_sets p0_m_y_coming p0_m_y_origins p0_m_y_round p0_m_n_sets p0_m_n_coming p0_m_n_origins p0_m_n_round p0_m_rounds ++ wX2 ck b0_s b0_s_y b0_s_y_sets b0_s_y_coming b0_s_y_origins b0_s_n b0_s_n_sets b0_s_n_coming b0_s_n_origins p0_s_y_sets_3 p0_s_y_coming_3 p0_s_y_origins_3 p0_s_y_round_3 p0_s_n_sets_3 p0_s_n_coming_3 p0_s_n_origins_3 p0_s_n_round_3 p0_s_rounds_3) (wn := [(b0, .inr (5, [.ref b0_f, .ref b0_m, .ref b0_s, .ref b0_h, .ref b0_slots, .ref b0_p]))] ++ wX0 ck b0_f b0_f_kinds b0_f_owners b0_f_cards p0_f_players p0_f_told_3 p0_f_kinds_3 p0_f_owners_3 p0_f_cards_3 ++ wX2 ck b0_m b0_m_y b0_m_y_sets b0_m_y_coming b0_m_y_origins b0_m_n b0_m_n_sets b0_m_n_coming b0_m_n_origins p0_m_y_sets p0_m_y_coming p0_m_y_origins p0_m_y_round p0_m_n_sets p0_m_n_coming p0_m_n_origins p0_m_n_round p0_m_rounds ++ wX2 ck b0_s b0_s_y b0_s_y_sets b0_s_y_coming b0_s_y_origins b0_s_n b0_s_n_sets b0_s_n_coming b0_s_n_origins p0_s_y_sets_3 p0_s_y_coming_3 p0_s_y_origins_3 p0_s_y_round_3 p0_s_n_sets_3 p0_s_n_coming_3 p0_s_n_origins_3 p0_s_n_round_3 p0_s_rounds_3 ++ [(b1, .inl (ck 0, 19, .inl p1_row))]) ⟨hx, hb, hml, hown, hts⟩ hK hP hD hS hA [0, 1, 2, 3, 4, 5, 6, 7, 8, 9, 10, 11, 12, 13, 14, 15, 16, 17, 18, 19, 20, 21, 22] [23] [1, 2, 3, 4, 5, 6, 7, 8, 9, 10, 11, 12, 13, 14, 15, 16, 17, 18, 19, 20, 21, 22, 23, 0] rfl (by decide) rfl (by decide) (by decide) rfl (by decide) (c_X5_bestQuestion l dC dI ck b0 b0_f b0_f_kinds b0_f_owners b0_f_cards b0_m b0_m_y b0_m_y_sets b0_m_y_coming b0_m_y_origins b0_m_n b0_m_n_sets b0_m_n_coming b0_m_n_origins b0_s b0_s_y b0_s_y_sets b0_s_y_coming b0_s_y_origins b0_s_n b0_s_n_sets b0_s_n_coming b0_s_n_origins b0_h b0_slots b0_p b0_f b0_f_kinds b0_f_owners b0_f_cards b0_m b0_m_y b0_m_y_sets b0_m_y_coming b0_m_y_origins b0_m_n b0_m_n_sets b0_m_n_coming b0_m_n_origins b0_s b0_s_y b0_s_y_sets b0_s_y_coming b0_s_y_origins b0_s_n b0_s_n_sets b0_s_n_coming b0_s_n_origins p0_f_players p0_f_told p0_f_kinds p0_f_owners p0_f_cards p0_m_y_sets p0_m_y_coming p0_m_y_origins p0_m_y_round p0_m_n_sets p0_m_n_coming p0_m_n_origins p0_m_n_round p0_m_rounds p0_s_y_sets p0_s_y_coming p0_s_y_origins p0_s_y_round p0_s_n_sets p0_s_n_coming p0_s_n_origins p0_s_n_round p0_s_rounds v2 (0 : Int32) r_3 p0_f_told_3 p0_f_kinds_3 p0_f_owners_3 p0_f_cards_3 p0_s_y_sets_3 p0_s_y_coming_3 p0_s_y_origins_3 p0_s_y_round_3 p0_s_n_sets_3 p0_s_n_coming_3 p0_s_n_origins_3 p0_s_n_round_3 p0_s_rounds_3 q_3) (cwV 2 hts gL_question_X5_bestQuestion rfl rfl rfl (by decide +kernel) ⟨Nat.le_of_ble_eq_true rfl, Nat.le_of_ble_eq_true rfl⟩) 0 rfl rfl rfl hl.1 rfl (Nat.le_of_ble_eq_true rfl) dL_question_3 ⟨Nat.zero_le _, Nat.zero_le _⟩ (fun H locs hP hD hS => ?_)
  refine lv_istore (lv' := [(4, .int r_3), (0, .ref b0), (1, .ref b1), (2, .int v2), (3, .int v3)]) hx hb dL_question_6 hl (by decide) rfl (fun ls hl => ?_)
  refine lv_aload_n hx hb dL_question_8 rfl (lv_at hl 1 rfl) ?_
  refine lv_iload_n hx hb dL_question_9 rfl (lv_at hl 3 rfl) ?_
  refine lv_iconst (v := (1 : Int32)) hx hb dL_question_10 rfl ?_
  obtain ⟨r_11, p0_f_told_11, p0_f_kinds_11, p0_f_owners_11, p0_f_cards_11, p0_s_y_sets_11, p0_s_y_coming_11, p0_s_y_origins_11, p0_s_y_round_11, p0_s_n_sets_11, p0_s_n_coming_11, p0_s_n_origins_11, p0_s_n_round_11, p0_s_rounds_11, q_11, h⟩ := ob14_e h
  refine cMI (wc := [(b0, .inr (5, [.ref b0_f, .ref b0_m, .ref b0_s, .ref b0_h, .ref b0_slots, .ref b0_p]))] ++ wX0 ck b0_f b0_f_kinds b0_f_owners b0_f_cards p0_f_players p0_f_told_3 p0_f_kinds_3 p0_f_owners_3 p0_f_cards_3 ++ wX2 ck b0_m b0_m_y b0_m_y_sets b0_m_y_coming b0_m_y_origins b0_m_n b0_m_n_sets b0_m_n_coming b0_m_n_origins p0_m_y_sets p0_m_y_coming p0_m_y_origins p0_m_y_round p0_m_n_sets p0_m_n_coming p0_m_n_origins p0_m_n_round p0_m_rounds ++ wX2 ck b0_s b0_s_y b0_s_y_sets b0_s_y_coming b0_s_y_origins b0_s_n b0_s_n_sets b0_s_n_coming b0_s_n_origins p0_s_y_sets_3 p0_s_y_coming_3 p0_s_y_origins_3 p0_s_y_round_3 p0_s_n_sets_3 p0_s_n_coming_3 p0_s_n_origins_3 p0_s_n_round_3 p0_s_rounds_3) (wr := [(b1, .inl (ck 0, 19, .inl p1_row))]) (w1 := [(b0, .inr (5, [.ref b0_f, .ref b0_m, .ref b0_s, .ref b0_h, .ref b0_slots, .ref b0_p]))] ++ wX0 ck b0_f b0_f_kinds b0_f_owners b0_f_cards p0_f_players p0_f_told_11 p0_f_kinds_11 p0_f_owners_11 p0_f_cards_11 ++ wX2 ck b0_m b0_m_y b0_m_y_sets b0_m_y_coming b0_m_y_origins b0_m_n b0_m_n_sets b0_m_n_coming b0_m_n_origins p0_m_y_sets p0_m_y_coming p0_m_y_origins p0_m_y_round p0_m_n_sets p0_m_n_coming p0_m_n_origins p0_m_n_round p0_m_rounds ++ wX2 ck b0_s b0_s_y b0_s_y_sets b0_s_y_coming b0_s_y_origins b0_s_n b0_s_n_sets b0_s_n_coming b0_s_n_origins p0_s_y_sets_11 p0_s_y_coming_11 p0_s_y_origins_11 p0_s_y_round_11 p0_s_n_sets_11 p0_s_n_coming_11 p0_s_n_origins_11 p0_s_n_round_11 p0_s_rounds_11) (wn := [(b0, .inr (5, [.ref b0_f, .ref b0_m, .ref b0_s, .ref b0_h, .ref b0_slots, .ref b0_p]))] ++ wX0 ck b0_f b0_f_kinds b0_f_owners b0_f_cards p0_f_players p0_f_told_11 p0_f_kinds_11 p0_f_owners_11 p0_f_cards_11 ++ wX2 ck b0_m b0_m_y b0_m_y_sets b0_m_y_coming b0_m_y_origins b0_m_n b0_m_n_sets b0_m_n_coming b0_m_n_origins p0_m_y_sets p0_m_y_coming p0_m_y_origins p0_m_y_round p0_m_n_sets p0_m_n_coming p0_m_n_origins p0_m_n_round p0_m_rounds ++ wX2 ck b0_s b0_s_y b0_s_y_sets b0_s_y_coming b0_s_y_origins b0_s_n b0_s_n_sets b0_s_n_coming b0_s_n_origins p0_s_y_sets_11 p0_s_y_coming_11 p0_s_y_origins_11 p0_s_y_round_11 p0_s_n_sets_11 p0_s_n_coming_11 p0_s_n_origins_11 p0_s_n_round_11 p0_s_rounds_11 ++ [(b1, .inl (ck 0, 19, .inl p1_row))]) ⟨hx, hb, hml, hown, hts⟩ hK hP hD hS hA [0, 1, 2, 3, 4, 5, 6, 7, 8, 9, 10, 11, 12, 13, 14, 15, 16, 17, 18, 19, 20, 21, 22] [23] [1, 2, 3, 4, 5, 6, 7, 8, 9, 10, 11, 12, 13, 14, 15, 16, 17, 18, 19, 20, 21, 22, 23, 0] rfl (by decide) rfl (by decide) (by decide) rfl (by decide) (c_X5_bestQuestion l dC dI ck b0 b0_f b0_f_kinds b0_f_owners b0_f_cards b0_m b0_m_y b0_m_y_sets b0_m_y_coming b0_m_y_origins b0_m_n b0_m_n_sets b0_m_n_coming b0_m_n_origins b0_s b0_s_y b0_s_y_sets b0_s_y_coming b0_s_y_origins b0_s_n b0_s_n_sets b0_s_n_coming b0_s_n_origins b0_h b0_slots b0_p b0_f b0_f_kinds b0_f_owners b0_f_cards b0_m b0_m_y b0_m_y_sets b0_m_y_coming b0_m_y_origins b0_m_n b0_m_n_sets b0_m_n_coming b0_m_n_origins b0_s b0_s_y b0_s_y_sets b0_s_y_coming b0_s_y_origins b0_s_n b0_s_n_sets b0_s_n_coming b0_s_n_origins p0_f_players p0_f_told_3 p0_f_kinds_3 p0_f_owners_3 p0_f_cards_3 p0_m_y_sets p0_m_y_coming p0_m_y_origins p0_m_y_round p0_m_n_sets p0_m_n_coming p0_m_n_origins p0_m_n_round p0_m_rounds p0_s_y_sets_3 p0_s_y_coming_3 p0_s_y_origins_3 p0_s_y_round_3 p0_s_n_sets_3 p0_s_n_coming_3 p0_s_n_origins_3 p0_s_n_round_3 p0_s_rounds_3 v2 (1 : Int32) r_11 p0_f_told_11 p0_f_kinds_11 p0_f_owners_11 p0_f_cards_11 p0_s_y_sets_11 p0_s_y_coming_11 p0_s_y_origins_11 p0_s_y_round_11 p0_s_n_sets_11 p0_s_n_coming_11 p0_s_n_origins_11 p0_s_n_round_11 p0_s_rounds_11 q_11) (cwV 2 hts gL_question_X5_bestQuestion rfl rfl rfl (by decide +kernel) ⟨Nat.le_of_ble_eq_true rfl, Nat.le_of_ble_eq_true rfl⟩) 0 rfl rfl rfl hl.1 rfl (Nat.le_of_ble_eq_true rfl) dL_question_11 ⟨Nat.zero_le _, Nat.zero_le _⟩ (fun H locs hP hD hS => ?_)
  refine lv_istore (lv' := [(5, .int r_11), (4, .int r_3), (0, .ref b0), (1, .ref b1), (2, .int v2), (3, .int v3)]) hx hb dL_question_14 hl (by decide) rfl (fun ls hl => ?_)
  refine lv_aload_n hx hb dL_question_16 rfl (lv_at hl 2 rfl) ?_
  refine lv_iload_n hx hb dL_question_17 rfl (lv_at hl 4 rfl) ?_
  refine lv_iconst (v := (2 : Int32)) hx hb dL_question_18 rfl ?_
  obtain ⟨r_19, p0_f_told_19, p0_f_kinds_19, p0_f_owners_19, p0_f_cards_19, p0_s_y_sets_19, p0_s_y_coming_19, p0_s_y_origins_19, p0_s_y_round_19, p0_s_n_sets_19, p0_s_n_coming_19, p0_s_n_origins_19, p0_s_n_round_19, p0_s_rounds_19, q_19, h⟩ := ob14_e h
  refine cMI (wc := [(b0, .inr (5, [.ref b0_f, .ref b0_m, .ref b0_s, .ref b0_h, .ref b0_slots, .ref b0_p]))] ++ wX0 ck b0_f b0_f_kinds b0_f_owners b0_f_cards p0_f_players p0_f_told_11 p0_f_kinds_11 p0_f_owners_11 p0_f_cards_11 ++ wX2 ck b0_m b0_m_y b0_m_y_sets b0_m_y_coming b0_m_y_origins b0_m_n b0_m_n_sets b0_m_n_coming b0_m_n_origins p0_m_y_sets p0_m_y_coming p0_m_y_origins p0_m_y_round p0_m_n_sets p0_m_n_coming p0_m_n_origins p0_m_n_round p0_m_rounds ++ wX2 ck b0_s b0_s_y b0_s_y_sets b0_s_y_coming b0_s_y_origins b0_s_n b0_s_n_sets b0_s_n_coming b0_s_n_origins p0_s_y_sets_11 p0_s_y_coming_11 p0_s_y_origins_11 p0_s_y_round_11 p0_s_n_sets_11 p0_s_n_coming_11 p0_s_n_origins_11 p0_s_n_round_11 p0_s_rounds_11) (wr := [(b1, .inl (ck 0, 19, .inl p1_row))]) (w1 := [(b0, .inr (5, [.ref b0_f, .ref b0_m, .ref b0_s, .ref b0_h, .ref b0_slots, .ref b0_p]))] ++ wX0 ck b0_f b0_f_kinds b0_f_owners b0_f_cards p0_f_players p0_f_told_19 p0_f_kinds_19 p0_f_owners_19 p0_f_cards_19 ++ wX2 ck b0_m b0_m_y b0_m_y_sets b0_m_y_coming b0_m_y_origins b0_m_n b0_m_n_sets b0_m_n_coming b0_m_n_origins p0_m_y_sets p0_m_y_coming p0_m_y_origins p0_m_y_round p0_m_n_sets p0_m_n_coming p0_m_n_origins p0_m_n_round p0_m_rounds ++ wX2 ck b0_s b0_s_y b0_s_y_sets b0_s_y_coming b0_s_y_origins b0_s_n b0_s_n_sets b0_s_n_coming b0_s_n_origins p0_s_y_sets_19 p0_s_y_coming_19 p0_s_y_origins_19 p0_s_y_round_19 p0_s_n_sets_19 p0_s_n_coming_19 p0_s_n_origins_19 p0_s_n_round_19 p0_s_rounds_19) (wn := [(b0, .inr (5, [.ref b0_f, .ref b0_m, .ref b0_s, .ref b0_h, .ref b0_slots, .ref b0_p]))] ++ wX0 ck b0_f b0_f_kinds b0_f_owners b0_f_cards p0_f_players p0_f_told_19 p0_f_kinds_19 p0_f_owners_19 p0_f_cards_19 ++ wX2 ck b0_m b0_m_y b0_m_y_sets b0_m_y_coming b0_m_y_origins b0_m_n b0_m_n_sets b0_m_n_coming b0_m_n_origins p0_m_y_sets p0_m_y_coming p0_m_y_origins p0_m_y_round p0_m_n_sets p0_m_n_coming p0_m_n_origins p0_m_n_round p0_m_rounds ++ wX2 ck b0_s b0_s_y b0_s_y_sets b0_s_y_coming b0_s_y_origins b0_s_n b0_s_n_sets b0_s_n_coming b0_s_n_origins p0_s_y_sets_19 p0_s_y_coming_19 p0_s_y_origins_19 p0_s_y_round_19 p0_s_n_sets_19 p0_s_n_coming_19 p0_s_n_origins_19 p0_s_n_round_19 p0_s_rounds_19 ++ [(b1, .inl (ck 0, 19, .inl p1_row))]) ⟨hx, hb, hml, hown, hts⟩ hK hP hD hS hA [0, 1, 2, 3, 4, 5, 6, 7, 8, 9, 10, 11, 12, 13, 14, 15, 16, 17, 18, 19, 20, 21, 22] [23] [1, 2, 3, 4, 5, 6, 7, 8, 9, 10, 11, 12, 13, 14, 15, 16, 17, 18, 19, 20, 21, 22, 23, 0] rfl (by decide) rfl (by decide) (by decide) rfl (by decide) (c_X5_bestQuestion l dC dI ck b0 b0_f b0_f_kinds b0_f_owners b0_f_cards b0_m b0_m_y b0_m_y_sets b0_m_y_coming b0_m_y_origins b0_m_n b0_m_n_sets b0_m_n_coming b0_m_n_origins b0_s b0_s_y b0_s_y_sets b0_s_y_coming b0_s_y_origins b0_s_n b0_s_n_sets b0_s_n_coming b0_s_n_origins b0_h b0_slots b0_p b0_f b0_f_kinds b0_f_owners b0_f_cards b0_m b0_m_y b0_m_y_sets b0_m_y_coming b0_m_y_origins b0_m_n b0_m_n_sets b0_m_n_coming b0_m_n_origins b0_s b0_s_y b0_s_y_sets b0_s_y_coming b0_s_y_origins b0_s_n b0_s_n_sets b0_s_n_coming b0_s_n_origins p0_f_players p0_f_told_11 p0_f_kinds_11 p0_f_owners_11 p0_f_cards_11 p0_m_y_sets p0_m_y_coming p0_m_y_origins p0_m_y_round p0_m_n_sets p0_m_n_coming p0_m_n_origins p0_m_n_round p0_m_rounds p0_s_y_sets_11 p0_s_y_coming_11 p0_s_y_origins_11 p0_s_y_round_11 p0_s_n_sets_11 p0_s_n_coming_11 p0_s_n_origins_11 p0_s_n_round_11 p0_s_rounds_11 v2 (2 : Int32) r_19 p0_f_told_19 p0_f_kinds_19 p0_f_owners_19 p0_f_cards_19 p0_s_y_sets_19 p0_s_y_coming_19 p0_s_y_origins_19 p0_s_y_round_19 p0_s_n_sets_19 p0_s_n_coming_19 p0_s_n_origins_19 p0_s_n_round_19 p0_s_rounds_19 q_19) (cwV 2 hts gL_question_X5_bestQuestion rfl rfl rfl (by decide +kernel) ⟨Nat.le_of_ble_eq_true rfl, Nat.le_of_ble_eq_true rfl⟩) 0 rfl rfl rfl hl.1 rfl (Nat.le_of_ble_eq_true rfl) dL_question_19 ⟨Nat.zero_le _, Nat.zero_le _⟩ (fun H locs hP hD hS => ?_)
  refine lv_istore (lv' := [(6, .int r_19), (5, .int r_11), (4, .int r_3), (0, .ref b0), (1, .ref b1), (2, .int v2), (3, .int v3)]) hx hb dL_question_22 hl (by decide) rfl (fun ls hl => ?_)
  refine lv_aload_n hx hb dL_question_24 rfl (lv_at hl 3 rfl) ?_
  refine lv_iload_n hx hb dL_question_25 rfl (lv_at hl 5 rfl) ?_
  refine lv_iconst (v := (3 : Int32)) hx hb dL_question_26 rfl ?_
  obtain ⟨r_27, p0_f_told_27, p0_f_kinds_27, p0_f_owners_27, p0_f_cards_27, p0_s_y_sets_27, p0_s_y_coming_27, p0_s_y_origins_27, p0_s_y_round_27, p0_s_n_sets_27, p0_s_n_coming_27, p0_s_n_origins_27, p0_s_n_round_27, p0_s_rounds_27, q_27, h⟩ := ob14_e h
  refine cMI (wc := [(b0, .inr (5, [.ref b0_f, .ref b0_m, .ref b0_s, .ref b0_h, .ref b0_slots, .ref b0_p]))] ++ wX0 ck b0_f b0_f_kinds b0_f_owners b0_f_cards p0_f_players p0_f_told_19 p0_f_kinds_19 p0_f_owners_19 p0_f_cards_19 ++ wX2 ck b0_m b0_m_y b0_m_y_sets b0_m_y_coming b0_m_y_origins b0_m_n b0_m_n_sets b0_m_n_coming b0_m_n_origins p0_m_y_sets p0_m_y_coming p0_m_y_origins p0_m_y_round p0_m_n_sets p0_m_n_coming p0_m_n_origins p0_m_n_round p0_m_rounds ++ wX2 ck b0_s b0_s_y b0_s_y_sets b0_s_y_coming b0_s_y_origins b0_s_n b0_s_n_sets b0_s_n_coming b0_s_n_origins p0_s_y_sets_19 p0_s_y_coming_19 p0_s_y_origins_19 p0_s_y_round_19 p0_s_n_sets_19 p0_s_n_coming_19 p0_s_n_origins_19 p0_s_n_round_19 p0_s_rounds_19) (wr := [(b1, .inl (ck 0, 19, .inl p1_row))]) (w1 := [(b0, .inr (5, [.ref b0_f, .ref b0_m, .ref b0_s, .ref b0_h, .ref b0_slots, .ref b0_p]))] ++ wX0 ck b0_f b0_f_kinds b0_f_owners b0_f_cards p0_f_players p0_f_told_27 p0_f_kinds_27 p0_f_owners_27 p0_f_cards_27 ++ wX2 ck b0_m b0_m_y b0_m_y_sets b0_m_y_coming b0_m_y_origins b0_m_n b0_m_n_sets b0_m_n_coming b0_m_n_origins p0_m_y_sets p0_m_y_coming p0_m_y_origins p0_m_y_round p0_m_n_sets p0_m_n_coming p0_m_n_origins p0_m_n_round p0_m_rounds ++ wX2 ck b0_s b0_s_y b0_s_y_sets b0_s_y_coming b0_s_y_origins b0_s_n b0_s_n_sets b0_s_n_coming b0_s_n_origins p0_s_y_sets_27 p0_s_y_coming_27 p0_s_y_origins_27 p0_s_y_round_27 p0_s_n_sets_27 p0_s_n_coming_27 p0_s_n_origins_27 p0_s_n_round_27 p0_s_rounds_27) (wn := [(b0, .inr (5, [.ref b0_f, .ref b0_m, .ref b0_s, .ref b0_h, .ref b0_slots, .ref b0_p]))] ++ wX0 ck b0_f b0_f_kinds b0_f_owners b0_f_cards p0_f_players p0_f_told_27 p0_f_kinds_27 p0_f_owners_27 p0_f_cards_27 ++ wX2 ck b0_m b0_m_y b0_m_y_sets b0_m_y_coming b0_m_y_origins b0_m_n b0_m_n_sets b0_m_n_coming b0_m_n_origins p0_m_y_sets p0_m_y_coming p0_m_y_origins p0_m_y_round p0_m_n_sets p0_m_n_coming p0_m_n_origins p0_m_n_round p0_m_rounds ++ wX2 ck b0_s b0_s_y b0_s_y_sets b0_s_y_coming b0_s_y_origins b0_s_n b0_s_n_sets b0_s_n_coming b0_s_n_origins p0_s_y_sets_27 p0_s_y_coming_27 p0_s_y_origins_27 p0_s_y_round_27 p0_s_n_sets_27 p0_s_n_coming_27 p0_s_n_origins_27 p0_s_n_round_27 p0_s_rounds_27 ++ [(b1, .inl (ck 0, 19, .inl p1_row))]) ⟨hx, hb, hml, hown, hts⟩ hK hP hD hS hA [0, 1, 2, 3, 4, 5, 6, 7, 8, 9, 10, 11, 12, 13, 14, 15, 16, 17, 18, 19, 20, 21, 22] [23] [1, 2, 3, 4, 5, 6, 7, 8, 9, 10, 11, 12, 13, 14, 15, 16, 17, 18, 19, 20, 21, 22, 23, 0] rfl (by decide) rfl (by decide) (by decide) rfl (by decide) (c_X5_bestQuestion l dC dI ck b0 b0_f b0_f_kinds b0_f_owners b0_f_cards b0_m b0_m_y b0_m_y_sets b0_m_y_coming b0_m_y_origins b0_m_n b0_m_n_sets b0_m_n_coming b0_m_n_origins b0_s b0_s_y b0_s_y_sets b0_s_y_coming b0_s_y_origins b0_s_n b0_s_n_sets b0_s_n_coming b0_s_n_origins b0_h b0_slots b0_p b0_f b0_f_kinds b0_f_owners b0_f_cards b0_m b0_m_y b0_m_y_sets b0_m_y_coming b0_m_y_origins b0_m_n b0_m_n_sets b0_m_n_coming b0_m_n_origins b0_s b0_s_y b0_s_y_sets b0_s_y_coming b0_s_y_origins b0_s_n b0_s_n_sets b0_s_n_coming b0_s_n_origins p0_f_players p0_f_told_19 p0_f_kinds_19 p0_f_owners_19 p0_f_cards_19 p0_m_y_sets p0_m_y_coming p0_m_y_origins p0_m_y_round p0_m_n_sets p0_m_n_coming p0_m_n_origins p0_m_n_round p0_m_rounds p0_s_y_sets_19 p0_s_y_coming_19 p0_s_y_origins_19 p0_s_y_round_19 p0_s_n_sets_19 p0_s_n_coming_19 p0_s_n_origins_19 p0_s_n_round_19 p0_s_rounds_19 v2 (3 : Int32) r_27 p0_f_told_27 p0_f_kinds_27 p0_f_owners_27 p0_f_cards_27 p0_s_y_sets_27 p0_s_y_coming_27 p0_s_y_origins_27 p0_s_y_round_27 p0_s_n_sets_27 p0_s_n_coming_27 p0_s_n_origins_27 p0_s_n_round_27 p0_s_rounds_27 q_27) (cwV 2 hts gL_question_X5_bestQuestion rfl rfl rfl (by decide +kernel) ⟨Nat.le_of_ble_eq_true rfl, Nat.le_of_ble_eq_true rfl⟩) 0 rfl rfl rfl hl.1 rfl (Nat.le_of_ble_eq_true rfl) dL_question_27 ⟨Nat.zero_le _, Nat.zero_le _⟩ (fun H locs hP hD hS => ?_)
  refine lv_istore (lv' := [(7, .int r_27), (6, .int r_19), (5, .int r_11), (4, .int r_3), (0, .ref b0), (1, .ref b1), (2, .int v2), (3, .int v3)]) hx hb dL_question_30 hl (by decide) rfl (fun ls hl => ?_)
  refine lv_iload hx hb dL_question_32 (lv_at hl 3 rfl) ?_
  have hJ89 : ∀ (t0_J89 : Int32) (p0_f_told_J89 : Int32) (p0_f_kinds_J89 : Nat → Int32) (p0_f_owners_J89 : Nat → Int32) (p0_f_cards_J89 : Nat → Int32) (p0_s_y_sets_J89 : Nat → Int32) (p0_s_y_coming_J89 : Nat → Int32) (p0_s_y_origins_J89 : Nat → Int32) (p0_s_y_round_J89 : Int32) (p0_s_n_sets_J89 : Nat → Int32) (p0_s_n_coming_J89 : Nat → Int32) (p0_s_n_origins_J89 : Nat → Int32) (p0_s_n_round_J89 : Int32) (p0_s_rounds_J89 : Int32), f_L_question_J89 p0_f_players p0_m_y_sets p0_m_n_sets v2 v3 r_3 r_11 r_19 r_27 t0_J89 p0_f_told_J89 p0_f_kinds_J89 p0_f_owners_J89 p0_f_cards_J89 p0_s_y_sets_J89 p0_s_y_coming_J89 p0_s_y_origins_J89 p0_s_y_round_J89 p0_s_n_sets_J89 p0_s_n_coming_J89 p0_s_n_origins_J89 p0_s_n_round_J89 p0_s_rounds_J89 = some (o0, o1, o2, o3, o4, o5, o6, o7, o8, o9, o10, o11, o12, o13) → ∀ (H : Heap) (locs : List Loc), va_P (dC, dI) vwCl ([(b0, .inr (5, [.ref b0_f, .ref b0_m, .ref b0_s, .ref b0_h, .ref b0_slots, .ref b0_p]))] ++ wX0 ck b0_f b0_f_kinds b0_f_owners b0_f_cards p0_f_players p0_f_told_J89 p0_f_kinds_J89 p0_f_owners_J89 p0_f_cards_J89 ++ wX2 ck b0_m b0_m_y b0_m_y_sets b0_m_y_coming b0_m_y_origins b0_m_n b0_m_n_sets b0_m_n_coming b0_m_n_origins p0_m_y_sets p0_m_y_coming p0_m_y_origins p0_m_y_round p0_m_n_sets p0_m_n_coming p0_m_n_origins p0_m_n_round p0_m_rounds ++ wX2 ck b0_s b0_s_y b0_s_y_sets b0_s_y_coming b0_s_y_origins b0_s_n b0_s_n_sets b0_s_n_coming b0_s_n_origins p0_s_y_sets_J89 p0_s_y_coming_J89 p0_s_y_origins_J89 p0_s_y_round_J89 p0_s_n_sets_J89 p0_s_n_coming_J89 p0_s_n_origins_J89 p0_s_n_round_J89 p0_s_rounds_J89 ++ [(b1, .inl (ck 0, 19, .inl p1_row))]) H → va_D A ([(b0, .inr (5, [.ref b0_f, .ref b0_m, .ref b0_s, .ref b0_h, .ref b0_slots, .ref b0_p]))] ++ wX0 ck b0_f b0_f_kinds b0_f_owners b0_f_cards p0_f_players p0_f_told_J89 p0_f_kinds_J89 p0_f_owners_J89 p0_f_cards_J89 ++ wX2 ck b0_m b0_m_y b0_m_y_sets b0_m_y_coming b0_m_y_origins b0_m_n b0_m_n_sets b0_m_n_coming b0_m_n_origins p0_m_y_sets p0_m_y_coming p0_m_y_origins p0_m_y_round p0_m_n_sets p0_m_n_coming p0_m_n_origins p0_m_n_round p0_m_rounds ++ wX2 ck b0_s b0_s_y b0_s_y_sets b0_s_y_coming b0_s_y_origins b0_s_n b0_s_n_sets b0_s_n_coming b0_s_n_origins p0_s_y_sets_J89 p0_s_y_coming_J89 p0_s_y_origins_J89 p0_s_y_round_J89 p0_s_n_sets_J89 p0_s_n_coming_J89 p0_s_n_origins_J89 p0_s_n_round_J89 p0_s_rounds_J89 ++ [(b1, .inl (ck 0, 19, .inl p1_row))]) → va_S A s.heap H locs → ∀ ls : Array Slot, lv_has ls 14 [(7, .int r_27), (6, .int r_19), (5, .int r_11), (4, .int r_3), (0, .ref b0), (2, .int v2), (3, .int v3)] → W p l e (headSpec wsL_question ({ frames := 8, cells := 0, slots := 0, locals := 195 })).room s m [.ref b0, .ref b1, .int v2, .int v3].toArray below meth c H locs 0 0 (MQ below (QI (dC, dI) ([(b0, .inr (5, [.ref b0_f, .ref b0_m, .ref b0_s, .ref b0_h, .ref b0_slots, .ref b0_p]))] ++ wX0 ck b0_f b0_f_kinds b0_f_owners b0_f_cards p0_f_players o1 o2 o3 o4 ++ wX2 ck b0_m b0_m_y b0_m_y_sets b0_m_y_coming b0_m_y_origins b0_m_n b0_m_n_sets b0_m_n_coming b0_m_n_origins p0_m_y_sets p0_m_y_coming p0_m_y_origins p0_m_y_round p0_m_n_sets p0_m_n_coming p0_m_n_origins p0_m_n_round p0_m_rounds ++ wX2 ck b0_s b0_s_y b0_s_y_sets b0_s_y_coming b0_s_y_origins b0_s_n b0_s_n_sets b0_s_n_coming b0_s_n_origins o5 o6 o7 o8 o9 o10 o11 o12 o13 ++ [(b1, .inl (ck 0, 19, .inl p1_row))]) o0 A) [.ref b0, .ref b1, .int v2, .int v3].toArray s 0 0 A) (F0 m 89 ls [.int t0_J89]) := by
    intro t0_J89 p0_f_told_J89 p0_f_kinds_J89 p0_f_owners_J89 p0_f_cards_J89 p0_s_y_sets_J89 p0_s_y_coming_J89 p0_s_y_origins_J89 p0_s_y_round_J89 p0_s_n_sets_J89 p0_s_n_coming_J89 p0_s_n_origins_J89 p0_s_n_round_J89 p0_s_rounds_J89 h H locs hP hD hS ls hl
    unfold f_L_question_J89 at h
    refine lv_istore (lv' := [(8, .int t0_J89), (7, .int r_27), (6, .int r_19), (5, .int r_11), (4, .int r_3), (0, .ref b0), (2, .int v2), (3, .int v3)]) hx hb dL_question_89 hl (by decide) rfl (fun ls hl => ?_)
    refine lv_iconst (v := (0 : Int32)) hx hb dL_question_91 rfl ?_
    refine lv_istore (lv' := [(9, .int (0 : Int32)), (8, .int t0_J89), (7, .int r_27), (6, .int r_19), (5, .int r_11), (4, .int r_3), (0, .ref b0), (2, .int v2), (3, .int v3)]) hx hb dL_question_92 hl (by decide) rfl (fun ls hl => ?_)
    have hL94 : ∀ (n94 : Nat) (v8_L94 : Int32) (v9_L94 : Int32) (p0_f_told_L94 : Int32) (p0_f_kinds_L94 : Nat → Int32) (p0_f_owners_L94 : Nat → Int32) (p0_f_cards_L94 : Nat → Int32) (p0_s_y_sets_L94 : Nat → Int32) (p0_s_y_coming_L94 : Nat → Int32) (p0_s_y_origins_L94 : Nat → Int32) (p0_s_y_round_L94 : Int32) (p0_s_n_sets_L94 : Nat → Int32) (p0_s_n_coming_L94 : Nat → Int32) (p0_s_n_origins_L94 : Nat → Int32) (p0_s_n_round_L94 : Int32) (p0_s_rounds_L94 : Int32), lo15 (f_L_question_L94 p0_f_players p0_m_y_sets p0_m_n_sets v2 v3 r_3 r_11 r_19 r_27) n94 v8_L94 v9_L94 p0_f_told_L94 p0_f_kinds_L94 p0_f_owners_L94 p0_f_cards_L94 p0_s_y_sets_L94 p0_s_y_coming_L94 p0_s_y_origins_L94 p0_s_y_round_L94 p0_s_n_sets_L94 p0_s_n_coming_L94 p0_s_n_origins_L94 p0_s_n_round_L94 p0_s_rounds_L94 = some (o0, o1, o2, o3, o4, o5, o6, o7, o8, o9, o10, o11, o12, o13) → ∀ (H : Heap) (locs : List Loc), va_P (dC, dI) vwCl ([(b0, .inr (5, [.ref b0_f, .ref b0_m, .ref b0_s, .ref b0_h, .ref b0_slots, .ref b0_p]))] ++ wX0 ck b0_f b0_f_kinds b0_f_owners b0_f_cards p0_f_players p0_f_told_L94 p0_f_kinds_L94 p0_f_owners_L94 p0_f_cards_L94 ++ wX2 ck b0_m b0_m_y b0_m_y_sets b0_m_y_coming b0_m_y_origins b0_m_n b0_m_n_sets b0_m_n_coming b0_m_n_origins p0_m_y_sets p0_m_y_coming p0_m_y_origins p0_m_y_round p0_m_n_sets p0_m_n_coming p0_m_n_origins p0_m_n_round p0_m_rounds ++ wX2 ck b0_s b0_s_y b0_s_y_sets b0_s_y_coming b0_s_y_origins b0_s_n b0_s_n_sets b0_s_n_coming b0_s_n_origins p0_s_y_sets_L94 p0_s_y_coming_L94 p0_s_y_origins_L94 p0_s_y_round_L94 p0_s_n_sets_L94 p0_s_n_coming_L94 p0_s_n_origins_L94 p0_s_n_round_L94 p0_s_rounds_L94 ++ [(b1, .inl (ck 0, 19, .inl p1_row))]) H → va_D A ([(b0, .inr (5, [.ref b0_f, .ref b0_m, .ref b0_s, .ref b0_h, .ref b0_slots, .ref b0_p]))] ++ wX0 ck b0_f b0_f_kinds b0_f_owners b0_f_cards p0_f_players p0_f_told_L94 p0_f_kinds_L94 p0_f_owners_L94 p0_f_cards_L94 ++ wX2 ck b0_m b0_m_y b0_m_y_sets b0_m_y_coming b0_m_y_origins b0_m_n b0_m_n_sets b0_m_n_coming b0_m_n_origins p0_m_y_sets p0_m_y_coming p0_m_y_origins p0_m_y_round p0_m_n_sets p0_m_n_coming p0_m_n_origins p0_m_n_round p0_m_rounds ++ wX2 ck b0_s b0_s_y b0_s_y_sets b0_s_y_coming b0_s_y_origins b0_s_n b0_s_n_sets b0_s_n_coming b0_s_n_origins p0_s_y_sets_L94 p0_s_y_coming_L94 p0_s_y_origins_L94 p0_s_y_round_L94 p0_s_n_sets_L94 p0_s_n_coming_L94 p0_s_n_origins_L94 p0_s_n_round_L94 p0_s_rounds_L94 ++ [(b1, .inl (ck 0, 19, .inl p1_row))]) → va_S A s.heap H locs → ∀ ls : Array Slot, lv_has ls 14 [(9, .int v9_L94), (8, .int v8_L94), (7, .int r_27), (6, .int r_19), (5, .int r_11), (4, .int r_3), (0, .ref b0), (2, .int v2), (3, .int v3)] → W p l e (headSpec wsL_question ({ frames := 8, cells := 0, slots := 0, locals := 195 })).room s m [.ref b0, .ref b1, .int v2, .int v3].toArray below meth c H locs 0 0 (MQ below (QI (dC, dI) ([(b0, .inr (5, [.ref b0_f, .ref b0_m, .ref b0_s, .ref b0_h, .ref b0_slots, .ref b0_p]))] ++ wX0 ck b0_f b0_f_kinds b0_f_owners b0_f_cards p0_f_players o1 o2 o3 o4 ++ wX2 ck b0_m b0_m_y b0_m_y_sets b0_m_y_coming b0_m_y_origins b0_m_n b0_m_n_sets b0_m_n_coming b0_m_n_origins p0_m_y_sets p0_m_y_coming p0_m_y_origins p0_m_y_round p0_m_n_sets p0_m_n_coming p0_m_n_origins p0_m_n_round p0_m_rounds ++ wX2 ck b0_s b0_s_y b0_s_y_sets b0_s_y_coming b0_s_y_origins b0_s_n b0_s_n_sets b0_s_n_coming b0_s_n_origins o5 o6 o7 o8 o9 o10 o11 o12 o13 ++ [(b1, .inl (ck 0, 19, .inl p1_row))]) o0 A) [.ref b0, .ref b1, .int v2, .int v3].toArray s 0 0 A) (F0 m 94 ls []) := by
      intro n94
      induction n94 with
      | zero => intro v8_L94 v9_L94 p0_f_told_L94 p0_f_kinds_L94 p0_f_owners_L94 p0_f_cards_L94 p0_s_y_sets_L94 p0_s_y_coming_L94 p0_s_y_origins_L94 p0_s_y_round_L94 p0_s_n_sets_L94 p0_s_n_coming_L94 p0_s_n_origins_L94 p0_s_n_round_L94 p0_s_rounds_L94 h; exact lo15_z h
      | succ n94 ih94 =>
        intro v8_L94 v9_L94 p0_f_told_L94 p0_f_kinds_L94 p0_f_owners_L94 p0_f_cards_L94 p0_s_y_sets_L94 p0_s_y_coming_L94 p0_s_y_origins_L94 p0_s_y_round_L94 p0_s_n_sets_L94 p0_s_n_coming_L94 p0_s_n_origins_L94 p0_s_n_round_L94 p0_s_rounds_L94 h H locs hP hD hS ls hl
        have h := lo15_s h
        unfold f_L_question_L94 at h
        refine lv_iload hx hb dL_question_94 (lv_at hl 0 rfl) ?_
        refine lv_bipush (v := (12 : Int32)) hx hb dL_question_96 rfl ?_
        refine lv_icmp_ge (tgt := 215) hx hb dL_question_98 (by decide) (fun c_98 => ?_) (fun c_98 => ?_)
        · have h := if_t h c_98
          refine lv_iload hx hb dL_question_215 (lv_at hl 1 rfl) ?_
          obtain ⟨n_217, h⟩ := bo_e h
          cases h
          exact eMz hx hb hr hlk hP hD hS rfl n_217.1 dL_question_217
        · have h := if_f h c_98
          refine lv_iload_n hx hb dL_question_101 rfl (lv_at hl 8 rfl) ?_
          refine lv_iload hx hb dL_question_102 (lv_at hl 0 rfl) ?_
          refine lv_ishr hx hb dL_question_104 ?_
          refine lv_bipush (v := (6 : Int32)) hx hb dL_question_105 rfl ?_
          obtain ⟨r_107, q_107, h⟩ := ob1_e h
          refine cRS (wc := []) ⟨hx, hb, hml, hown, hts⟩ hK hP [] rfl (c_L_low l dC dI ck (v3 >>> (v9_L94 &&& 31)) (6 : Int32) r_107 q_107) (va_cwS 2 hts gL_question_L_low rfl rfl rfl (by decide +kernel) ⟨Nat.le_of_ble_eq_true rfl, Nat.le_of_ble_eq_true rfl⟩) rfl hl.1 rfl (Nat.le_of_ble_eq_true rfl) dL_question_107 ⟨Nat.zero_le _, Nat.zero_le _⟩ ?_
          refine lv_istore (lv' := [(10, .int r_107), (9, .int v9_L94), (8, .int v8_L94), (7, .int r_27), (6, .int r_19), (5, .int r_11), (4, .int r_3), (0, .ref b0), (2, .int v2), (3, .int v3)]) hx hb dL_question_110 hl (by decide) rfl (fun ls hl => ?_)
          refine lv_iload_n hx hb dL_question_112 rfl (lv_at hl 9 rfl) ?_
          refine lv_iload hx hb dL_question_113 (lv_at hl 1 rfl) ?_
          refine lv_iconst (v := (3 : Int32)) hx hb dL_question_115 rfl ?_
          refine lv_iadd hx hb dL_question_116 ?_
          refine lv_ishr hx hb dL_question_117 ?_
          refine lv_bipush (v := (6 : Int32)) hx hb dL_question_118 rfl ?_
          obtain ⟨r_120, q_120, h⟩ := ob1_e h
          refine cRS (wc := []) ⟨hx, hb, hml, hown, hts⟩ hK hP [] rfl (c_L_low l dC dI ck (v3 >>> ((v9_L94 + (3 : Int32)) &&& 31)) (6 : Int32) r_120 q_120) (va_cwS 2 hts gL_question_L_low rfl rfl rfl (by decide +kernel) ⟨Nat.le_of_ble_eq_true rfl, Nat.le_of_ble_eq_true rfl⟩) rfl hl.1 rfl (Nat.le_of_ble_eq_true rfl) dL_question_120 ⟨Nat.zero_le _, Nat.zero_le _⟩ ?_
          refine lv_istore (lv' := [(11, .int r_120), (10, .int r_107), (9, .int v9_L94), (8, .int v8_L94), (7, .int r_27), (6, .int r_19), (5, .int r_11), (4, .int r_3), (0, .ref b0), (2, .int v2), (3, .int v3)]) hx hb dL_question_123 hl (by decide) rfl (fun ls hl => ?_)
          refine lv_iload_n hx hb dL_question_125 rfl (lv_at hl 10 rfl) ?_
          refine lv_iload hx hb dL_question_126 (lv_at hl 2 rfl) ?_
          refine lv_bipush (v := (6 : Int32)) hx hb dL_question_128 rfl ?_
          refine lv_iadd hx hb dL_question_130 ?_
          refine lv_ishr hx hb dL_question_131 ?_
          refine lv_bipush (v := (6 : Int32)) hx hb dL_question_132 rfl ?_
          obtain ⟨r_134, q_134, h⟩ := ob1_e h
          refine cRS (wc := []) ⟨hx, hb, hml, hown, hts⟩ hK hP [] rfl (c_L_low l dC dI ck (v3 >>> ((v9_L94 + (6 : Int32)) &&& 31)) (6 : Int32) r_134 q_134) (va_cwS 2 hts gL_question_L_low rfl rfl rfl (by decide +kernel) ⟨Nat.le_of_ble_eq_true rfl, Nat.le_of_ble_eq_true rfl⟩) rfl hl.1 rfl (Nat.le_of_ble_eq_true rfl) dL_question_134 ⟨Nat.zero_le _, Nat.zero_le _⟩ ?_
          refine lv_istore (lv' := [(12, .int r_134), (11, .int r_120), (10, .int r_107), (9, .int v9_L94), (8, .int v8_L94), (7, .int r_27), (6, .int r_19), (5, .int r_11), (4, .int r_3), (0, .ref b0), (2, .int v2), (3, .int v3)]) hx hb dL_question_137 hl (by decide) rfl (fun ls hl => ?_)
          refine lv_aload_n hx hb dL_question_139 rfl (lv_at hl 9 rfl) ?_
          refine lv_iload_n hx hb dL_question_140 rfl (lv_at hl 10 rfl) ?_
          refine lv_iload hx hb dL_question_141 (lv_at hl 2 rfl) ?_
          refine lv_iload hx hb dL_question_143 (lv_at hl 1 rfl) ?_
          refine lv_iload hx hb dL_question_145 (lv_at hl 0 rfl) ?_
          obtain ⟨r_147, p0_f_told_147, p0_f_kinds_147, p0_f_owners_147, p0_f_cards_147, p0_s_y_sets_147, p0_s_y_coming_147, p0_s_y_origins_147, p0_s_y_round_147, p0_s_n_sets_147, p0_s_n_coming_147, p0_s_n_origins_147, p0_s_n_round_147, p0_s_rounds_147, q_147, h⟩ := ob14_e h
          refine cSI (wc := [(b0, .inr (5, [.ref b0_f, .ref b0_m, .ref b0_s, .ref b0_h, .ref b0_slots, .ref b0_p]))] ++ wX0 ck b0_f b0_f_kinds b0_f_owners b0_f_cards p0_f_players p0_f_told_L94 p0_f_kinds_L94 p0_f_owners_L94 p0_f_cards_L94 ++ wX2 ck b0_m b0_m_y b0_m_y_sets b0_m_y_coming b0_m_y_origins b0_m_n b0_m_n_sets b0_m_n_coming b0_m_n_origins p0_m_y_sets p0_m_y_coming p0_m_y_origins p0_m_y_round p0_m_n_sets p0_m_n_coming p0_m_n_origins p0_m_n_round p0_m_rounds ++ wX2 ck b0_s b0_s_y b0_s_y_sets b0_s_y_coming b0_s_y_origins b0_s_n b0_s_n_sets b0_s_n_coming b0_s_n_origins p0_s_y_sets_L94 p0_s_y_coming_L94 p0_s_y_origins_L94 p0_s_y_round_L94 p0_s_n_sets_L94 p0_s_n_coming_L94 p0_s_n_origins_L94 p0_s_n_round_L94 p0_s_rounds_L94) (wr := [(b1, .inl (ck 0, 19, .inl p1_row))]) (w1 := [(b0, .inr (5, [.ref b0_f, .ref b0_m, .ref b0_s, .ref b0_h, .ref b0_slots, .ref b0_p]))] ++ wX0 ck b0_f b0_f_kinds b0_f_owners b0_f_cards p0_f_players p0_f_told_147 p0_f_kinds_147 p0_f_owners_147 p0_f_cards_147 ++ wX2 ck b0_m b0_m_y b0_m_y_sets b0_m_y_coming b0_m_y_origins b0_m_n b0_m_n_sets b0_m_n_coming b0_m_n_origins p0_m_y_sets p0_m_y_coming p0_m_y_origins p0_m_y_round p0_m_n_sets p0_m_n_coming p0_m_n_origins p0_m_n_round p0_m_rounds ++ wX2 ck b0_s b0_s_y b0_s_y_sets b0_s_y_coming b0_s_y_origins b0_s_n b0_s_n_sets b0_s_n_coming b0_s_n_origins p0_s_y_sets_147 p0_s_y_coming_147 p0_s_y_origins_147 p0_s_y_round_147 p0_s_n_sets_147 p0_s_n_coming_147 p0_s_n_origins_147 p0_s_n_round_147 p0_s_rounds_147) (wn := [(b0, .inr (5, [.ref b0_f, .ref b0_m, .ref b0_s, .ref b0_h, .ref b0_slots, .ref b0_p]))] ++ wX0 ck b0_f b0_f_kinds b0_f_owners b0_f_cards p0_f_players p0_f_told_147 p0_f_kinds_147 p0_f_owners_147 p0_f_cards_147 ++ wX2 ck b0_m b0_m_y b0_m_y_sets b0_m_y_coming b0_m_y_origins b0_m_n b0_m_n_sets b0_m_n_coming b0_m_n_origins p0_m_y_sets p0_m_y_coming p0_m_y_origins p0_m_y_round p0_m_n_sets p0_m_n_coming p0_m_n_origins p0_m_n_round p0_m_rounds ++ wX2 ck b0_s b0_s_y b0_s_y_sets b0_s_y_coming b0_s_y_origins b0_s_n b0_s_n_sets b0_s_n_coming b0_s_n_origins p0_s_y_sets_147 p0_s_y_coming_147 p0_s_y_origins_147 p0_s_y_round_147 p0_s_n_sets_147 p0_s_n_coming_147 p0_s_n_origins_147 p0_s_n_round_147 p0_s_rounds_147 ++ [(b1, .inl (ck 0, 19, .inl p1_row))]) ⟨hx, hb, hml, hown, hts⟩ hK hP hD hS hA [0, 1, 2, 3, 4, 5, 6, 7, 8, 9, 10, 11, 12, 13, 14, 15, 16, 17, 18, 19, 20, 21, 22] [23] [1, 2, 3, 4, 5, 6, 7, 8, 9, 10, 11, 12, 13, 14, 15, 16, 17, 18, 19, 20, 21, 22, 23, 0] rfl (by decide) rfl (by decide) (by decide) rfl (by decide) (c_L_lesser l dC dI ck b0 b0_f b0_f_kinds b0_f_owners b0_f_cards b0_m b0_m_y b0_m_y_sets b0_m_y_coming b0_m_y_origins b0_m_n b0_m_n_sets b0_m_n_coming b0_m_n_origins b0_s b0_s_y b0_s_y_sets b0_s_y_coming b0_s_y_origins b0_s_n b0_s_n_sets b0_s_n_coming b0_s_n_origins b0_h b0_slots b0_p b0_f b0_f_kinds b0_f_owners b0_f_cards b0_m b0_m_y b0_m_y_sets b0_m_y_coming b0_m_y_origins b0_m_n b0_m_n_sets b0_m_n_coming b0_m_n_origins b0_s b0_s_y b0_s_y_sets b0_s_y_coming b0_s_y_origins b0_s_n b0_s_n_sets b0_s_n_coming b0_s_n_origins p0_f_players p0_f_told_L94 p0_f_kinds_L94 p0_f_owners_L94 p0_f_cards_L94 p0_m_y_sets p0_m_y_coming p0_m_y_origins p0_m_y_round p0_m_n_sets p0_m_n_coming p0_m_n_origins p0_m_n_round p0_m_rounds p0_s_y_sets_L94 p0_s_y_coming_L94 p0_s_y_origins_L94 p0_s_y_round_L94 p0_s_n_sets_L94 p0_s_n_coming_L94 p0_s_n_origins_L94 p0_s_n_round_L94 p0_s_rounds_L94 v2 r_107 r_120 r_134 r_147 p0_f_told_147 p0_f_kinds_147 p0_f_owners_147 p0_f_cards_147 p0_s_y_sets_147 p0_s_y_coming_147 p0_s_y_origins_147 p0_s_y_round_147 p0_s_n_sets_147 p0_s_n_coming_147 p0_s_n_origins_147 p0_s_n_round_147 p0_s_rounds_147 q_147) (va_cwS 5 hts gL_question_L_lesser rfl rfl rfl (by decide +kernel) ⟨Nat.le_of_ble_eq_true rfl, Nat.le_of_ble_eq_true rfl⟩) rfl hl.1 rfl (Nat.le_of_ble_eq_true rfl) dL_question_147 ⟨Nat.zero_le _, Nat.zero_le _⟩ (fun H locs hP hD hS => ?_)
          refine lv_istore (lv' := [(13, .int r_147), (12, .int r_134), (11, .int r_120), (10, .int r_107), (9, .int v9_L94), (8, .int v8_L94), (7, .int r_27), (6, .int r_19), (5, .int r_11), (4, .int r_3), (0, .ref b0), (2, .int v2), (3, .int v3)]) hx hb dL_question_150 hl (by decide) rfl (fun ls hl => ?_)
          refine lv_iload hx hb dL_question_152 (lv_at hl 5 rfl) ?_
          refine lv_if_eq (tgt := 206) hx hb dL_question_154 (by decide) (fun c_154 => ?_) (fun c_154 => ?_)
          · have h := if_t h c_154
            refine lv_iconst (v := (0 : Int32)) hx hb dL_question_206 rfl ?_
            refine lv_istore (lv' := [(8, .int (0 : Int32)), (13, .int r_147), (12, .int r_134), (11, .int r_120), (10, .int r_107), (9, .int v9_L94), (7, .int r_27), (6, .int r_19), (5, .int r_11), (4, .int r_3), (0, .ref b0), (2, .int v2), (3, .int v3)]) hx hb dL_question_207 hl (by decide) rfl (fun ls hl => ?_)
            refine lv_iinc (v := (v9_L94 + (1 : Int32))) (lv' := [(9, .int (v9_L94 + (1 : Int32))), (8, .int (0 : Int32)), (13, .int r_147), (12, .int r_134), (11, .int r_120), (10, .int r_107), (7, .int r_27), (6, .int r_19), (5, .int r_11), (4, .int r_3), (0, .ref b0), (2, .int v2), (3, .int v3)]) hx hb dL_question_209 hl (k := 5) rfl rfl (by decide) rfl (fun ls hl => ?_)
            refine lv_goto (tgt := 94) hx hb dL_question_212 (by decide) ?_
            exact ih94 _ _ _ _ _ _ _ _ _ _ _ _ _ _ _ h _ _ hP hD hS _ (lv_sub hl [0, 1, 6, 7, 8, 9, 10, 11, 12] rfl)
          · have h := if_f h c_154
            refine lv_iload hx hb dL_question_157 (lv_at hl 0 rfl) ?_
            refine lv_iload hx hb dL_question_159 (lv_at hl 6 rfl) ?_
            refine lv_icmp_lt (tgt := 202) hx hb dL_question_161 (by decide) (fun c_161 => ?_) (fun c_161 => ?_)
            · have h := if_t h c_161
              refine lv_iconst (v := (1 : Int32)) hx hb dL_question_202 rfl ?_
              refine lv_goto (tgt := 207) hx hb dL_question_203 (by decide) ?_
              refine lv_istore (lv' := [(8, .int (1 : Int32)), (13, .int r_147), (12, .int r_134), (11, .int r_120), (10, .int r_107), (9, .int v9_L94), (7, .int r_27), (6, .int r_19), (5, .int r_11), (4, .int r_3), (0, .ref b0), (2, .int v2), (3, .int v3)]) hx hb dL_question_207 hl (by decide) rfl (fun ls hl => ?_)
              refine lv_iinc (v := (v9_L94 + (1 : Int32))) (lv' := [(9, .int (v9_L94 + (1 : Int32))), (8, .int (1 : Int32)), (13, .int r_147), (12, .int r_134), (11, .int r_120), (10, .int r_107), (7, .int r_27), (6, .int r_19), (5, .int r_11), (4, .int r_3), (0, .ref b0), (2, .int v2), (3, .int v3)]) hx hb dL_question_209 hl (k := 5) rfl rfl (by decide) rfl (fun ls hl => ?_)
              refine lv_goto (tgt := 94) hx hb dL_question_212 (by decide) ?_
              exact ih94 _ _ _ _ _ _ _ _ _ _ _ _ _ _ _ h _ _ hP hD hS _ (lv_sub hl [0, 1, 6, 7, 8, 9, 10, 11, 12] rfl)
            · have h := if_f h c_161
              refine lv_iload hx hb dL_question_164 (lv_at hl 0 rfl) ?_
              refine lv_iload hx hb dL_question_166 (lv_at hl 6 rfl) ?_
              refine lv_icmp_ne (tgt := 206) hx hb dL_question_168 (by decide) (fun c_168 => ?_) (fun c_168 => ?_)
              · have h := if_f h c_168
                refine lv_iconst (v := (0 : Int32)) hx hb dL_question_206 rfl ?_
                refine lv_istore (lv' := [(8, .int (0 : Int32)), (13, .int r_147), (12, .int r_134), (11, .int r_120), (10, .int r_107), (9, .int v9_L94), (7, .int r_27), (6, .int r_19), (5, .int r_11), (4, .int r_3), (0, .ref b0), (2, .int v2), (3, .int v3)]) hx hb dL_question_207 hl (by decide) rfl (fun ls hl => ?_)
                refine lv_iinc (v := (v9_L94 + (1 : Int32))) (lv' := [(9, .int (v9_L94 + (1 : Int32))), (8, .int (0 : Int32)), (13, .int r_147), (12, .int r_134), (11, .int r_120), (10, .int r_107), (7, .int r_27), (6, .int r_19), (5, .int r_11), (4, .int r_3), (0, .ref b0), (2, .int v2), (3, .int v3)]) hx hb dL_question_209 hl (k := 5) rfl rfl (by decide) rfl (fun ls hl => ?_)
                refine lv_goto (tgt := 94) hx hb dL_question_212 (by decide) ?_
                exact ih94 _ _ _ _ _ _ _ _ _ _ _ _ _ _ _ h _ _ hP hD hS _ (lv_sub hl [0, 1, 6, 7, 8, 9, 10, 11, 12] rfl)
              · have h := if_t h c_168
                refine lv_bipush (v := (36 : Int32)) hx hb dL_question_171 rfl ?_
                refine lv_iload hx hb dL_question_173 (lv_at hl 3 rfl) ?_
                refine lv_imul hx hb dL_question_175 ?_
                refine lv_bipush (v := (6 : Int32)) hx hb dL_question_176 rfl ?_
                refine lv_iload hx hb dL_question_178 (lv_at hl 2 rfl) ?_
                refine lv_imul hx hb dL_question_180 ?_
                refine lv_iadd hx hb dL_question_181 ?_
                refine lv_iload hx hb dL_question_182 (lv_at hl 1 rfl) ?_
                refine lv_iadd hx hb dL_question_184 ?_
                refine lv_bipush (v := (36 : Int32)) hx hb dL_question_185 rfl ?_
                refine lv_iload hx hb dL_question_187 (lv_at hl 9 rfl) ?_
                refine lv_imul hx hb dL_question_189 ?_
                refine lv_bipush (v := (6 : Int32)) hx hb dL_question_190 rfl ?_
                refine lv_iload hx hb dL_question_192 (lv_at hl 8 rfl) ?_
                refine lv_imul hx hb dL_question_194 ?_
                refine lv_iadd hx hb dL_question_195 ?_
                refine lv_iload hx hb dL_question_196 (lv_at hl 7 rfl) ?_
                refine lv_iadd hx hb dL_question_198 ?_
                refine lv_icmp_lt (tgt := 206) hx hb dL_question_199 (by decide) (fun c_199 => ?_) (fun c_199 => ?_)
                · have h := if_t h c_199
                  refine lv_iconst (v := (0 : Int32)) hx hb dL_question_206 rfl ?_
                  refine lv_istore (lv' := [(8, .int (0 : Int32)), (13, .int r_147), (12, .int r_134), (11, .int r_120), (10, .int r_107), (9, .int v9_L94), (7, .int r_27), (6, .int r_19), (5, .int r_11), (4, .int r_3), (0, .ref b0), (2, .int v2), (3, .int v3)]) hx hb dL_question_207 hl (by decide) rfl (fun ls hl => ?_)
                  refine lv_iinc (v := (v9_L94 + (1 : Int32))) (lv' := [(9, .int (v9_L94 + (1 : Int32))), (8, .int (0 : Int32)), (13, .int r_147), (12, .int r_134), (11, .int r_120), (10, .int r_107), (7, .int r_27), (6, .int r_19), (5, .int r_11), (4, .int r_3), (0, .ref b0), (2, .int v2), (3, .int v3)]) hx hb dL_question_209 hl (k := 5) rfl rfl (by decide) rfl (fun ls hl => ?_)
                  refine lv_goto (tgt := 94) hx hb dL_question_212 (by decide) ?_
                  exact ih94 _ _ _ _ _ _ _ _ _ _ _ _ _ _ _ h _ _ hP hD hS _ (lv_sub hl [0, 1, 6, 7, 8, 9, 10, 11, 12] rfl)
                · have h := if_f h c_199
                  refine lv_iconst (v := (1 : Int32)) hx hb dL_question_202 rfl ?_
                  refine lv_goto (tgt := 207) hx hb dL_question_203 (by decide) ?_
                  refine lv_istore (lv' := [(8, .int (1 : Int32)), (13, .int r_147), (12, .int r_134), (11, .int r_120), (10, .int r_107), (9, .int v9_L94), (7, .int r_27), (6, .int r_19), (5, .int r_11), (4, .int r_3), (0, .ref b0), (2, .int v2), (3, .int v3)]) hx hb dL_question_207 hl (by decide) rfl (fun ls hl => ?_)
                  refine lv_iinc (v := (v9_L94 + (1 : Int32))) (lv' := [(9, .int (v9_L94 + (1 : Int32))), (8, .int (1 : Int32)), (13, .int r_147), (12, .int r_134), (11, .int r_120), (10, .int r_107), (7, .int r_27), (6, .int r_19), (5, .int r_11), (4, .int r_3), (0, .ref b0), (2, .int v2), (3, .int v3)]) hx hb dL_question_209 hl (k := 5) rfl rfl (by decide) rfl (fun ls hl => ?_)
                  refine lv_goto (tgt := 94) hx hb dL_question_212 (by decide) ?_
                  exact ih94 _ _ _ _ _ _ _ _ _ _ _ _ _ _ _ h _ _ hP hD hS _ (lv_sub hl [0, 1, 6, 7, 8, 9, 10, 11, 12] rfl)
    exact hL94 _ _ _ _ _ _ _ _ _ _ _ _ _ _ _ _ h _ _ hP hD hS _ (lv_sub hl [0, 1, 2, 3, 4, 5, 6, 7, 8] rfl)
  have hJ88 : ∀ (p0_f_told_J88 : Int32) (p0_f_kinds_J88 : Nat → Int32) (p0_f_owners_J88 : Nat → Int32) (p0_f_cards_J88 : Nat → Int32) (p0_s_y_sets_J88 : Nat → Int32) (p0_s_y_coming_J88 : Nat → Int32) (p0_s_y_origins_J88 : Nat → Int32) (p0_s_y_round_J88 : Int32) (p0_s_n_sets_J88 : Nat → Int32) (p0_s_n_coming_J88 : Nat → Int32) (p0_s_n_origins_J88 : Nat → Int32) (p0_s_n_round_J88 : Int32) (p0_s_rounds_J88 : Int32), f_L_question_J88 p0_f_players p0_m_y_sets p0_m_n_sets v2 v3 r_3 r_11 r_19 r_27 p0_f_told_J88 p0_f_kinds_J88 p0_f_owners_J88 p0_f_cards_J88 p0_s_y_sets_J88 p0_s_y_coming_J88 p0_s_y_origins_J88 p0_s_y_round_J88 p0_s_n_sets_J88 p0_s_n_coming_J88 p0_s_n_origins_J88 p0_s_n_round_J88 p0_s_rounds_J88 = some (o0, o1, o2, o3, o4, o5, o6, o7, o8, o9, o10, o11, o12, o13) → ∀ (H : Heap) (locs : List Loc), va_P (dC, dI) vwCl ([(b0, .inr (5, [.ref b0_f, .ref b0_m, .ref b0_s, .ref b0_h, .ref b0_slots, .ref b0_p]))] ++ wX0 ck b0_f b0_f_kinds b0_f_owners b0_f_cards p0_f_players p0_f_told_J88 p0_f_kinds_J88 p0_f_owners_J88 p0_f_cards_J88 ++ wX2 ck b0_m b0_m_y b0_m_y_sets b0_m_y_coming b0_m_y_origins b0_m_n b0_m_n_sets b0_m_n_coming b0_m_n_origins p0_m_y_sets p0_m_y_coming p0_m_y_origins p0_m_y_round p0_m_n_sets p0_m_n_coming p0_m_n_origins p0_m_n_round p0_m_rounds ++ wX2 ck b0_s b0_s_y b0_s_y_sets b0_s_y_coming b0_s_y_origins b0_s_n b0_s_n_sets b0_s_n_coming b0_s_n_origins p0_s_y_sets_J88 p0_s_y_coming_J88 p0_s_y_origins_J88 p0_s_y_round_J88 p0_s_n_sets_J88 p0_s_n_coming_J88 p0_s_n_origins_J88 p0_s_n_round_J88 p0_s_rounds_J88 ++ [(b1, .inl (ck 0, 19, .inl p1_row))]) H → va_D A ([(b0, .inr (5, [.ref b0_f, .ref b0_m, .ref b0_s, .ref b0_h, .ref b0_slots, .ref b0_p]))] ++ wX0 ck b0_f b0_f_kinds b0_f_owners b0_f_cards p0_f_players p0_f_told_J88 p0_f_kinds_J88 p0_f_owners_J88 p0_f_cards_J88 ++ wX2 ck b0_m b0_m_y b0_m_y_sets b0_m_y_coming b0_m_y_origins b0_m_n b0_m_n_sets b0_m_n_coming b0_m_n_origins p0_m_y_sets p0_m_y_coming p0_m_y_origins p0_m_y_round p0_m_n_sets p0_m_n_coming p0_m_n_origins p0_m_n_round p0_m_rounds ++ wX2 ck b0_s b0_s_y b0_s_y_sets b0_s_y_coming b0_s_y_origins b0_s_n b0_s_n_sets b0_s_n_coming b0_s_n_origins p0_s_y_sets_J88 p0_s_y_coming_J88 p0_s_y_origins_J88 p0_s_y_round_J88 p0_s_n_sets_J88 p0_s_n_coming_J88 p0_s_n_origins_J88 p0_s_n_round_J88 p0_s_rounds_J88 ++ [(b1, .inl (ck 0, 19, .inl p1_row))]) → va_S A s.heap H locs → ∀ ls : Array Slot, lv_has ls 14 [(7, .int r_27), (6, .int r_19), (5, .int r_11), (4, .int r_3), (0, .ref b0), (2, .int v2), (3, .int v3)] → W p l e (headSpec wsL_question ({ frames := 8, cells := 0, slots := 0, locals := 195 })).room s m [.ref b0, .ref b1, .int v2, .int v3].toArray below meth c H locs 0 0 (MQ below (QI (dC, dI) ([(b0, .inr (5, [.ref b0_f, .ref b0_m, .ref b0_s, .ref b0_h, .ref b0_slots, .ref b0_p]))] ++ wX0 ck b0_f b0_f_kinds b0_f_owners b0_f_cards p0_f_players o1 o2 o3 o4 ++ wX2 ck b0_m b0_m_y b0_m_y_sets b0_m_y_coming b0_m_y_origins b0_m_n b0_m_n_sets b0_m_n_coming b0_m_n_origins p0_m_y_sets p0_m_y_coming p0_m_y_origins p0_m_y_round p0_m_n_sets p0_m_n_coming p0_m_n_origins p0_m_n_round p0_m_rounds ++ wX2 ck b0_s b0_s_y b0_s_y_sets b0_s_y_coming b0_s_y_origins b0_s_n b0_s_n_sets b0_s_n_coming b0_s_n_origins o5 o6 o7 o8 o9 o10 o11 o12 o13 ++ [(b1, .inl (ck 0, 19, .inl p1_row))]) o0 A) [.ref b0, .ref b1, .int v2, .int v3].toArray s 0 0 A) (F0 m 88 ls []) := by
    intro p0_f_told_J88 p0_f_kinds_J88 p0_f_owners_J88 p0_f_cards_J88 p0_s_y_sets_J88 p0_s_y_coming_J88 p0_s_y_origins_J88 p0_s_y_round_J88 p0_s_n_sets_J88 p0_s_n_coming_J88 p0_s_n_origins_J88 p0_s_n_round_J88 p0_s_rounds_J88 h H locs hP hD hS ls hl
    unfold f_L_question_J88 at h
    refine lv_iconst (v := (0 : Int32)) hx hb dL_question_88 rfl ?_
    exact hJ89 _ _ _ _ _ _ _ _ _ _ _ _ _ _ h _ _ hP hD hS _ (lv_sub hl [0, 1, 2, 3, 4, 5, 6] rfl)
  refine lv_if_lt (tgt := 88) hx hb dL_question_34 (by decide) (fun c_34 => ?_) (fun c_34 => ?_)
  · have h := if_t h c_34
    exact hJ88 _ _ _ _ _ _ _ _ _ _ _ _ _ h _ _ hP hD hS _ (lv_sub hl [0, 1, 2, 3, 4, 6, 7] rfl)
  · have h := if_f h c_34
    refine lv_iload hx hb dL_question_37 (lv_at hl 3 rfl) ?_
    refine lv_bipush (v := (6 : Int32)) hx hb dL_question_39 rfl ?_
    refine lv_icmp_ge (tgt := 88) hx hb dL_question_41 (by decide) (fun c_41 => ?_) (fun c_41 => ?_)
    · have h := if_t h c_41
      exact hJ88 _ _ _ _ _ _ _ _ _ _ _ _ _ h _ _ hP hD hS _ (lv_sub hl [0, 1, 2, 3, 4, 6, 7] rfl)
    · have h := if_f h c_41
      refine lv_iload hx hb dL_question_44 (lv_at hl 2 rfl) ?_
      refine lv_if_lt (tgt := 88) hx hb dL_question_46 (by decide) (fun c_46 => ?_) (fun c_46 => ?_)
      · have h := if_t h c_46
        exact hJ88 _ _ _ _ _ _ _ _ _ _ _ _ _ h _ _ hP hD hS _ (lv_sub hl [0, 1, 2, 3, 4, 6, 7] rfl)
      · have h := if_f h c_46
        refine lv_iload hx hb dL_question_49 (lv_at hl 2 rfl) ?_
        refine lv_bipush (v := (6 : Int32)) hx hb dL_question_51 rfl ?_
        refine lv_icmp_ge (tgt := 88) hx hb dL_question_53 (by decide) (fun c_53 => ?_) (fun c_53 => ?_)
        · have h := if_t h c_53
          exact hJ88 _ _ _ _ _ _ _ _ _ _ _ _ _ h _ _ hP hD hS _ (lv_sub hl [0, 1, 2, 3, 4, 6, 7] rfl)
        · have h := if_f h c_53
          refine lv_iload hx hb dL_question_56 (lv_at hl 1 rfl) ?_
          refine lv_if_lt (tgt := 88) hx hb dL_question_58 (by decide) (fun c_58 => ?_) (fun c_58 => ?_)
          · have h := if_t h c_58
            exact hJ88 _ _ _ _ _ _ _ _ _ _ _ _ _ h _ _ hP hD hS _ (lv_sub hl [0, 1, 2, 3, 4, 6, 7] rfl)
          · have h := if_f h c_58
            refine lv_iload hx hb dL_question_61 (lv_at hl 1 rfl) ?_
            refine lv_bipush (v := (6 : Int32)) hx hb dL_question_63 rfl ?_
            refine lv_icmp_ge (tgt := 88) hx hb dL_question_65 (by decide) (fun c_65 => ?_) (fun c_65 => ?_)
            · have h := if_t h c_65
              exact hJ88 _ _ _ _ _ _ _ _ _ _ _ _ _ h _ _ hP hD hS _ (lv_sub hl [0, 1, 2, 3, 4, 6, 7] rfl)
            · have h := if_f h c_65
              refine lv_aload_n hx hb dL_question_68 rfl (lv_at hl 4 rfl) ?_
              refine lv_iload_n hx hb dL_question_69 rfl (lv_at hl 6 rfl) ?_
              refine lv_iload hx hb dL_question_70 (lv_at hl 3 rfl) ?_
              refine lv_iload hx hb dL_question_72 (lv_at hl 2 rfl) ?_
              refine lv_iload hx hb dL_question_74 (lv_at hl 1 rfl) ?_
              obtain ⟨r_76, p0_f_told_76, p0_f_kinds_76, p0_f_owners_76, p0_f_cards_76, p0_s_y_sets_76, p0_s_y_coming_76, p0_s_y_origins_76, p0_s_y_round_76, p0_s_n_sets_76, p0_s_n_coming_76, p0_s_n_origins_76, p0_s_n_round_76, p0_s_rounds_76, q_76, h⟩ := ob14_e h
              refine cSI (wc := [(b0, .inr (5, [.ref b0_f, .ref b0_m, .ref b0_s, .ref b0_h, .ref b0_slots, .ref b0_p]))] ++ wX0 ck b0_f b0_f_kinds b0_f_owners b0_f_cards p0_f_players p0_f_told_27 p0_f_kinds_27 p0_f_owners_27 p0_f_cards_27 ++ wX2 ck b0_m b0_m_y b0_m_y_sets b0_m_y_coming b0_m_y_origins b0_m_n b0_m_n_sets b0_m_n_coming b0_m_n_origins p0_m_y_sets p0_m_y_coming p0_m_y_origins p0_m_y_round p0_m_n_sets p0_m_n_coming p0_m_n_origins p0_m_n_round p0_m_rounds ++ wX2 ck b0_s b0_s_y b0_s_y_sets b0_s_y_coming b0_s_y_origins b0_s_n b0_s_n_sets b0_s_n_coming b0_s_n_origins p0_s_y_sets_27 p0_s_y_coming_27 p0_s_y_origins_27 p0_s_y_round_27 p0_s_n_sets_27 p0_s_n_coming_27 p0_s_n_origins_27 p0_s_n_round_27 p0_s_rounds_27) (wr := [(b1, .inl (ck 0, 19, .inl p1_row))]) (w1 := [(b0, .inr (5, [.ref b0_f, .ref b0_m, .ref b0_s, .ref b0_h, .ref b0_slots, .ref b0_p]))] ++ wX0 ck b0_f b0_f_kinds b0_f_owners b0_f_cards p0_f_players p0_f_told_76 p0_f_kinds_76 p0_f_owners_76 p0_f_cards_76 ++ wX2 ck b0_m b0_m_y b0_m_y_sets b0_m_y_coming b0_m_y_origins b0_m_n b0_m_n_sets b0_m_n_coming b0_m_n_origins p0_m_y_sets p0_m_y_coming p0_m_y_origins p0_m_y_round p0_m_n_sets p0_m_n_coming p0_m_n_origins p0_m_n_round p0_m_rounds ++ wX2 ck b0_s b0_s_y b0_s_y_sets b0_s_y_coming b0_s_y_origins b0_s_n b0_s_n_sets b0_s_n_coming b0_s_n_origins p0_s_y_sets_76 p0_s_y_coming_76 p0_s_y_origins_76 p0_s_y_round_76 p0_s_n_sets_76 p0_s_n_coming_76 p0_s_n_origins_76 p0_s_n_round_76 p0_s_rounds_76) (wn := [(b0, .inr (5, [.ref b0_f, .ref b0_m, .ref b0_s, .ref b0_h, .ref b0_slots, .ref b0_p]))] ++ wX0 ck b0_f b0_f_kinds b0_f_owners b0_f_cards p0_f_players p0_f_told_76 p0_f_kinds_76 p0_f_owners_76 p0_f_cards_76 ++ wX2 ck b0_m b0_m_y b0_m_y_sets b0_m_y_coming b0_m_y_origins b0_m_n b0_m_n_sets b0_m_n_coming b0_m_n_origins p0_m_y_sets p0_m_y_coming p0_m_y_origins p0_m_y_round p0_m_n_sets p0_m_n_coming p0_m_n_origins p0_m_n_round p0_m_rounds ++ wX2 ck b0_s b0_s_y b0_s_y_sets b0_s_y_coming b0_s_y_origins b0_s_n b0_s_n_sets b0_s_n_coming b0_s_n_origins p0_s_y_sets_76 p0_s_y_coming_76 p0_s_y_origins_76 p0_s_y_round_76 p0_s_n_sets_76 p0_s_n_coming_76 p0_s_n_origins_76 p0_s_n_round_76 p0_s_rounds_76 ++ [(b1, .inl (ck 0, 19, .inl p1_row))]) ⟨hx, hb, hml, hown, hts⟩ hK hP hD hS hA [0, 1, 2, 3, 4, 5, 6, 7, 8, 9, 10, 11, 12, 13, 14, 15, 16, 17, 18, 19, 20, 21, 22] [23] [1, 2, 3, 4, 5, 6, 7, 8, 9, 10, 11, 12, 13, 14, 15, 16, 17, 18, 19, 20, 21, 22, 23, 0] rfl (by decide) rfl (by decide) (by decide) rfl (by decide) (c_L_lesser l dC dI ck b0 b0_f b0_f_kinds b0_f_owners b0_f_cards b0_m b0_m_y b0_m_y_sets b0_m_y_coming b0_m_y_origins b0_m_n b0_m_n_sets b0_m_n_coming b0_m_n_origins b0_s b0_s_y b0_s_y_sets b0_s_y_coming b0_s_y_origins b0_s_n b0_s_n_sets b0_s_n_coming b0_s_n_origins b0_h b0_slots b0_p b0_f b0_f_kinds b0_f_owners b0_f_cards b0_m b0_m_y b0_m_y_sets b0_m_y_coming b0_m_y_origins b0_m_n b0_m_n_sets b0_m_n_coming b0_m_n_origins b0_s b0_s_y b0_s_y_sets b0_s_y_coming b0_s_y_origins b0_s_n b0_s_n_sets b0_s_n_coming b0_s_n_origins p0_f_players p0_f_told_27 p0_f_kinds_27 p0_f_owners_27 p0_f_cards_27 p0_m_y_sets p0_m_y_coming p0_m_y_origins p0_m_y_round p0_m_n_sets p0_m_n_coming p0_m_n_origins p0_m_n_round p0_m_rounds p0_s_y_sets_27 p0_s_y_coming_27 p0_s_y_origins_27 p0_s_y_round_27 p0_s_n_sets_27 p0_s_n_coming_27 p0_s_n_origins_27 p0_s_n_round_27 p0_s_rounds_27 v2 r_3 r_11 r_19 r_76 p0_f_told_76 p0_f_kinds_76 p0_f_owners_76 p0_f_cards_76 p0_s_y_sets_76 p0_s_y_coming_76 p0_s_y_origins_76 p0_s_y_round_76 p0_s_n_sets_76 p0_s_n_coming_76 p0_s_n_origins_76 p0_s_n_round_76 p0_s_rounds_76 q_76) (va_cwS 5 hts gL_question_L_lesser rfl rfl rfl (by decide +kernel) ⟨Nat.le_of_ble_eq_true rfl, Nat.le_of_ble_eq_true rfl⟩) rfl hl.1 rfl (Nat.le_of_ble_eq_true rfl) dL_question_76 ⟨Nat.zero_le _, Nat.zero_le _⟩ (fun H locs hP hD hS => ?_)
              refine lv_iload hx hb dL_question_79 (lv_at hl 0 rfl) ?_
              refine lv_icmp_ne (tgt := 88) hx hb dL_question_81 (by decide) (fun c_81 => ?_) (fun c_81 => ?_)
              · have h := if_f h c_81
                exact hJ88 _ _ _ _ _ _ _ _ _ _ _ _ _ h _ _ hP hD hS _ (lv_sub hl [0, 1, 2, 3, 4, 6, 7] rfl)
              · have h := if_t h c_81
                refine lv_iconst (v := (1 : Int32)) hx hb dL_question_84 rfl ?_
                refine lv_goto (tgt := 89) hx hb dL_question_85 (by decide) ?_
                exact hJ89 _ _ _ _ _ _ _ _ _ _ _ _ _ _ h _ _ hP hD hS _ (lv_sub hl [0, 1, 2, 3, 4, 6, 7] rfl)
