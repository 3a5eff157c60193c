/-! ===== fault alike; an order carried out ===== -/
theorem readPad_ok {t : Nat → Nat} {l : Nat} {pd : Nat → Int32} (h : TX t l pd) (ords : Nat → Int32) (a1 a2 a3 : Int32) : ∃ ords' n spot', f_X6_readPad pd (nI l) ords a1 a2 a3 = some (gF (cf t l 0 0), ords', nI n, spot', gF (cf t l 0 0)) ∧ (cf t l 0 0 = none → n ≤ l ∧ CH t l ords' n 0 0) := by
  have h80 := h.1
  unfold f_X6_readPad
  obtain ⟨o', n, sp, g1, _, g3⟩ := rp_go h l l 0 0 FU (Nat.le_refl _) (by omega) (by omega) (by have := fu_big; omega) ords
  refine ⟨o', n, sp, g1, fun q => ?_⟩
  obtain ⟨m, m1, m2, m3⟩ := g3 q
  rw [Nat.zero_add] at m1
  rw [m1]
  exact ⟨m2, m3⟩
theorem fault_ok {tx pd : Nat → Int32} {tl ty : Int32} {l : Nat} (hP : PR tx pd tl ty l) (ords : Nat → Int32) (a1 a2 a3 : Int32) : ∃ r d1 d2 d3 d4, f_X5_fault tx tl = some r ∧ f_X6_fault pd ty ords a1 a2 a3 = some (r, d1, d2, d3, d4) := by
  obtain ⟨t, h1, h2, rfl, rfl⟩ := hP.tx
  unfold f_X5_fault f_X6_fault
  obtain ⟨o', n, sp, g1, _⟩ := readPad_ok h2 ords a1 a2 a3
  rw [ob1_r (firstFault_ok h1), ob5_r g1]
  exact ⟨_, _, _, _, _, rfl, rfl⟩
theorem seqE_c {t : Nat → Nat} {l : Nat} {P : Nat → Prop} {ps : List (Nat → Prop)} {i : Nat} (h : (seqE t l (P :: ps) i).2 = true) : i < l ∧ P (t i) ∧ (seqE t l ps (i + 1)).2 = true := by
  rcases Classical.em (i < l ∧ P (t i)) with q | q
  · rw [show seqE t l (P :: ps) i = seqE t l ps (i + 1) from ifp_t q] at h
    exact ⟨q.1, q.2, h⟩
  · rw [show seqE t l (P :: ps) i = (i, false) from ifp_f q] at h
    exact Bool.noConfusion h
section
variable {t : Nat → Nat} {l : Nat} {tx : Nat → Int32}
theorem dig_ok (h : TX t l tx) {i : Nat} (hi : i < l) (h48 : 48 ≤ t i) : f_X3_digit tx (nI l) (nI i) = some (nI (t i - 48)) := by
  have h80 := h.1
  unfold f_X3_digit
  rw [ob1_r (at_ok h (by omega)), show tt t l i = t i from if_pos hi, show nI (t i) - (48 : Int32) = nI (t i - 48) from pk_sub (b := 48) h48]
theorem threeC_ok (h : TX t l tx) {i : Nat} (q : (seqE t l [d5, d5, d5] i).2 = true) : f_X3_threeCards tx (nI l) (nI i) = some (th3 (t i - 48) (t (i + 1) - 48) (t (i + 2) - 48)) ∧ t i - 48 < 6 ∧ t (i + 1) - 48 < 6 ∧ t (i + 2) - 48 < 6 := by
  obtain ⟨a1, a2, q⟩ := seqE_c q
  obtain ⟨b1, b2, q⟩ := seqE_c q
  obtain ⟨c1, c2, _⟩ := seqE_c q
  unfold d5 at a2 b2 c2
  have e2 : nI i + (2 : Int32) = nI (i + 2) := nI_add i 2
  unfold f_X3_threeCards
  rw [ob1_r (dig_ok h a1 a2.1), nI_1, ob1_r (dig_ok h b1 b2.1), e2, ob1_r (dig_ok h c1 c2.1), ob1_r th3_ok]
  have c2' : 48 ≤ t (i + 2) ∧ t (i + 2) ≤ 53 := c2
  exact ⟨rfl, by omega, by omega, by omega⟩
end
section
variable {a : Sh} {pl to : Int32} {ks os cs z : Nat → Int32}
theorem note_y (H : FR a pl to ks os cs z) (hn : sn a < 40) {f : F5t} (hF : FW (sp a) f) {k c : Int32} {o : Nat} (w : own a o) (q : FAt k (nI o) c f) : ∃ to' ks' os' cs', f_X5_noteIfPossible pl to ks os cs k (nI o) c = some (1, to', ks', os', cs') ∧ RF pl to' ks' os' cs' (shAdd a f) := by
  obtain ⟨hw, h40, hf, hz⟩ := H
  obtain ⟨to', ks', os', cs', e1, e2⟩ := rf_add hf (by omega) q
  unfold f_X5_noteIfPossible
  rw [hf.1, ob1_r (hasOw_y hw w), if_neg one_ne, if_pos (show to < (40 : Int32) from by rw [hf.2.1]; exact nI_lt (b := 40) hn (by decide)), ob4_r e1]
  exact ⟨_, _, _, _, rfl, by rw [← hf.1]; exact e2⟩
theorem note_n (H : FR a pl to ks os cs z) {k c : Int32} {o : Nat} (ho : o < 6) (hn : ¬ own a o ∨ ¬ sn a < 40) : f_X5_noteIfPossible pl to ks os cs k (nI o) c = some (0, to, ks, os, cs) := by
  obtain ⟨hw, h40, hf, hz⟩ := H
  unfold f_X5_noteIfPossible
  rw [hf.1]
  rcases Classical.em (own a o) with w | w
  · have hn' := hn.resolve_left (fun q => q w)
    rw [ob1_r (hasOw_y hw w), if_neg one_ne, if_neg (show ¬ to < (40 : Int32) from by rw [hf.2.1]; exact nI_nlt (b := 40) (by omega) (by omega))]
  · rw [ob1_r (hasOw_n hw (by omega) w), if_pos rfl]
theorem exec_ok (H : FR a pl to ks os cs z) {t : Nat → Nat} {l : Nat} {tx ords : Nat → Int32} (h : TX t l tx) {k s e : Nat} (hk : k ≤ 30) (hE : oE t l s = (e, true)) (hO : OC t l ords (5 * k) s) (he : e = l ∨ t e = 59) :
    (∃ to' ks' os' cs' z' a', f_X5_obey pl to ks os cs tx (nI l) (nI s) = some (1, to', ks', os', cs') ∧ f_X6_does z ords (nI k) = some (1, z') ∧ FR a' pl to' ks' os' cs' z') ∨ (f_X5_obey pl to ks os cs tx (nI l) (nI s) = some (0, to, ks, os, cs) ∧ f_X6_does z ords (nI k) = some (0, z)) := by
  have H0 := H
  obtain ⟨hw, h40, hf, hz⟩ := H
  have h80 := h.1
  have hp := hw.2.1
  have hE2 : (oE t l s).2 = true := by rw [hE]
  obtain ⟨o1, o2, o3, o4⟩ := oE_t hE2
  obtain ⟨c0, c45, c104, c114, c119⟩ := hO
  have hc := (h.2 s o1).2.1
  have ex : oE t l s = _ := ifp_t o1
  have ne : ∀ m, m < 127 → t s ≠ m → ¬ nI (t s) = nI m := fun m hm q w => q ((i_eq (by omega) (by omega)).mp w)
  have e2 : nI s + (2 : Int32) = nI (s + 2) := nI_add s 2
  have k5 : (5 : Int32) * nI k = nI (5 * k) := pk_mul 5 k
  have k51 : nI (5 * k) + (1 : Int32) = nI (5 * k + 1) := nI_add _ 1
  have k52 : nI (5 * k) + (2 : Int32) = nI (5 * k + 2) := nI_add _ 2
  have k53 : nI (5 * k) + (3 : Int32) = nI (5 * k + 3) := nI_add _ 3
  have k54 : nI (5 * k) + (4 : Int32) = nI (5 * k + 4) := nI_add _ 4
  have hdoes : f_X6_does z ords (nI k) = (if nI (t s) = (45 : Int32) then (gd (1 : Int32) 207 (if (z (1 : Int32).toNatClampNeg) ≤ ords (5 * k + 1) then (if (0 : Int32) = (0 : Int32) then (some ((0 : Int32), z)) else (ob1 (f_X6_drop z (ords (5 * k + 1))) (fun (c_z_87 : Nat → Int32) => some ((0 : Int32), c_z_87)))) else (if (1 : Int32) = (0 : Int32) then (some ((1 : Int32), z)) else (ob1 (f_X6_drop z (ords (5 * k + 1))) (fun (c_z_87 : Nat → Int32) => some ((1 : Int32), c_z_87)))))) else (if nI (t s) = (104 : Int32) then (ob1 (f_X6_whyNotHolds z (ords (5 * k + 1)) (ords (5 * k + 2))) (fun (r_103 : Int32) => if r_103 = (0 : Int32) then (if (1 : Int32) = (0 : Int32) then (some ((1 : Int32), z)) else (ob1 (f_X6_add z (0 : Int32) (ords (5 * k + 1)) (ords (5 * k + 2)) (-6 : Int32) (-6 : Int32)) (fun (c_z_129 : Nat → Int32) => some ((1 : Int32), c_z_129)))) else (if (0 : Int32) = (0 : Int32) then (some ((0 : Int32), z)) else (ob1 (f_X6_add z (0 : Int32) (ords (5 * k + 1)) (ords (5 * k + 2)) (-6 : Int32) (-6 : Int32)) (fun (c_z_129 : Nat → Int32) => some ((0 : Int32), c_z_129)))))) else (gd (1 : Int32) 207 (if (40 : Int32) ≤ (z (1 : Int32).toNatClampNeg) then (f_X6_does_J165 z (ords (5 * k + 1)) (ords (5 * k + 2)) (ords (5 * k + 3)) (ords (5 * k + 4)) (nI (t s))) else (if nI (t s) = (119 : Int32) then (f_X6_does_J161 z (ords (5 * k + 1)) (ords (5 * k + 2)) (ords (5 * k + 3)) (ords (5 * k + 4)) (nI (t s))) else (ob1 (f_X6_isPlayer z (ords (5 * k + 1))) (fun (r_155 : Int32) => if r_155 = (0 : Int32) then (f_X6_does_J165 z (ords (5 * k + 1)) (ords (5 * k + 2)) (ords (5 * k + 3)) (ords (5 * k + 4)) (nI (t s))) else (f_X6_does_J161 z (ords (5 * k + 1)) (ords (5 * k + 2)) (ords (5 * k + 3)) (ords (5 * k + 4)) (nI (t s)))))))))) := by
    unfold f_X6_does
    rw [k5, k51, k52, k53, k54, gd160 (by omega), lt_r, gd160 (by omega), lt_r, gd160 (by omega), lt_r, gd160 (by omega), lt_r, gd160 (by omega), lt_r, i_cl (by omega), i_cl (by omega), i_cl (by omega), i_cl (by omega), i_cl (by omega), c0]
  rw [hdoes]
  have hob : f_X3_at tx (nI l) (nI s) = some (nI (t s)) := by rw [at_ok h (by omega), show tt t l s = t s from if_pos o1]
  unfold f_X5_obey
  rw [ob1_r hob]
  have n45 : (t s ≠ 45) → ¬ nI (t s) = (45 : Int32) := fun q => ne 45 (by decide) q
  have n104 : (t s ≠ 104) → ¬ nI (t s) = (104 : Int32) := fun q => ne 104 (by decide) q
  have n114 : (t s ≠ 114) → ¬ nI (t s) = (114 : Int32) := fun q => ne 114 (by decide) q
  have n115 : (t s ≠ 115) → ¬ nI (t s) = (115 : Int32) := fun q => ne 115 (by decide) q
  have n119 : (t s ≠ 119) → ¬ nI (t s) = (119 : Int32) := fun q => ne 119 (by decide) q
  -- a minus
  rcases Nat.decEq (t s) 45 with v | v
  rotate_left
  · rw [if_pos v] at ex
    rw [ex] at hE2 hE
    obtain ⟨h1, h2, h3⟩ := numE_t hE2
    unfold d9 at h2
    have hnum : f_X3_number tx (nI l) (nI s + 1) = some (nI (numV t l (s + 1))) ∧ numV t l (s + 1) < 1000 := by
      unfold f_X3_number
      rw [nI_1, ob1_r (dig_ok h h1 h2.1), nI_1, ob1_r (at_ok h (by omega))]
      rcases h3 with ⟨x1, x2, x3, x4⟩ | ⟨x1, x4⟩
      · have hx3 := x3
        unfold d9 at hx3
        rw [show tt t l (s + 1 + 1) = t (s + 1 + 1) from if_pos x2, if_neg (show ¬ nI (t (s + 1 + 1)) = (59 : Int32) from fun q => by have := (i_eq (b := 59) (by have := (h.2 _ x2).2.1; omega) (by decide)).mp q; omega), ob1_r (dig_ok h x2 hx3.1), show numV t l (s + 1) = _ from ifp_t ⟨x1, x2, x3⟩, show nI (t (s + 1) - 48) * (10 : Int32) = nI ((t (s + 1) - 48) * 10) from pk_mul _ 10, nI_add, Nat.mul_comm]
        exact ⟨rfl, by omega⟩
      · rw [x4] at hE
        have he1 : e = s + 1 + 1 := (congrArg Prod.fst hE).symm
        have h59 : tt t l (s + 1 + 1) = 59 := by
          unfold tt
          rcases he with he | he
          · rw [if_neg (by omega)]
          · split
            · rw [← he1]; exact he
            · rfl
        rw [h59, if_pos (show nI 59 = (59 : Int32) from rfl), show numV t l (s + 1) = _ from ifp_f x1]
        exact ⟨rfl, by omega⟩
    rw [if_neg (n104 (by omega)), if_neg (n114 (by omega)), if_neg (n115 (by omega)), if_neg (n119 (by omega)), ob1_r hnum.1, if_pos (show nI (t s) = (45 : Int32) from by rw [v]; rfl), c45 v, gd1 (by decide), cl1, hz.2.1]
    unfold f_X5_removeIfPossible
    have hn1000 := hnum.2
    generalize numV t l (s + 1) = nv at hn1000 ⊢
    rcases Nat.lt_or_ge nv (sn a) with q | q
    · have hh : f_X0_has to (nI nv) = some 1 := by
        unfold f_X0_has
        rw [hf.2.1, if_neg (nI_pos (by omega)), if_neg (nle (by omega) (by omega) q)]
      obtain ⟨to', ks', os', cs', r1, r2⟩ := rf_remove hf (by omega) q
      obtain ⟨z', d1, d2⟩ := rz_drop hz (by omega) q
      rw [ob1_r hh, if_neg one_ne, ob4_r r1, ob5_r rfl, bo_1, if_neg (nle (by omega) (by omega) q), if_neg one_ne, ob1_r d1]
      exact Or.inl ⟨_, _, _, _, _, shDrop a nv, rfl, rfl, wf_drop hw nv, by show sn a - 1 ≤ 40; omega, r2, d2⟩
    · have hh : f_X0_has to (nI nv) = some 0 := by
        unfold f_X0_has
        rw [hf.2.1, if_neg (nI_pos (by omega)), if_pos (nI_le q (by omega))]
      rw [ob1_r hh, if_pos rfl, ob5_r rfl, bo_0, if_pos (nI_le q (by omega)), if_pos rfl]
      exact Or.inr ⟨rfl, rfl⟩
  rw [if_neg v] at ex
  -- what the reference does with three cards
  have r3 : ∀ (K j x y w : Nat) (o2 : Int32), (K = 1 ∧ t s = 114 ∨ K = 2 ∧ t s = 115 ∨ K = 3 ∧ t s = 119) → sn a < 40 → (K < 3 → o2 = nI j) → (K = 3 → o2 = -6) → ∃ z', f_X6_does_J161 z o2 (nI x) (nI y) (nI w) (nI (t s)) = some (1, z') ∧ RZ z' (shAdd a (K, j, x, 6 + y, 12 + w)) := by
    intro K j x y w o2 hK hn ho2 ho3
    obtain ⟨z', g1, g2⟩ := rz_add hz (by omega) (f := (K, j, x, 6 + y, 12 + w)) (k := nI K) (o := o2) (x := nI x) (y := nI (6 + y)) (w := nI (12 + w)) ⟨rfl, ho2, ho3, rfl, fun q => by have q' : K = 0 := q; omega, fun _ => ⟨rfl, rfl⟩⟩
    rw [f_X6_does_J161, f_X6_does_J166, if_neg one_ne]
    have g1' := add3_ok g1
    rcases hK with ⟨rfl, h3⟩ | ⟨rfl, h3⟩ | ⟨rfl, h3⟩
    · rw [if_neg (n119 (by omega)), if_neg (n115 (by omega)), ob1_r (show f_X6_addThree z 1 o2 (nI x) (nI y) (nI w) = some z' from g1')]
      exact ⟨z', rfl, g2⟩
    · rw [if_neg (n119 (by omega)), if_pos (show nI (t s) = (115 : Int32) from by rw [h3]; rfl), ob1_r (show f_X6_addThree z 2 o2 (nI x) (nI y) (nI w) = some z' from g1')]
      exact ⟨z', rfl, g2⟩
    · rw [if_pos (show nI (t s) = (119 : Int32) from by rw [h3]; rfl), ob1_r (show f_X6_addThree z 3 o2 (nI x) (nI y) (nI w) = some z' from g1')]
      exact ⟨z', rfl, g2⟩
  have r0 : ∀ (v2 v3 v4 v5 v6 : Int32), f_X6_does_J165 z v2 v3 v4 v5 v6 = some (0, z) := fun v2 v3 v4 v5 v6 => by
    rw [f_X6_does_J165, f_X6_does_J166, if_pos rfl]
    rfl
  have z40 : (40 : Int32) ≤ z 1 ↔ ¬ sn a < 40 := by
    rw [hz.2.1, show ((40 : Int32) ≤ nI (sn a)) = (nI 40 ≤ nI (sn a)) from rfl, i_le (by decide) (by omega)]
    omega
  -- refuses, shows
  have rs : ∀ K, (K = 1 ∧ t s = 114 ∨ K = 2 ∧ t s = 115) → (seqE t l [d4, d5, d5, d5] (s + 1)).2 = true → ords (5 * k + 1) = nI (t (s + 1) - 48) → (∀ m, m < 3 → ords (5 * k + 2 + m) = nI (t (s + 2 + m) - 48)) → (∃ to' ks' os' cs' z' a', (ob1 (f_X3_digit tx (nI l) (nI s + 1)) (fun (r_87 : Int32) => ob1 (f_X3_threeCards tx (nI l) (nI s + 2)) (fun (r_97 : Int32) => ob5 (f_X5_noteIfPossible pl to ks os cs (nI K) r_87 r_97) (fun (r_100 : Int32) (c_f_told_100 : Int32) (c_f_kinds_100 : Nat → Int32) (c_f_owners_100 : Nat → Int32) (c_f_cards_100 : Nat → Int32) => bo r_100 (some (r_100, c_f_told_100, c_f_kinds_100, c_f_owners_100, c_f_cards_100)))))) = some (1, to', ks', os', cs') ∧ (if (40 : Int32) ≤ z 1 then f_X6_does_J165 z (ords (5 * k + 1)) (ords (5 * k + 2)) (ords (5 * k + 3)) (ords (5 * k + 4)) (nI (t s)) else (if nI (t s) = (119 : Int32) then (f_X6_does_J161 z (ords (5 * k + 1)) (ords (5 * k + 2)) (ords (5 * k + 3)) (ords (5 * k + 4)) (nI (t s))) else (ob1 (f_X6_isPlayer z (ords (5 * k + 1))) (fun (r_155 : Int32) => if r_155 = (0 : Int32) then (f_X6_does_J165 z (ords (5 * k + 1)) (ords (5 * k + 2)) (ords (5 * k + 3)) (ords (5 * k + 4)) (nI (t s))) else (f_X6_does_J161 z (ords (5 * k + 1)) (ords (5 * k + 2)) (ords (5 * k + 3)) (ords (5 * k + 4)) (nI (t s))))))) = some (1, z') ∧ FR a' pl to' ks' os' cs' z') ∨ ((ob1 (f_X3_digit tx (nI l) (nI s + 1)) (fun (r_87 : Int32) => ob1 (f_X3_threeCards tx (nI l) (nI s + 2)) (fun (r_97 : Int32) => ob5 (f_X5_noteIfPossible pl to ks os cs (nI K) r_87 r_97) (fun (r_100 : Int32) (c_f_told_100 : Int32) (c_f_kinds_100 : Nat → Int32) (c_f_owners_100 : Nat → Int32) (c_f_cards_100 : Nat → Int32) => bo r_100 (some (r_100, c_f_told_100, c_f_kinds_100, c_f_owners_100, c_f_cards_100)))))) = some (0, to, ks, os, cs) ∧ (if (40 : Int32) ≤ z 1 then f_X6_does_J165 z (ords (5 * k + 1)) (ords (5 * k + 2)) (ords (5 * k + 3)) (ords (5 * k + 4)) (nI (t s)) else (if nI (t s) = (119 : Int32) then (f_X6_does_J161 z (ords (5 * k + 1)) (ords (5 * k + 2)) (ords (5 * k + 3)) (ords (5 * k + 4)) (nI (t s))) else (ob1 (f_X6_isPlayer z (ords (5 * k + 1))) (fun (r_155 : Int32) => if r_155 = (0 : Int32) then (f_X6_does_J165 z (ords (5 * k + 1)) (ords (5 * k + 2)) (ords (5 * k + 3)) (ords (5 * k + 4)) (nI (t s))) else (f_X6_does_J161 z (ords (5 * k + 1)) (ords (5 * k + 2)) (ords (5 * k + 3)) (ords (5 * k + 4)) (nI (t s))))))) = some (0, z)) := by
    intro K hK hq w1 w2
    obtain ⟨a1, a2, hq⟩ := seqE_c hq
    unfold d4 at a2
    obtain ⟨t1, t2, t3, t4⟩ := threeC_ok h hq
    have u0 : ords (5 * k + 2) = nI (t (s + 1 + 1) - 48) := w2 0 (by decide)
    have u1 : ords (5 * k + 3) = nI (t (s + 1 + 1 + 1) - 48) := w2 1 (by decide)
    have u2 : ords (5 * k + 4) = nI (t (s + 1 + 1 + 2) - 48) := w2 2 (by decide)
    rw [nI_1, ob1_r (dig_ok h a1 a2.1), e2, ob1_r (show f_X3_threeCards tx (nI l) (nI (s + 2)) = _ from t1), w1, u0, u1, u2, if_neg (n119 (by omega))]
    generalize t (s + 1 + 1) - 48 = x at t2 ⊢
    generalize t (s + 1 + 1 + 1) - 48 = y at t3 ⊢
    generalize t (s + 1 + 1 + 2) - 48 = w at t4 ⊢
    have hj5 : t (s + 1) - 48 < 5 := by omega
    generalize t (s + 1) - 48 = j at hj5 ⊢
    have hown : own a j ↔ j < sp a := ⟨fun q => q.resolve_right (by omega), Or.inl⟩
    rcases Classical.em (sn a < 40) with hn | hn
    · rw [if_neg (fun q => (z40.mp q) hn)]
      rcases Nat.lt_or_ge j (sp a) with q | q
      · have hFW : FW (sp a) (K, j, x, 6 + y, 12 + w) := fw_3 (by omega) (by omega) (fun _ => q) (fun q => by omega) t2 t3 t4
        obtain ⟨to', ks', os', cs', n1, n2⟩ := note_y H0 hn hFW (hown.mpr q) (fa_3 (by omega) t2 t3 t4)
        obtain ⟨z', m1, m2⟩ := r3 K j x y w (nI j) (by omega) hn (fun _ => rfl) (fun q => by omega)
        rw [ob5_r n1, bo_1, ob1_r (isPl_y hz.1 (by omega) q), if_neg one_ne, m1]
        exact Or.inl ⟨_, _, _, _, _, _, rfl, rfl, wf_add hw (by omega) hFW, by show sn a + 1 ≤ 40; omega, n2, m2⟩
      · have n2 := note_n H0 (k := nI K) (c := th3 x y w) (o := j) (by omega) (Or.inl (fun z => by have := hown.mp z; omega))
        rw [ob5_r n2, bo_0, ob1_r (isPl_n' hz.1 (by omega) (by omega) q), if_pos rfl, r0]
        exact Or.inr ⟨rfl, rfl⟩
    · have n2 := note_n H0 (k := nI K) (c := th3 x y w) (o := j) (by omega) (Or.inr hn)
      rw [ob5_r n2, bo_0, if_pos (z40.mpr hn), r0]
      exact Or.inr ⟨rfl, rfl⟩
  rw [if_neg (n45 v)]
  rcases Nat.decEq (t s) 104 with w | w
  rotate_left
  · rw [if_pos w] at ex
    rw [ex] at hE2
    obtain ⟨a1, a2, hE2⟩ := seqE_c hE2
    obtain ⟨b1, b2, hE2⟩ := seqE_c hE2
    obtain ⟨d1, d2, _⟩ := seqE_c hE2
    unfold d4 at a2
    unfold ac at b2
    unfold d5 at d2
    obtain ⟨x1, x2⟩ := c104 w
    have b1' : s + 2 < l := b1
    have b2' : 97 ≤ t (s + 2) ∧ t (s + 2) ≤ 99 := b2
    have d1' : s + 3 < l := d1
    have d2' : 48 ≤ t (s + 3) ∧ t (s + 3) ≤ 53 := d2
    have hcard : f_X3_card tx (nI l) (nI (s + 2)) = some ((1 : Int32) <<< (nI (6 * (t (s + 2) - 97) + (t (s + 3) - 48)) &&& 31)) := by
      unfold f_X3_card
      rw [ob1_r (at_ok h (by omega)), show tt t l (s + 2) = t (s + 2) from if_pos b1', nI_1, ob1_r (show f_X3_digit tx (nI l) (nI (s + 2 + 1)) = _ from dig_ok h d1' d2'.1), show nI (t (s + 2)) - (97 : Int32) = nI (t (s + 2) - 97) from pk_sub (b := 97) b2'.1, show nI (t (s + 2) - 97) * (6 : Int32) = nI ((t (s + 2) - 97) * 6) from pk_mul _ 6, nI_add, Nat.mul_comm]
    rw [if_pos (show nI (t s) = (104 : Int32) from by rw [w]; rfl), if_pos (show nI (t s) = (104 : Int32) from by rw [w]; rfl), nI_1, ob1_r (dig_ok h a1 a2.1), e2, ob1_r hcard, x1, x2]
    have hc18 : 6 * (t (s + 2) - 97) + (t (s + 3) - 48) < 18 := by omega
    generalize 6 * (t (s + 2) - 97) + (t (s + 3) - 48) = c at hc18 ⊢
    have hj5 : t (s + 1) - 48 < 5 := by omega
    generalize t (s + 1) - 48 = j at hj5 ⊢
    have hown : own a j ↔ j < sp a := ⟨fun q => q.resolve_right (by omega), Or.inl⟩
    have hcd : f_X6_isCard (nI c) = some 1 := by
      unfold f_X6_isCard
      rw [ob1_r (show f_X6_in (nI c) 0 17 = some 1 from in_y (m := 17) (by decide) (by omega)), bo_1]
    unfold f_X6_whyNotHolds
    rcases Nat.lt_or_ge j (sp a) with q | q
    · rw [ob1_r (isPl_y hz.1 (by omega) q), if_neg one_ne, ob1_r hcd, if_neg one_ne, gd1 (by decide), cl1]
      rcases Classical.em (sn a < 40) with hn | hn
      · obtain ⟨to', ks', os', cs', n1, n2⟩ := note_y H0 hn (fw_h q hc18) (hown.mpr q) (fa_h hc18)
        obtain ⟨z', g1, g2⟩ := rz_add hz (by omega) (f := (0, j, c, 0, 0)) (k := 0) (o := nI j) (x := nI c) (y := -6) (w := -6) ⟨rfl, fun _ => rfl, fun q => absurd (show (0 : Nat) = 3 from q) (by decide), rfl, fun _ => ⟨rfl, rfl⟩, fun q => absurd rfl q⟩
        rw [if_neg (fun q => (z1_40 H0).mp q hn), ob1_r rfl, if_pos rfl, if_neg one_ne, ob1_r g1, ob5_r n1, bo_1]
        exact Or.inl ⟨_, _, _, _, _, _, rfl, rfl, wf_add hw (by omega) (fw_h q hc18), by show sn a + 1 ≤ 40; omega, n2, g2⟩
      · have n2 := note_n H0 (k := 0) (c := (1 : Int32) <<< (nI c &&& 31)) (o := j) (by omega) (Or.inr hn)
        rw [if_pos ((z1_40 H0).mpr hn), ob1_r rfl, if_neg (show ¬ (-4 : Int32) = 0 by decide), if_pos rfl, ob5_r n2, bo_0]
        exact Or.inr ⟨rfl, rfl⟩
    · have n2 := note_n H0 (k := 0) (c := (1 : Int32) <<< (nI c &&& 31)) (o := j) (by omega) (Or.inl (fun z => by have := hown.mp z; omega))
      rw [ob1_r (isPl_n' hz.1 (by omega) (by omega) q), if_pos rfl, ob1_r rfl, if_neg (show ¬ (-1 : Int32) = 0 by decide), if_pos rfl, ob5_r n2, bo_0]
      exact Or.inr ⟨rfl, rfl⟩
  rw [if_neg w] at ex
  rw [if_neg (n104 w), if_neg (n104 w), gd1 (by decide), cl1]
  rcases Nat.decEq (t s) 114 with x | x
  rotate_left
  · rw [if_pos x] at ex
    rw [ex] at hE2
    obtain ⟨x1, x2⟩ := c114 (Or.inl x)
    rw [if_pos (show nI (t s) = (114 : Int32) from by rw [x]; rfl)]
    exact rs 1 (Or.inl ⟨rfl, x⟩) hE2 x1 x2
  rw [if_neg x] at ex
  rw [if_neg (n114 x)]
  rcases Nat.decEq (t s) 115 with y | y
  rotate_left
  · rw [if_pos y] at ex
    rw [ex] at hE2
    obtain ⟨x1, x2⟩ := c114 (Or.inr y)
    rw [if_pos (show nI (t s) = (115 : Int32) from by rw [y]; rfl)]
    exact rs 2 (Or.inr ⟨rfl, y⟩) hE2 x1 x2
  rw [if_neg y] at ex
  rw [if_neg (n115 y)]
  rcases Nat.decEq (t s) 119 with q | q
  rotate_left
  · rw [if_pos q] at ex
    rw [ex] at hE2
    obtain ⟨w1, w2⟩ := c119 q
    obtain ⟨t1, t2, t3, t4⟩ := threeC_ok h hE2
    have u0 : ords (5 * k + 2) = nI (t (s + 1) - 48) := w2 0 (by decide)
    have u1 : ords (5 * k + 3) = nI (t (s + 1 + 1) - 48) := w2 1 (by decide)
    have u2 : ords (5 * k + 4) = nI (t (s + 1 + 2) - 48) := w2 2 (by decide)
    rw [if_pos (show nI (t s) = (119 : Int32) from by rw [q]; rfl), if_pos (show nI (t s) = (119 : Int32) from by rw [q]; rfl), nI_1, ob1_r t1, w1, u0, u1, u2]
    generalize t (s + 1) - 48 = x at t2 ⊢
    generalize t (s + 1 + 1) - 48 = y at t3 ⊢
    generalize t (s + 1 + 2) - 48 = w at t4 ⊢
    rcases Classical.em (sn a < 40) with hn | hn
    · have hFW : FW (sp a) (3, 5, x, 6 + y, 12 + w) := fw_3 (by omega) (by omega) (fun q => by omega) (fun _ => rfl) t2 t3 t4
      obtain ⟨to', ks', os', cs', n1, n2⟩ := note_y H0 hn hFW (o := 5) (Or.inr rfl) (fa_3 (k := 3) (j := 5) (by omega) t2 t3 t4)
      obtain ⟨z', m1, m2⟩ := r3 3 5 x y w (-6) (by omega) hn (fun q => by omega) (fun _ => rfl)
      rw [if_neg (fun q => (z40.mp q) hn), m1, show f_X5_noteIfPossible pl to ks os cs 3 5 (th3 x y w) = _ from n1, ob5_r rfl, bo_1]
      exact Or.inl ⟨_, _, _, _, _, _, rfl, rfl, wf_add hw (by omega) hFW, by show sn a + 1 ≤ 40; omega, n2, m2⟩
    · have n2 := note_n H0 (k := 3) (c := th3 x y w) (o := 5) (by omega) (Or.inr hn)
      rw [if_pos (z40.mpr hn), r0, show f_X5_noteIfPossible pl to ks os cs 3 5 (th3 x y w) = _ from n2, ob5_r rfl, bo_0]
      exact Or.inr ⟨rfl, rfl⟩
  rw [if_neg q] at ex
  rw [ex] at hE2
  exact Bool.noConfusion hE2
end
