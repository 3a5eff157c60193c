/-! ===== the reference's small reads ===== -/
theorem cl0 : (0 : Int32).toNatClampNeg = 0 := rfl
theorem cl1 : (1 : Int32).toNatClampNeg = 1 := rfl
theorem gd0 {α : Type} {n : Nat} {k : Option α} (h : 0 < n ∧ n < 2 ^ 31) : gd (0 : Int32) n k = k := gd_r (vp_in_nI (n := 0) h.1 h.2)
theorem gd1 {α : Type} {n : Nat} {k : Option α} (h : 1 < n ∧ n < 2 ^ 31) : gd (1 : Int32) n k = k := gd_r (vp_in_nI (n := 1) h.1 h.2)
theorem b_one' (c : Nat) (hc : c < 18) (i : Nat) : bt ((1 : Int32) <<< (nI c &&& 31)) i = decide (i = c) := by
  rcases Nat.lt_or_ge i 32 with h | h
  · exact b_one c hc h
  · rw [b_big h, decide_eq_false (by omega)]
theorem fact_ok {z : Nat → Int32} {i w : Nat} (h : 2 + 5 * i + w < 207) : f_X6_fact z (nI i) (nI w) = some (z (2 + 5 * i + w)) := by
  unfold f_X6_fact
  have e : ((2 : Int32) + ((5 : Int32) * nI i)) + nI w = nI (2 + 5 * i + w) := by
    show (nI 2 + (nI 5 * nI i)) + nI w = _
    rw [pk_mul, nI_add, nI_add]
  rw [e, gd_r (vp_in_nI h (by decide)), i_cl (by omega)]
theorem fact_0 {z : Nat → Int32} {i : Nat} (h : i < 41) : f_X6_fact z (nI i) (0 : Int32) = some (z (2 + 5 * i)) := fact_ok (w := 0) (by omega)
theorem fact_1 {z : Nat → Int32} {i : Nat} (h : i < 41) : f_X6_fact z (nI i) (1 : Int32) = some (z (2 + 5 * i + 1)) := fact_ok (w := 1) (by omega)
theorem fact_2 {z : Nat → Int32} {i : Nat} (h : i < 41) : f_X6_fact z (nI i) (2 : Int32) = some (z (2 + 5 * i + 2)) := fact_ok (w := 2) (by omega)
theorem fact_3 {z : Nat → Int32} {i : Nat} (h : i < 41) : f_X6_fact z (nI i) (3 : Int32) = some (z (2 + 5 * i + 3)) := fact_ok (w := 3) (by omega)
theorem fact_4 {z : Nat → Int32} {i : Nat} (h : i < 41) : f_X6_fact z (nI i) (4 : Int32) = some (z (2 + 5 * i + 4)) := fact_ok (w := 4) (by omega)
theorem three_ok {z : Nat → Int32} {a : Sh} (hz : RZ z a) (hw : WF a) {i : Nat} (hi : i < sn a) (hk : kd a i ≠ 0) : ∃ m, f_X6_three z (nI i) = some m ∧ M18 m ∧ ∀ c, bt m c = inF a i c := by
  have hn := hw.2.2.1
  obtain ⟨-, -, -, -, h5⟩ := hw.2.2.2 i hi
  obtain ⟨g1, g2, g3, g4, g5⟩ := h5 hk
  obtain ⟨-, -, -, e2, -, e3⟩ := hz.2.2 i hi
  obtain ⟨e3, e4⟩ := e3 hk
  refine ⟨_, by unfold f_X6_three; rw [fact_2 (by omega), ob1_r rfl, fact_3 (by omega), ob1_r rfl, fact_4 (by omega), ob1_r rfl, e2, e3, e4], m18_or (m18_or (m18_one _ (by omega)) (m18_one _ (by omega))) (m18_one _ (by omega)), fun c => ?_⟩
  rw [b_or, b_or, b_one' _ (by omega), b_one' _ (by omega), b_one' _ (by omega)]
  unfold inF
  rw [decide_eq_true hk, Bool.true_and, Bool.or_assoc]
theorem isPl_y {z : Nat → Int32} {p j : Nat} (hz : z 0 = nI p) (hp : p < 1000) (h : j < p) : f_X6_isPlayer z (nI j) = some 1 := by
  unfold f_X6_isPlayer
  rw [if_neg (nI_pos (by omega)), gd0 (by decide), cl0, if_neg (show ¬ z 0 ≤ nI j from by rw [hz]; exact nle (by omega) (by omega) h)]
theorem isPl_n {z : Nat → Int32} {p : Nat} {v : Int32} (hz : z 0 = nI p) (h : v < 0 ∨ nI p ≤ v) : f_X6_isPlayer z v = some 0 := by
  unfold f_X6_isPlayer
  rcases Decidable.em (v < 0) with q | q
  · rw [if_pos q]
  · rw [if_neg q, gd0 (by decide), cl0, if_pos (show z 0 ≤ v from by rw [hz]; exact h.resolve_left q)]
theorem isPl_n' {z : Nat → Int32} {p j : Nat} (hz : z 0 = nI p) (hp : p < 1000) (hj : j < 1000) (h : p ≤ j) : f_X6_isPlayer z (nI j) = some 0 := isPl_n hz (Or.inr (nI_le h (by omega)))
theorem isOw_y {z : Nat → Int32} {a : Sh} (hz : RZ z a) (hw : WF a) {o : Nat} (h : own a o) : f_X6_isOwner z (nI o) = some 1 := by
  have hp := hw.2.1
  unfold f_X6_isOwner
  rcases Nat.lt_or_ge o (sp a) with q | q
  · rw [ob1_r (isPl_y hz.1 (by omega) q), if_neg (by decide)]
  · have : o = 5 := h.resolve_left (by omega)
    subst this
    rw [ob1_r (isPl_n' hz.1 (by omega) (by omega) q), if_pos rfl, if_pos (by rfl)]
theorem isOw_n {z : Nat → Int32} {a : Sh} (hz : RZ z a) (hw : WF a) {o : Nat} (ho : o < 1000) (h : ¬ own a o) : f_X6_isOwner z (nI o) = some 0 := by
  have hp := hw.2.1
  unfold f_X6_isOwner
  rw [ob1_r (isPl_n' hz.1 (by omega) (by omega) (Nat.le_of_not_lt (fun q => h (Or.inl q)))), if_pos rfl, if_neg (show ¬ nI o = (5 : Int32) from fun q => h (Or.inr ((i_eq (b := 5) (by omega) (by decide)).mp q)))]
/-! ===== rule 1 ===== -/
def r1y (a : Sh) (i : Nat) : Nat → Nat → Prop := fun o c => ∃ j, i ≤ j ∧ j < sn a ∧ kd a j = 0 ∧ ow a j = o ∧ c = ca a j
def r1n (a : Sh) (i : Nat) : Nat → Nat → Prop := fun o c => ∃ j, i ≤ j ∧ j < sn a ∧ kd a j = 1 ∧ ow a j = o ∧ inF a j c = true
theorem byFacts_go {z : Nat → Int32} {a : Sh} (hz : RZ z a) (hw : WF a) {Y N : Mk} {k : Nat} {T1 T2 T3 T4 : Gh} : ∀ (d i fuel : Nat), i + d = sn a → d < fuel → ∀ (yes no yR yL nR nL : Nat → Int32) (q : Int32) (sy sn : Gh), RX Y sy k T1 T2 yes yR yL → RX N sn k T3 T4 no nR nL → IM q sy sn →
    ∃ yes' no' yR' yL' nR' nL' q', lo8 (f_X6_byFacts_L2 z (nI k)) fuel (nI i) yes no yR yL nR nL q = some (yes', no', yR', yL', nR', nL', q') ∧ RX Y (app sy Y 1 (r1y a i)) k T1 T2 yes' yR' yL' ∧ RX N (app sn N 1 (r1n a i)) k T3 T4 no' nR' nL' ∧ IM q' (app sy Y 1 (r1y a i)) (app sn N 1 (r1n a i)) := by
  have hn := hw.2.2.1
  have hp := hw.2.1
  intro d
  induction d with
  | zero =>
    intro i fuel h1 h2 yes no yR yL nR nL q s1 s2 hY hN hi
    obtain ⟨f, rfl⟩ : ∃ f, fuel = f + 1 := ⟨fuel - 1, by omega⟩
    refine ⟨yes, no, yR, yL, nR, nL, q, ?_, ?_⟩
    · show f_X6_byFacts_L2 z (nI k) (lo8 _ f) (nI i) yes no yR yL nR nL q = _
      rw [f_X6_byFacts_L2, gd1 (by decide), cl1, if_pos (show z 1 ≤ nI i from by rw [hz.2.1]; exact nI_le (by omega) (by omega))]
    · rw [app_no (fun o c ⟨j, h3, h4, _⟩ => by omega), app_no (fun o c ⟨j, h3, h4, _⟩ => by omega)]
      exact ⟨hY, hN, hi⟩
  | succ d ih =>
    intro i fuel h1 h2 yes no yR yL nR nL q s1 s2 hY hN hi
    obtain ⟨f, rfl⟩ : ∃ f, fuel = f + 1 := ⟨fuel - 1, by omega⟩
    have hin : i < sn a := by omega
    obtain ⟨w1, w2, w3, w4, w5⟩ := hw.2.2.2 i hin
    obtain ⟨e0, e1, e1', e2, e3, e4⟩ := hz.2.2 i hin
    have hhead : lo8 (f_X6_byFacts_L2 z (nI k)) (f + 1) (nI i) yes no yR yL nR nL q = f_X6_byFacts_L2 z (nI k) (lo8 (f_X6_byFacts_L2 z (nI k)) f) (nI i) yes no yR yL nR nL q := rfl
    rw [hhead, f_X6_byFacts_L2, gd1 (by decide), cl1, if_neg (show ¬ z 1 ≤ nI i from by rw [hz.2.1]; exact nle (by omega) (by omega) hin), fact_0 (by omega), ob1_r rfl, e0]
    rcases Nat.decEq (kd a i) 0 with k0 | k0
    · rw [if_neg (show ¬ nI (kd a i) = 0 from fun h => k0 ((i_eq (b := 0) (by omega) (by decide)).mp h)), ob1_r rfl]
      rcases Nat.decEq (kd a i) 1 with k1 | k1
      · rw [if_neg (show ¬ nI (kd a i) = 1 from fun h => k1 ((i_eq (b := 1) (by omega) (by decide)).mp h)), nI_1]
        obtain ⟨y', n', a1, a2, a3, a4, q', g1, g2, g3, g4⟩ := ih (i + 1) f (by omega) (by omega) yes no yR yL nR nL q s1 s2 hY hN hi
        have c1 : app s1 Y 1 (r1y a (i + 1)) = app s1 Y 1 (r1y a i) := app_c fun o c => ⟨fun ⟨j, h3, h4⟩ => ⟨j, by omega, h4⟩, fun ⟨j, h3, h4⟩ => by
          rcases Nat.lt_or_ge i j with w | w
          · exact ⟨j, w, h4⟩
          · have : j = i := by omega
            subst this
            exact absurd h4.2.1 k0⟩
        have c2 : app s2 N 1 (r1n a (i + 1)) = app s2 N 1 (r1n a i) := app_c fun o c => ⟨fun ⟨j, h3, h4⟩ => ⟨j, by omega, h4⟩, fun ⟨j, h3, h4⟩ => by
          rcases Nat.lt_or_ge i j with w | w
          · exact ⟨j, w, h4⟩
          · have : j = i := by omega
            subst this
            exact absurd h4.2.1 k1⟩
        rw [c1] at g2 g4
        rw [c2] at g3 g4
        exact ⟨y', n', a1, a2, a3, a4, q', g1, g2, g3, g4⟩
      · rw [if_pos (show nI (kd a i) = 1 from by rw [k1]; rfl), fact_1 (by omega), ob1_r rfl, e1 (by omega)]
        obtain ⟨m, m1, m2, m3⟩ := three_ok hz hw hin k0
        rw [ob1_r m1]
        have ho : ow a i < 6 := by have := w2 (by omega); omega
        obtain ⟨x', xR', xL', q1, b1, b2, b3⟩ := giveN_rx hN hi ho m2 (r := 1) (by decide) (rl := 1) rfl
        rw [ob4_r b1, nI_1]
        obtain ⟨y', n', a1, a2, a3, a4, q', g1, g2, g3, g4⟩ := ih (i + 1) f (by omega) (by omega) yes x' yR yL xR' xL' q1 s1 _ hY b2 b3
        have c1 : app s1 Y 1 (r1y a (i + 1)) = app s1 Y 1 (r1y a i) := app_c fun o c => ⟨fun ⟨j, h3, h4⟩ => ⟨j, by omega, h4⟩, fun ⟨j, h3, h4⟩ => by
          rcases Nat.lt_or_ge i j with w | w
          · exact ⟨j, w, h4⟩
          · have : j = i := by omega
            subst this
            exact absurd h4.2.1 k0⟩
        have c2 : app (app s2 N 1 (one (ow a i) m)) N 1 (r1n a (i + 1)) = app s2 N 1 (r1n a i) := by
          rw [app_or (by decide)]
          refine app_c fun o c => ⟨fun h => ?_, fun ⟨j, h3, h4⟩ => ?_⟩
          · rcases h with ⟨h, h'⟩ | ⟨j, h3, h4⟩
            · exact ⟨i, Nat.le_refl _, hin, k1, h.symm, by rw [← m3]; exact h'⟩
            · exact ⟨j, by omega, h4⟩
          · rcases Nat.lt_or_ge i j with w | w
            · exact Or.inr ⟨j, w, h4⟩
            · have : j = i := by omega
              subst this
              exact Or.inl ⟨h4.2.2.1.symm, by rw [m3]; exact h4.2.2.2⟩
        rw [c1] at g2 g4
        rw [c2] at g3 g4
        exact ⟨y', n', a1, a2, a3, a4, q', g1, g2, g3, g4⟩
    · rw [if_pos (show nI (kd a i) = 0 from by rw [k0]; rfl), fact_1 (by omega), ob1_r rfl, fact_2 (by omega), ob1_r rfl, e1 (by omega), e2]
      have ho : ow a i < 6 := by have := w2 (by omega); omega
      obtain ⟨x', xR', xL', q1, b1, b2, b3⟩ := giveY_rx hY hi ho (m18_one (ca a i) w4) (r := 1) (by decide) (rl := 1) rfl
      rw [ob4_r b1, nI_1]
      obtain ⟨y', n', a1, a2, a3, a4, q', g1, g2, g3, g4⟩ := ih (i + 1) f (by omega) (by omega) x' no xR' xL' nR nL q1 _ s2 b2 hN b3
      have c2 : app s2 N 1 (r1n a (i + 1)) = app s2 N 1 (r1n a i) := app_c fun o c => ⟨fun ⟨j, h3, h4⟩ => ⟨j, by omega, h4⟩, fun ⟨j, h3, h4⟩ => by
        rcases Nat.lt_or_ge i j with w | w
        · exact ⟨j, w, h4⟩
        · have : j = i := by omega
          subst this
          exact absurd h4.2.1 (by omega)⟩
      have c1 : app (app s1 Y 1 (one (ow a i) ((1 : Int32) <<< (nI (ca a i) &&& 31)))) Y 1 (r1y a (i + 1)) = app s1 Y 1 (r1y a i) := by
        rw [app_or (by decide)]
        refine app_c fun o c => ⟨fun h => ?_, fun ⟨j, h3, h4⟩ => ?_⟩
        · rcases h with ⟨h, h'⟩ | ⟨j, h3, h4⟩
          · rw [b_one' _ w4] at h'
            exact ⟨i, Nat.le_refl _, hin, k0, h.symm, of_decide_eq_true h'⟩
          · exact ⟨j, by omega, h4⟩
        · rcases Nat.lt_or_ge i j with w | w
          · exact Or.inr ⟨j, w, h4⟩
          · have : j = i := by omega
            subst this
            exact Or.inl ⟨h4.2.2.1.symm, by rw [b_one' _ w4]; exact decide_eq_true h4.2.2.2⟩
      rw [c1] at g2 g4
      rw [c2] at g3 g4
      exact ⟨y', n', a1, a2, a3, a4, q', g1, g2, g3, g4⟩
theorem byFacts_ok {z : Nat → Int32} {a : Sh} (hz : RZ z a) (hw : WF a) {Y N : Mk} {k : Nat} {T1 T2 T3 T4 : Gh} {yes no yR yL nR nL : Nat → Int32} {q : Int32} {s1 s2 : Gh} (hY : RX Y s1 k T1 T2 yes yR yL) (hN : RX N s2 k T3 T4 no nR nL) (hi : IM q s1 s2) :
    ∃ yes' no' yR' yL' nR' nL' q', f_X6_byFacts z yes no yR yL nR nL (nI k) q = some (yes', no', yR', yL', nR', nL', q') ∧ RX Y (app s1 Y 1 (r1y a 0)) k T1 T2 yes' yR' yL' ∧ RX N (app s2 N 1 (r1n a 0)) k T3 T4 no' nR' nL' ∧ IM q' (app s1 Y 1 (r1y a 0)) (app s2 N 1 (r1n a 0)) :=
  byFacts_go hz hw (sn a) 0 FU (by omega) (Nat.lt_of_le_of_lt hw.2.2.1 (by decide)) yes no yR yL nR nL q s1 s2 hY hN hi
