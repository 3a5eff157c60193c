/-! ===== the class' small reads ===== -/
theorem of_ok {st : Nat → Int32} {o : Nat} (ho : o < 6) : f_X4_of st (nI o) = some (st o) := by
  unfold f_X4_of
  rw [if_neg (nI_pos (by omega)), if_pos (show nI o < (6 : Int32) from (i_lt (b := 6) (by omega) (by decide)).mpr ho), gd_r (vp_in_nI ho (by decide)), i_cl (by omega)]
theorem hasOw_y {a : Sh} (hw : WF a) {o : Nat} (h : own a o) : f_X0_hasOwner (nI (sp a)) (nI o) = some 1 := by
  have hp := hw.2.1
  unfold f_X0_hasOwner
  rcases Nat.decEq o 5 with q | q
  · have : o < sp a := h.resolve_right q
    rw [if_neg (show ¬ nI o = (5 : Int32) from fun e => q ((i_eq (b := 5) (by omega) (by decide)).mp e)), if_neg (nI_pos (by omega)), if_neg (nle (by omega) (by omega) this)]
  · subst q
    rw [if_pos (by rfl)]
theorem hasOw_n {a : Sh} (hw : WF a) {o : Nat} (ho : o < 1000) (h : ¬ own a o) : f_X0_hasOwner (nI (sp a)) (nI o) = some 0 := by
  have hp := hw.2.1
  unfold f_X0_hasOwner
  rw [if_neg (show ¬ nI o = (5 : Int32) from fun e => h (Or.inr ((i_eq (b := 5) (by omega) (by decide)).mp e))), if_neg (nI_pos (by omega)), if_pos (nI_le (Nat.le_of_not_lt (fun q => h (Or.inl q))) (by omega))]
theorem inF_big {a : Sh} (hw : WF a) {i : Nat} (hi : i < sn a) {c : Nat} (hc : 18 ≤ c) : inF a i c = false := by
  obtain ⟨w1, w2, w3, w4, w5⟩ := hw.2.2.2 i hi
  unfold inF
  rw [decide_eq_false (show ¬ c = ca a i by omega), Bool.false_or]
  rcases Nat.decEq (kd a i) 0 with h | h
  · have := w5 h
    rw [decide_eq_false (show ¬ c = cb a i by omega), decide_eq_false (show ¬ c = cc a i by omega)]
    simp
  · rw [decide_eq_false (show ¬ (kd a i ≠ 0) from fun q => q h), Bool.false_and]
theorem b_cs {a : Sh} (hw : WF a) {pl to : Int32} {ks os cs : Nat → Int32} (h : RF pl to ks os cs a) {i : Nat} (hi : i < sn a) (c : Nat) : bt (cs i) c = inF a i c := by
  rcases Nat.lt_or_ge c 18 with q | q
  · exact (h.2.2 i hi).2.2.2 c q
  · rw [(h.2.2 i hi).2.2.1 c q, inF_big hw hi q]
theorem inF_0 {a : Sh} {i c : Nat} (h : kd a i = 0) : inF a i c = true ↔ c = ca a i := by
  unfold inF
  rw [decide_eq_false (show ¬ (kd a i ≠ 0) from fun q => q h), Bool.false_and, Bool.or_false, decide_eq_true_eq]
/-! ===== rule 1, the class ===== -/
theorem seen_go {a : Sh} (hw : WF a) {t : Prop} {pl to : Int32} {ks os cs : Nat → Int32} (hf : RF pl to ks os cs a) {Y N : Mk} {k : Nat} (hk : k + 1 < 1000) {T1 T2 T3 T4 : Gh} {ys ns : Nat → Int32} : ∀ (d i fuel : Nat), i + d = sn a → d < fuel → ∀ (cy oy cn on : Nat → Int32) (s1 s2 : Gh), RC t Y s1 k T1 T2 ys cy oy → RC t N s2 k T3 T4 ns cn on →
    ∃ cy' oy' cn' on', lo5 (f_X2_followWhatWasSeen_L2 ys (nI (k + 1)) ns (nI (k + 1)) to ks os cs) fuel (nI i) cy oy cn on = some (cy', oy', cn', on') ∧ RC t Y (app s1 Y 1 (r1y a i)) k T1 T2 ys cy' oy' ∧ RC t N (app s2 N 1 (r1n a i)) k T3 T4 ns cn' on' := by
  have hn := hw.2.2.1
  intro d
  induction d with
  | zero =>
    intro i fuel h1 h2 cy oy cn on s1 s2 hY hN
    obtain ⟨f, rfl⟩ : ∃ f, fuel = f + 1 := ⟨fuel - 1, by omega⟩
    refine ⟨cy, oy, cn, on, ?_, ?_⟩
    · show f_X2_followWhatWasSeen_L2 ys (nI (k + 1)) ns (nI (k + 1)) to ks os cs (lo5 _ f) (nI i) cy oy cn on = _
      rw [f_X2_followWhatWasSeen_L2, if_pos (show to ≤ nI i from by rw [hf.2.1]; exact nI_le (by omega) (by omega))]
    · rw [app_no (fun o c ⟨j, h3, h4, _⟩ => by omega), app_no (fun o c ⟨j, h3, h4, _⟩ => by omega)]
      exact ⟨hY, hN⟩
  | succ d ih =>
    intro i fuel h1 h2 cy oy cn on s1 s2 hY hN
    obtain ⟨f, rfl⟩ : ∃ f, fuel = f + 1 := ⟨fuel - 1, by omega⟩
    have hin : i < sn a := by omega
    obtain ⟨w1, -⟩ := hw.2.2.2 i hin
    obtain ⟨e0, e1, e2, -⟩ := hf.2.2 i hin
    have hhead : lo5 (f_X2_followWhatWasSeen_L2 ys (nI (k + 1)) ns (nI (k + 1)) to ks os cs) (f + 1) (nI i) cy oy cn on = f_X2_followWhatWasSeen_L2 ys (nI (k + 1)) ns (nI (k + 1)) to ks os cs (lo5 (f_X2_followWhatWasSeen_L2 ys (nI (k + 1)) ns (nI (k + 1)) to ks os cs) f) (nI i) cy oy cn on := rfl
    have g41 : ∀ {α : Type} (kk : Option α), gd (nI i) 41 kk = kk := fun kk => gd_r (vp_in_nI (by omega) (by decide))
    rw [hhead, f_X2_followWhatWasSeen_L2, if_neg (show ¬ to ≤ nI i from by rw [hf.2.1]; exact nle (by omega) (by omega) hin), g41, i_cl (by omega), e0]
    have skY : kd a i ≠ 0 → app s1 Y 1 (r1y a (i + 1)) = app s1 Y 1 (r1y a i) := fun h => app_c fun o c => ⟨fun ⟨j, h3, h4⟩ => ⟨j, by omega, h4⟩, fun ⟨j, h3, h4⟩ => by
      rcases Nat.lt_or_ge i j with w | w
      · exact ⟨j, w, h4⟩
      · have : j = i := by omega
        subst this
        exact absurd h4.2.1 h⟩
    have skN : kd a i ≠ 1 → app s2 N 1 (r1n a (i + 1)) = app s2 N 1 (r1n a i) := fun h => app_c fun o c => ⟨fun ⟨j, h3, h4⟩ => ⟨j, by omega, h4⟩, fun ⟨j, h3, h4⟩ => by
      rcases Nat.lt_or_ge i j with w | w
      · exact ⟨j, w, h4⟩
      · have : j = i := by omega
        subst this
        exact absurd h4.2.1 h⟩
    rcases Nat.decEq (kd a i) 0 with k0 | k0
    · rw [if_neg (show ¬ nI (kd a i) = 0 from fun h => k0 ((i_eq (b := 0) (by omega) (by decide)).mp h)), g41]
      rcases Nat.decEq (kd a i) 1 with k1 | k1
      · rw [if_neg (show ¬ nI (kd a i) = 1 from fun h => k1 ((i_eq (b := 1) (by omega) (by decide)).mp h)), nI_1]
        obtain ⟨x1, x2, x3, x4, g1, g2, g3⟩ := ih (i + 1) f (by omega) (by omega) cy oy cn on s1 s2 hY hN
        rw [skY k0] at g2
        rw [skN k1] at g3
        exact ⟨x1, x2, x3, x4, g1, g2, g3⟩
      · rw [if_pos (show nI (kd a i) = 1 from by rw [k1]; rfl), g41, g41, e1]
        obtain ⟨b1, b2, b3, b4⟩ := add_rc hN (ow6 hw hin) e2 hk (r := 1) (by decide) (by decide) (rl := 1) rfl
        rw [ob2_r b3, nI_1]
        obtain ⟨x1, x2, x3, x4, g1, g2, g3⟩ := ih (i + 1) f (by omega) (by omega) cy oy b1 b2 s1 _ hY b4
        have c2 : app (app s2 N 1 (one (ow a i) (cs i))) N 1 (r1n a (i + 1)) = app s2 N 1 (r1n a i) := by
          rw [app_or (by decide)]
          refine app_c fun o c => ⟨fun h => ?_, fun ⟨j, h3, h4⟩ => ?_⟩
          · rcases h with ⟨h, h'⟩ | ⟨j, h3, h4⟩
            · exact ⟨i, Nat.le_refl _, hin, k1, h.symm, by rw [← b_cs hw hf hin]; exact h'⟩
            · exact ⟨j, by omega, h4⟩
          · rcases Nat.lt_or_ge i j with w | w
            · exact Or.inr ⟨j, w, h4⟩
            · have : j = i := by omega
              subst this
              exact Or.inl ⟨h4.2.2.1.symm, by rw [b_cs hw hf hin]; exact h4.2.2.2⟩
        rw [skY k0] at g2
        rw [c2] at g3
        exact ⟨x1, x2, x3, x4, g1, g2, g3⟩
    · rw [if_pos (show nI (kd a i) = 0 from by rw [k0]; rfl), g41, g41, e1]
      obtain ⟨b1, b2, b3, b4⟩ := add_rc hY (ow6 hw hin) e2 hk (r := 1) (by decide) (by decide) (rl := 1) rfl
      rw [ob2_r b3, nI_1]
      obtain ⟨x1, x2, x3, x4, g1, g2, g3⟩ := ih (i + 1) f (by omega) (by omega) b1 b2 cn on _ s2 b4 hN
      have c2 : app (app s1 Y 1 (one (ow a i) (cs i))) Y 1 (r1y a (i + 1)) = app s1 Y 1 (r1y a i) := by
        rw [app_or (by decide)]
        refine app_c fun o c => ⟨fun h => ?_, fun ⟨j, h3, h4⟩ => ?_⟩
        · rcases h with ⟨h, h'⟩ | ⟨j, h3, h4⟩
          · rw [b_cs hw hf hin] at h'
            exact ⟨i, Nat.le_refl _, hin, k0, h.symm, (inF_0 k0).mp h'⟩
          · exact ⟨j, by omega, h4⟩
        · rcases Nat.lt_or_ge i j with w | w
          · exact Or.inr ⟨j, w, h4⟩
          · have : j = i := by omega
            subst this
            exact Or.inl ⟨h4.2.2.1.symm, by rw [b_cs hw hf hin]; exact (inF_0 k0).mpr h4.2.2.2⟩
      rw [c2] at g2
      rw [skN (by omega)] at g3
      exact ⟨x1, x2, x3, x4, g1, g2, g3⟩
/-! ===== how many of the owners ===== -/
theorem ct_other {p : Nat → Bool} {x n : Nat} (hx : x < n) : ((p x = true ∧ 2 ≤ fb_ct p n) ∨ (p x = false ∧ 1 ≤ fb_ct p n)) ↔ ∃ o, o < n ∧ o ≠ x ∧ p o = true := by
  have h := fb_ct_upd p false hx
  have e : (0 < fb_ct (fun k => if k = x then false else p k) n) ↔ ∃ o, o < n ∧ o ≠ x ∧ p o = true := by
    rw [fb_ct_pos]
    constructor
    · rintro ⟨k, h1, h2⟩
      rcases Nat.decEq k x with w | w
      · rw [if_neg w] at h2
        exact ⟨k, h1, w, h2⟩
      · rw [if_pos w] at h2
        cases h2
    · rintro ⟨k, h1, h2, h3⟩
      exact ⟨k, h1, by rw [if_neg h2]; exact h3⟩
  rw [← e]
  cases ep : p x <;> rw [ep] at h <;> simp at h <;> simp <;> omega
def acc (p : Nat → Nat → Bool) (j : Nat) (one two : Int32) : Prop := M18 one ∧ M18 two ∧ ∀ c, c < 18 → bt one c = decide (1 ≤ fb_ct (p c) j) ∧ bt two c = decide (2 ≤ fb_ct (p c) j)
theorem acc_step {p : Nat → Nat → Bool} {j : Nat} {one two x : Int32} (h : acc p j one two) (hx : M18 x) (hp : ∀ c, c < 18 → bt x c = p c j) : acc p (j + 1) (one ||| x) (two ||| (one &&& x)) := by
  refine ⟨m18_or h.1 hx, m18_or h.2.1 (m18_and h.1), fun c hc => ?_⟩
  rw [b_or, b_or, b_and, (h.2.2 c hc).1, (h.2.2 c hc).2, hp c hc, fb_ct_succ]
  cases p c j
  · simp
  · simp
    omega
theorem acc_skip {p : Nat → Nat → Bool} {j : Nat} {one two : Int32} (h : acc p j one two) (hp : ∀ c, c < 18 → p c j = false) : acc p (j + 1) one two := by
  refine ⟨h.1, h.2.1, fun c hc => ?_⟩
  rw [fb_ct_succ, hp c hc]
  exact h.2.2 c hc
theorem acc_0 {p : Nat → Nat → Bool} : acc p 0 0 0 := ⟨m18_0, m18_0, fun c _ => ⟨b_0 c, b_0 c⟩⟩
/-! ===== rule 2, the class ===== -/
theorem oth_in {a : Sh} (hw : WF a) {t : Prop} {Y N : Mk} {k : Nat} (hk : k + 1 < 1000) {T3 T4 : Gh} {ys ns : Nat → Int32} (hy : MB Y ys) {v2 v3 : Int32} (ha : acc (fun c o => Y o c) 6 v2 v3) (hown : ∀ o c, o < 6 → c < 18 → Y o c = true → own a o) : ∀ (d j fuel : Nat), j + d = 6 → d < fuel → ∀ (cn on : Nat → Int32) (s2' : Gh), RC t N s2' k T3 T4 ns cn on →
    ∃ cn' on' τ, lo3 (f_X2_followOtherOwners_L49 ys ns (nI (k + 1)) (nI (sp a)) v2 v3) fuel (nI j) cn on = some (cn', on') ∧ RC t N τ k T3 T4 ns cn' on' ∧ eqR τ (app s2' N 2 (fun x c => j ≤ x ∧ s2 a Y x c)) := by
  intro d
  induction d with
  | zero =>
    intro j fuel h1 h2 cn on σ hN
    obtain ⟨f, rfl⟩ : ∃ f, fuel = f + 1 := ⟨fuel - 1, by omega⟩
    have hj : j = 6 := by omega
    subst hj
    refine ⟨cn, on, σ, ?_, hN, ?_⟩
    · show f_X2_followOtherOwners_L49 ys ns (nI (k + 1)) (nI (sp a)) v2 v3 (lo3 _ f) (nI 6) cn on = _
      rw [f_X2_followOtherOwners_L49, if_pos (show (6 : Int32) ≤ nI 6 from by decide)]
    · exact fun o c ho hc => (ifp_f (fun q => by have := q.2.2.1; omega)).symm
  | succ d ih =>
    intro j fuel h1 h2 cn on σ hN
    obtain ⟨f, rfl⟩ : ∃ f, fuel = f + 1 := ⟨fuel - 1, by omega⟩
    have hj : j < 6 := by omega
    have hhead : lo3 (f_X2_followOtherOwners_L49 ys ns (nI (k + 1)) (nI (sp a)) v2 v3) (f + 1) (nI j) cn on = f_X2_followOtherOwners_L49 ys ns (nI (k + 1)) (nI (sp a)) v2 v3 (lo3 (f_X2_followOtherOwners_L49 ys ns (nI (k + 1)) (nI (sp a)) v2 v3) f) (nI j) cn on := rfl
    rw [hhead, f_X2_followOtherOwners_L49, if_neg (show ¬ (6 : Int32) ≤ nI j from nle (a := 6) (by decide) (by omega) hj)]
    rcases Classical.em (own a j) with w | w
    · rw [ob1_r (hasOw_y hw w), if_neg (by decide), ob1_r (of_ok hj)]
      have hm : M18 ((v2 &&& (ys j ^^^ (-1 : Int32))) ||| v3) := m18_or (m18_and ha.1) ha.2.1
      obtain ⟨b1, b2, b3, b4⟩ := add_rc hN hj hm hk (r := 2) (by decide) (by decide) (rl := 2) rfl
      rw [ob2_r b3, nI_1]
      obtain ⟨x1, x2, τ, g1, g2, g3⟩ := ih (j + 1) f (by omega) (by omega) b1 b2 _ b4
      refine ⟨x1, x2, τ, g1, g2, fun o c ho hc => ?_⟩
      rw [g3 o c ho hc, app_or (by decide)]
      have hb : bt ((v2 &&& (ys j ^^^ (-1 : Int32))) ||| v3) c = true ↔ ∃ o', o' < 6 ∧ o' ≠ j ∧ Y o' c = true := by
        rw [← ct_other (p := fun o => Y o c) hj, b_or, b_andnot ha.1, (ha.2.2 c hc).1, (ha.2.2 c hc).2, (hy j hj).2 c hc]
        cases Y j c
        · simp
          omega
        · simp
      refine app_r (σ := σ) (τ := σ) eqR.rf (fun x c' hx hc' => ?_) o c ho hc
      have hb' : bt ((v2 &&& (ys j ^^^ (-1 : Int32))) ||| v3) c' = true ↔ ∃ o', o' < 6 ∧ o' ≠ j ∧ Y o' c' = true := by
        rw [← ct_other (p := fun o => Y o c') hj, b_or, b_andnot ha.1, (ha.2.2 c' hc').1, (ha.2.2 c' hc').2, (hy j hj).2 c' hc']
        cases Y j c'
        · simp
          omega
        · simp
      constructor
      · rintro (⟨h, h'⟩ | ⟨h, h'⟩)
        · subst h
          obtain ⟨o', q1, q2, q3⟩ := hb'.mp h'
          exact ⟨Nat.le_refl _, w, o', q1, q2, hown o' c' q1 hc' q3, q3⟩
        · exact ⟨by omega, h'⟩
      · rintro ⟨h, h'⟩
        rcases Nat.lt_or_ge j x with u | u
        · exact Or.inr ⟨u, h'⟩
        · have : x = j := by omega
          subst this
          obtain ⟨_, o', q1, q2, q3, q4⟩ := h'
          exact Or.inl ⟨rfl, hb'.mpr ⟨o', q1, q2, q4⟩⟩
    · rw [ob1_r (hasOw_n hw (by omega) w), if_pos rfl, nI_1]
      obtain ⟨x1, x2, τ, g1, g2, g3⟩ := ih (j + 1) f (by omega) (by omega) cn on _ hN
      refine ⟨x1, x2, τ, g1, g2, fun o c ho hc => ?_⟩
      rw [g3 o c ho hc]
      refine app_r (σ := σ) (τ := σ) eqR.rf (fun x c' hx hc' => ⟨fun h => ⟨by omega, h.2⟩, fun h => ⟨?_, h.2⟩⟩) o c ho hc
      rcases Nat.lt_or_ge j x with u | u
      · exact u
      · have : x = j := by omega
        subst this
        exact absurd h.2.1 w
theorem oth_acc {a : Sh} (hw : WF a) {t : Prop} {Y N : Mk} {k : Nat} (hk : k + 1 < 1000) {T3 T4 : Gh} {ys ns cn on : Nat → Int32} (hy : MB Y ys) (hown : ∀ o c, o < 6 → c < 18 → Y o c = true → own a o) {s2' : Gh} (hN : RC t N s2' k T3 T4 ns cn on) : ∀ (d j fuel : Nat), j + d = 6 → d < fuel → ∀ (v2 v3 : Int32), acc (fun c o => Y o c) j v2 v3 →
    ∃ cn' on' τ, lo3 (f_X2_followOtherOwners_L7 ys ns cn on (nI (k + 1)) (nI (sp a))) fuel v2 v3 (nI j) = some (cn', on') ∧ RC t N τ k T3 T4 ns cn' on' ∧ eqR τ (app s2' N 2 (s2 a Y)) := by
  intro d
  induction d with
  | zero =>
    intro j fuel h1 h2 v2 v3 ha
    obtain ⟨f, rfl⟩ : ∃ f, fuel = f + 1 := ⟨fuel - 1, by omega⟩
    have hj : j = 6 := by omega
    subst hj
    obtain ⟨x1, x2, τ, g1, g2, g3⟩ := oth_in hw hk (ns := ns) hy ha hown 6 0 FU rfl (by decide) cn on s2' hN
    refine ⟨x1, x2, τ, ?_, g2, fun o c ho hc => ?_⟩
    · show f_X2_followOtherOwners_L7 ys ns cn on (nI (k + 1)) (nI (sp a)) (lo3 _ f) v2 v3 (nI 6) = _
      rw [f_X2_followOtherOwners_L7, if_pos (show (6 : Int32) ≤ nI 6 from by decide)]
      exact g1
    · rw [g3 o c ho hc]
      exact app_r (σ := s2') (τ := s2') eqR.rf (fun x c' _ _ => ⟨fun h => h.2, fun h => ⟨Nat.zero_le _, h⟩⟩) o c ho hc
  | succ d ih =>
    intro j fuel h1 h2 v2 v3 ha
    obtain ⟨f, rfl⟩ : ∃ f, fuel = f + 1 := ⟨fuel - 1, by omega⟩
    have hj : j < 6 := by omega
    have hhead : lo3 (f_X2_followOtherOwners_L7 ys ns cn on (nI (k + 1)) (nI (sp a))) (f + 1) v2 v3 (nI j) = f_X2_followOtherOwners_L7 ys ns cn on (nI (k + 1)) (nI (sp a)) (lo3 (f_X2_followOtherOwners_L7 ys ns cn on (nI (k + 1)) (nI (sp a))) f) v2 v3 (nI j) := rfl
    rw [hhead, f_X2_followOtherOwners_L7, if_neg (show ¬ (6 : Int32) ≤ nI j from nle (a := 6) (by decide) (by omega) hj), of_ok hj, ob1_r rfl]
    unfold lt'
    dsimp only
    rw [ob1_r rfl, nI_1]
    exact ih (j + 1) f (by omega) (by omega) _ _ (acc_step ha (hy j hj).1 (hy j hj).2)
theorem oth_ok {a : Sh} (hw : WF a) {t : Prop} {Y N : Mk} {k : Nat} (hk : k + 1 < 1000) {T3 T4 : Gh} {ys ns cn on : Nat → Int32} (hy : MB Y ys) (hown : ∀ o c, o < 6 → c < 18 → Y o c = true → own a o) {s2' : Gh} (hN : RC t N s2' k T3 T4 ns cn on) : ∃ cn' on' τ, f_X2_followOtherOwners ys ns cn on (nI (k + 1)) (nI (sp a)) = some (cn', on') ∧ RC t N τ k T3 T4 ns cn' on' ∧ eqR τ (app s2' N 2 (s2 a Y)) :=
  oth_acc hw hk hy hown hN 6 0 FU rfl (by decide) 0 0 acc_0
/-! ===== rule 3, the class ===== -/
theorem las_in {a : Sh} (hw : WF a) {t : Prop} {Y N : Mk} {k : Nat} (hk : k + 1 < 1000) {T1 T2 : Gh} {ys ns : Nat → Int32} (hn : MB N ns) {v2 v3 : Int32} (ha : acc (fun c o => fre a ns c o) 6 v2 v3) : ∀ (d j fuel : Nat), j + d = 6 → d < fuel → ∀ (cy oy : Nat → Int32) (s1' : Gh), RC t Y s1' k T1 T2 ys cy oy →
    ∃ cy' oy' τ, lo3 (f_X2_followLastOwner_L60 ys (nI (k + 1)) ns (nI (sp a)) v2 v3) fuel (nI j) cy oy = some (cy', oy') ∧ RC t Y τ k T1 T2 ys cy' oy' ∧ eqR τ (app s1' Y 3 (fun x c => j ≤ x ∧ s3 a N x c)) := by
  intro d
  induction d with
  | zero =>
    intro j fuel h1 h2 cy oy σ hY
    obtain ⟨f, rfl⟩ : ∃ f, fuel = f + 1 := ⟨fuel - 1, by omega⟩
    have hj : j = 6 := by omega
    subst hj
    refine ⟨cy, oy, σ, ?_, hY, ?_⟩
    · show f_X2_followLastOwner_L60 ys (nI (k + 1)) ns (nI (sp a)) v2 v3 (lo3 _ f) (nI 6) cy oy = _
      rw [f_X2_followLastOwner_L60, if_pos (show (6 : Int32) ≤ nI 6 from by decide)]
    · exact fun o c ho hc => (ifp_f (fun q => by have := q.2.2.1; omega)).symm
  | succ d ih =>
    intro j fuel h1 h2 cy oy σ hY
    obtain ⟨f, rfl⟩ : ∃ f, fuel = f + 1 := ⟨fuel - 1, by omega⟩
    have hj : j < 6 := by omega
    have hhead : lo3 (f_X2_followLastOwner_L60 ys (nI (k + 1)) ns (nI (sp a)) v2 v3) (f + 1) (nI j) cy oy = f_X2_followLastOwner_L60 ys (nI (k + 1)) ns (nI (sp a)) v2 v3 (lo3 (f_X2_followLastOwner_L60 ys (nI (k + 1)) ns (nI (sp a)) v2 v3) f) (nI j) cy oy := rfl
    rw [hhead, f_X2_followLastOwner_L60, if_neg (show ¬ (6 : Int32) ≤ nI j from nle (a := 6) (by decide) (by omega) hj)]
    rcases Classical.em (own a j) with w | w
    · rw [ob1_r (hasOw_y hw w), if_neg (by decide), ob1_r (of_ok hj)]
      have hm : M18 ((v2 &&& (v3 ^^^ (-1 : Int32))) &&& (ns j ^^^ (-1 : Int32))) := m18_and (m18_and ha.1)
      obtain ⟨b1, b2, b3, b4⟩ := add_rc hY hj hm hk (r := 3) (by decide) (by decide) (rl := 3) rfl
      rw [ob2_r b3, nI_1]
      obtain ⟨x1, x2, τ, g1, g2, g3⟩ := ih (j + 1) f (by omega) (by omega) b1 b2 _ b4
      refine ⟨x1, x2, τ, g1, g2, fun o c ho hc => ?_⟩
      rw [g3 o c ho hc, app_or (by decide)]
      refine app_r (σ := σ) (τ := σ) eqR.rf (fun x c' hx hc' => ?_) o c ho hc
      have hb : bt ((v2 &&& (v3 ^^^ (-1 : Int32))) &&& (ns j ^^^ (-1 : Int32))) c' = true ↔ s3 a N j c' := by
        rw [b_andnot (m18_and ha.1), b_andnot ha.1, (ha.2.2 c' hc').1, (ha.2.2 c' hc').2]
        have e1 : ((decide (1 ≤ fb_ct (fre a ns c') 6) && !decide (2 ≤ fb_ct (fre a ns c') 6)) && !bt (ns j) c') = true ↔ fb_ct (fre a ns c') 6 = 1 ∧ bt (ns j) c' = false := by
          cases bt (ns j) c' <;> simp
          omega
        show ((decide (1 ≤ fb_ct (fre a ns c') 6) && !decide (2 ≤ fb_ct (fre a ns c') 6)) && !bt (ns j) c') = true ↔ _
        rw [e1, ct_one]
        constructor
        · rintro ⟨⟨i, h3, h4, h5⟩, h6⟩
          have hji := h5 j hj (by unfold fre; rw [pd_t.mpr w, h6]; rfl)
          refine ⟨w, by rw [← (hn j hj).2 c' hc']; exact h6, fun o' ho' hne hw' => ?_⟩
          rw [← (hn o' ho').2 c' hc']
          cases e2 : bt (ns o') c'
          · have := h5 o' ho' (by unfold fre; rw [pd_t.mpr hw', e2]; rfl)
            omega
          · rfl
        · rintro ⟨h3, h4, h5⟩
          have h6 : bt (ns j) c' = false := by rw [(hn j hj).2 c' hc']; exact h4
          refine ⟨⟨j, hj, by unfold fre; rw [pd_t.mpr w, h6]; rfl, fun o' ho' hp => ?_⟩, h6⟩
          unfold fre at hp
          rw [Bool.and_eq_true, pd_t, (hn o' ho').2 c' hc'] at hp
          apply Classical.byContradiction
          intro hne
          rw [h5 o' ho' hne hp.1] at hp
          exact Bool.noConfusion hp.2
      constructor
      · rintro (⟨h, h'⟩ | ⟨h, h'⟩)
        · subst h
          exact ⟨Nat.le_refl _, hb.mp h'⟩
        · exact ⟨by omega, h'⟩
      · rintro ⟨h, h'⟩
        rcases Nat.lt_or_ge j x with u | u
        · exact Or.inr ⟨u, h'⟩
        · have : x = j := by omega
          subst this
          exact Or.inl ⟨rfl, hb.mpr h'⟩
    · rw [ob1_r (hasOw_n hw (by omega) w), if_pos rfl, nI_1]
      obtain ⟨x1, x2, τ, g1, g2, g3⟩ := ih (j + 1) f (by omega) (by omega) cy oy _ hY
      refine ⟨x1, x2, τ, g1, g2, fun o c ho hc => ?_⟩
      rw [g3 o c ho hc]
      refine app_r (σ := σ) (τ := σ) eqR.rf (fun x c' hx hc' => ⟨fun h => ⟨by omega, h.2⟩, fun h => ⟨?_, h.2⟩⟩) o c ho hc
      rcases Nat.lt_or_ge j x with u | u
      · exact u
      · have : x = j := by omega
        subst this
        exact absurd h.2.1 w
theorem las_acc {a : Sh} (hw : WF a) {t : Prop} {Y N : Mk} {k : Nat} (hk : k + 1 < 1000) {T1 T2 : Gh} {ys ns cy oy : Nat → Int32} (hn : MB N ns) {s1' : Gh} (hY : RC t Y s1' k T1 T2 ys cy oy) : ∀ (d j fuel : Nat), j + d = 6 → d < fuel → ∀ (v2 v3 : Int32), acc (fun c o => fre a ns c o) j v2 v3 →
    ∃ cy' oy' τ, lo3 (f_X2_followLastOwner_L7 ys cy oy (nI (k + 1)) ns (nI (sp a))) fuel v2 v3 (nI j) = some (cy', oy') ∧ RC t Y τ k T1 T2 ys cy' oy' ∧ eqR τ (app s1' Y 3 (s3 a N)) := by
  intro d
  induction d with
  | zero =>
    intro j fuel h1 h2 v2 v3 ha
    obtain ⟨f, rfl⟩ : ∃ f, fuel = f + 1 := ⟨fuel - 1, by omega⟩
    have hj : j = 6 := by omega
    subst hj
    obtain ⟨x1, x2, τ, g1, g2, g3⟩ := las_in hw hk (ys := ys) hn ha 6 0 FU rfl (by decide) cy oy s1' hY
    refine ⟨x1, x2, τ, ?_, g2, fun o c ho hc => ?_⟩
    · show f_X2_followLastOwner_L7 ys cy oy (nI (k + 1)) ns (nI (sp a)) (lo3 _ f) v2 v3 (nI 6) = _
      rw [f_X2_followLastOwner_L7, if_pos (show (6 : Int32) ≤ nI 6 from by decide)]
      exact g1
    · rw [g3 o c ho hc]
      exact app_r (σ := s1') (τ := s1') eqR.rf (fun x c' _ _ => ⟨fun h => h.2, fun h => ⟨Nat.zero_le _, h⟩⟩) o c ho hc
  | succ d ih =>
    intro j fuel h1 h2 v2 v3 ha
    obtain ⟨f, rfl⟩ : ∃ f, fuel = f + 1 := ⟨fuel - 1, by omega⟩
    have hj : j < 6 := by omega
    have hhead : lo3 (f_X2_followLastOwner_L7 ys cy oy (nI (k + 1)) ns (nI (sp a))) (f + 1) v2 v3 (nI j) = f_X2_followLastOwner_L7 ys cy oy (nI (k + 1)) ns (nI (sp a)) (lo3 (f_X2_followLastOwner_L7 ys cy oy (nI (k + 1)) ns (nI (sp a))) f) v2 v3 (nI j) := rfl
    rw [hhead, f_X2_followLastOwner_L7, if_neg (show ¬ (6 : Int32) ≤ nI j from nle (a := 6) (by decide) (by omega) hj)]
    rcases Classical.em (own a j) with w | w
    · rw [ob1_r (hasOw_y hw w), if_neg (by decide), of_ok hj, ob1_r rfl]
      unfold lt'
      dsimp only
      rw [nI_1]
      refine ih (j + 1) f (by omega) (by omega) _ _ (acc_step ha (m18_and m18_all) (fun c hc => ?_))
      rw [b_andnot m18_all, b_all c hc, Bool.true_and]
      show _ = (pd (own a j) && !bt (ns j) c)
      rw [pd_t.mpr w, Bool.true_and]
    · rw [ob1_r (hasOw_n hw (by omega) w), if_pos rfl, nI_1]
      refine ih (j + 1) f (by omega) (by omega) _ _ (acc_skip ha (fun c hc => ?_))
      show (pd (own a j) && !bt (ns j) c) = false
      rw [pd_f.mpr w, Bool.false_and]
theorem las_ok {a : Sh} (hw : WF a) {t : Prop} {Y N : Mk} {k : Nat} (hk : k + 1 < 1000) {T1 T2 : Gh} {ys ns cy oy : Nat → Int32} (hn : MB N ns) {s1' : Gh} (hY : RC t Y s1' k T1 T2 ys cy oy) : ∃ cy' oy' τ, f_X2_followLastOwner ys cy oy (nI (k + 1)) ns (nI (sp a)) = some (cy', oy') ∧ RC t Y τ k T1 T2 ys cy' oy' ∧ eqR τ (app s1' Y 3 (s3 a N)) :=
  las_acc hw hk hn hY 6 0 FU rfl (by decide) 0 0 acc_0

