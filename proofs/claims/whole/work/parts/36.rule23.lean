/-! ===== rules 2 and 3, the reference ===== -/
def R2 (a : Sh) (yt : Nat → Int32) : Nat → Nat → Prop := fun x c => own a x ∧ ∃ o, o < 6 ∧ o ≠ x ∧ own a o ∧ bt (yt o) c = true
def R3 (a : Sh) (nt : Nat → Int32) : Nat → Nat → Prop := fun x c => own a x ∧ bt (nt x) c = false ∧ ∀ o, o < 6 → o ≠ x → own a o → bt (nt o) c = true
theorem own6 {a : Sh} (hw : WF a) {o : Nat} (h : own a o) : o < 6 := by
  have := hw.2.1
  rcases h with h | h <;> omega
theorem one2 {a : Sh} (hw : WF a) {z : Nat → Int32} (hz : RZ z a) {N : Mk} {k : Nat} {T3 T4 : Gh} {yt : Nat → Int32} (hy : ∀ o, o < 6 → M18 (yt o)) {s1 : Gh} {rec : Int32 → (Nat → Int32) → (Nat → Int32) → (Nat → Int32) → Int32 → Option ((Nat → Int32) × (Nat → Int32) × (Nat → Int32) × Int32)} {o : Nat} (ho : o < 6) :
    ∀ (d j fuel : Nat), j + d = 6 → d < fuel → ∀ (no nR nL : Nat → Int32) (q : Int32) (s2 : Gh), RX N s2 k T3 T4 no nR nL → IM q s1 s2 →
    ∃ no' nR' nL' q', lo5 (f_X6_byOneOwner_L10 z yt (nI k) rec (nI o)) fuel (nI j) no nR nL q = rec (nI (o + 1)) no' nR' nL' q' ∧ RX N (app s2 N 2 (fun x c => j ≤ x ∧ own a x ∧ o ≠ x ∧ own a o ∧ bt (yt o) c = true)) k T3 T4 no' nR' nL' ∧ IM q' s1 (app s2 N 2 (fun x c => j ≤ x ∧ own a x ∧ o ≠ x ∧ own a o ∧ bt (yt o) c = true)) := by
  intro d
  induction d with
  | zero =>
    intro j fuel h1 h2 no nR nL q s2 hN hi
    obtain ⟨f, rfl⟩ : ∃ f, fuel = f + 1 := ⟨fuel - 1, by omega⟩
    have hj : j = 6 := by omega
    subst hj
    refine ⟨no, nR, nL, q, ?_, ?_⟩
    · show f_X6_byOneOwner_L10 z yt (nI k) rec (nI o) (lo5 _ f) (nI 6) no nR nL q = _
      rw [f_X6_byOneOwner_L10, if_pos (show (6 : Int32) ≤ nI 6 from by decide), nI_1]
    · rw [app_no (fun x c h => by have := own6 hw h.2.1; omega)]
      exact ⟨hN, hi⟩
  | succ d ih =>
    intro j fuel h1 h2 no nR nL q s2 hN hi
    obtain ⟨f, rfl⟩ : ∃ f, fuel = f + 1 := ⟨fuel - 1, by omega⟩
    have hj : j < 6 := by omega
    have hhead : lo5 (f_X6_byOneOwner_L10 z yt (nI k) rec (nI o)) (f + 1) (nI j) no nR nL q = f_X6_byOneOwner_L10 z yt (nI k) rec (nI o) (lo5 (f_X6_byOneOwner_L10 z yt (nI k) rec (nI o)) f) (nI j) no nR nL q := rfl
    rw [hhead, f_X6_byOneOwner_L10, if_neg (show ¬ (6 : Int32) ≤ nI j from nle (a := 6) (by decide) (by omega) hj)]
    have skip : (∀ c, ¬ (own a j ∧ o ≠ j ∧ own a o ∧ bt (yt o) c = true)) → app s2 N 2 (fun x c => j + 1 ≤ x ∧ own a x ∧ o ≠ x ∧ own a o ∧ bt (yt o) c = true) = app s2 N 2 (fun x c => j ≤ x ∧ own a x ∧ o ≠ x ∧ own a o ∧ bt (yt o) c = true) := fun h => app_c fun x c => ⟨fun g => ⟨by omega, g.2⟩, fun g => ⟨by
      rcases Nat.lt_or_ge j x with w | w
      · exact w
      · have : x = j := by omega
        subst this
        exact absurd g.2 (h c), g.2⟩⟩
    have hrest := ih (j + 1) f (by omega) (by omega) no nR nL q s2 hN hi
    rcases Nat.decEq o j with e | e
    · rw [if_neg (show ¬ nI o = nI j from fun h => e ((i_eq (by omega) (by omega)).mp h))]
      rcases Classical.em (own a o) with w | w
      · rw [ob1_r (isOw_y hz hw w), if_neg (by decide)]
        rcases Classical.em (own a j) with w2 | w2
        · rw [ob1_r (isOw_y hz hw w2), if_neg (by decide), gd_r (vp_in_nI ho (by decide)), i_cl (by omega)]
          obtain ⟨x', xR', xL', q1, b1, b2, b3⟩ := giveN_rx hN hi hj (hy o ho) (r := 2) (by decide) (rl := 2) rfl
          rw [ob4_r b1, nI_1]
          obtain ⟨n', a1, a2, q', g1, g2, g3⟩ := ih (j + 1) f (by omega) (by omega) x' xR' xL' q1 _ b2 b3
          have c2 : app (app s2 N 2 (one j (yt o))) N 2 (fun x c => j + 1 ≤ x ∧ own a x ∧ o ≠ x ∧ own a o ∧ bt (yt o) c = true) = app s2 N 2 (fun x c => j ≤ x ∧ own a x ∧ o ≠ x ∧ own a o ∧ bt (yt o) c = true) := by
            rw [app_or (by decide)]
            refine app_c fun x c => ⟨fun h => ?_, fun g => ?_⟩
            · rcases h with ⟨h, h'⟩ | h
              · subst h
                exact ⟨Nat.le_refl _, w2, e, w, h'⟩
              · exact ⟨by omega, h.2⟩
            · rcases Nat.lt_or_ge j x with z | z
              · exact Or.inr ⟨z, g.2⟩
              · exact Or.inl ⟨by omega, g.2.2.2.2⟩
          rw [c2] at g2 g3
          exact ⟨n', a1, a2, q', g1, g2, g3⟩
        · rw [ob1_r (isOw_n hz hw (by omega) w2), if_pos rfl, nI_1]
          rw [skip (fun c g => w2 g.1)] at hrest
          exact hrest
      · rw [ob1_r (isOw_n hz hw (by omega) w), if_pos rfl, nI_1]
        rw [skip (fun c g => w g.2.2.1)] at hrest
        exact hrest
    · rw [if_pos (by rw [e]), nI_1]
      rw [skip (fun c g => g.2.1 e)] at hrest
      exact hrest
theorem one1 {a : Sh} (hw : WF a) {z : Nat → Int32} (hz : RZ z a) {N : Mk} {k : Nat} {T3 T4 : Gh} {yt : Nat → Int32} (hy : ∀ o, o < 6 → M18 (yt o)) {s1 : Gh} :
    ∀ (d o fuel : Nat), o + d = 6 → d < fuel → ∀ (no nR nL : Nat → Int32) (q : Int32) (s2 : Gh), RX N s2 k T3 T4 no nR nL → IM q s1 s2 →
    ∃ no' nR' nL' q', lo5 (f_X6_byOneOwner_L2 z yt (nI k)) fuel (nI o) no nR nL q = some (no', nR', nL', q') ∧ RX N (app s2 N 2 (fun x c => own a x ∧ ∃ o', o ≤ o' ∧ o' < 6 ∧ o' ≠ x ∧ own a o' ∧ bt (yt o') c = true)) k T3 T4 no' nR' nL' ∧ IM q' s1 (app s2 N 2 (fun x c => own a x ∧ ∃ o', o ≤ o' ∧ o' < 6 ∧ o' ≠ x ∧ own a o' ∧ bt (yt o') c = true)) := by
  intro d
  induction d with
  | zero =>
    intro o fuel h1 h2 no nR nL q s2 hN hi
    obtain ⟨f, rfl⟩ : ∃ f, fuel = f + 1 := ⟨fuel - 1, by omega⟩
    have ho : o = 6 := by omega
    subst ho
    refine ⟨no, nR, nL, q, ?_, ?_⟩
    · show f_X6_byOneOwner_L2 z yt (nI k) (lo5 _ f) (nI 6) no nR nL q = _
      rw [f_X6_byOneOwner_L2, if_pos (show (6 : Int32) ≤ nI 6 from by decide)]
    · rw [app_no (fun x c ⟨_, o', h, h', _⟩ => by omega)]
      exact ⟨hN, hi⟩
  | succ d ih =>
    intro o fuel h1 h2 no nR nL q s2 hN hi
    obtain ⟨f, rfl⟩ : ∃ f, fuel = f + 1 := ⟨fuel - 1, by omega⟩
    have ho : o < 6 := by omega
    have hhead : lo5 (f_X6_byOneOwner_L2 z yt (nI k)) (f + 1) (nI o) no nR nL q = f_X6_byOneOwner_L2 z yt (nI k) (lo5 (f_X6_byOneOwner_L2 z yt (nI k)) f) (nI o) no nR nL q := rfl
    rw [hhead, f_X6_byOneOwner_L2, if_neg (show ¬ (6 : Int32) ≤ nI o from nle (a := 6) (by decide) (by omega) ho)]
    obtain ⟨n1, b1, b2, q1, g1, g2, g3⟩ := one2 hw hz hy ho (rec := lo5 (f_X6_byOneOwner_L2 z yt (nI k)) f) 6 0 FU rfl (by decide) no nR nL q s2 hN hi
    rw [show (0 : Int32) = nI 0 from rfl, g1]
    obtain ⟨n2, b3, b4, q2, g4, g5, g6⟩ := ih (o + 1) f (by omega) (by omega) n1 b1 b2 q1 _ g2 g3
    rw [app_or (by decide)] at g5 g6
    have c2 : app s2 N 2 (fun x c => (0 ≤ x ∧ own a x ∧ o ≠ x ∧ own a o ∧ bt (yt o) c = true) ∨ (own a x ∧ ∃ o', o + 1 ≤ o' ∧ o' < 6 ∧ o' ≠ x ∧ own a o' ∧ bt (yt o') c = true)) = app s2 N 2 (fun x c => own a x ∧ ∃ o', o ≤ o' ∧ o' < 6 ∧ o' ≠ x ∧ own a o' ∧ bt (yt o') c = true) := app_c fun x c => ⟨fun h => by
      rcases h with ⟨_, h3, h4, h5, h6⟩ | ⟨h3, o', h4, h5⟩
      · exact ⟨h3, o, Nat.le_refl _, ho, h4, h5, h6⟩
      · exact ⟨h3, o', by omega, h5⟩, fun ⟨h3, o', h4, h5, h6⟩ => by
      rcases Nat.lt_or_ge o o' with w | w
      · exact Or.inr ⟨h3, o', w, h5, h6⟩
      · have : o' = o := by omega
        subst this
        exact Or.inl ⟨Nat.zero_le _, h3, h6⟩⟩
    rw [c2] at g5 g6
    exact ⟨n2, b3, b4, q2, g4, g5, g6⟩
theorem byOne_ok {a : Sh} (hw : WF a) {z : Nat → Int32} (hz : RZ z a) {N : Mk} {k : Nat} {T3 T4 : Gh} {yt : Nat → Int32} (hy : ∀ o, o < 6 → M18 (yt o)) {s1 s2 : Gh} {no nR nL : Nat → Int32} {q : Int32} (hN : RX N s2 k T3 T4 no nR nL) (hi : IM q s1 s2) :
    ∃ no' nR' nL' q', f_X6_byOneOwner z no yt nR nL (nI k) q = some (no', nR', nL', q') ∧ RX N (app s2 N 2 (R2 a yt)) k T3 T4 no' nR' nL' ∧ IM q' s1 (app s2 N 2 (R2 a yt)) := by
  obtain ⟨n2, b3, b4, q2, g4, g5, g6⟩ := one1 hw hz hy 6 0 FU rfl (by decide) no nR nL q s2 hN hi
  have c2 : app s2 N 2 (fun x c => own a x ∧ ∃ o', 0 ≤ o' ∧ o' < 6 ∧ o' ≠ x ∧ own a o' ∧ bt (yt o') c = true) = app s2 N 2 (R2 a yt) := app_c fun x c => ⟨fun ⟨h, o, _, h2⟩ => ⟨h, o, h2⟩, fun ⟨h, o, h2⟩ => ⟨h, o, Nat.zero_le _, h2⟩⟩
  rw [c2] at g5 g6
  exact ⟨n2, b3, b4, q2, g4, g5, g6⟩
/-- just one below n -/
theorem ct_one {p : Nat → Bool} : ∀ {n : Nat}, fb_ct p n = 1 ↔ ∃ i, i < n ∧ p i = true ∧ ∀ j, j < n → p j = true → j = i
  | 0 => ⟨fun h => absurd (show (0 : Nat) = 1 from h) (by decide), fun ⟨i, h, _⟩ => absurd h (Nat.not_lt_zero i)⟩
  | n + 1 => by
    rw [fb_ct_succ]
    cases e : p n
    · rw [if_neg (by decide), Nat.add_zero, ct_one (n := n)]
      constructor
      · rintro ⟨i, h1, h2, h3⟩
        refine ⟨i, by omega, h2, fun j hj hp => ?_⟩
        rcases Nat.lt_or_ge j n with w | w
        · exact h3 j w hp
        · have : j = n := by omega
          subst this
          rw [e] at hp
          cases hp
      · rintro ⟨i, h1, h2, h3⟩
        refine ⟨i, ?_, h2, fun j hj hp => h3 j (by omega) hp⟩
        rcases Nat.lt_or_ge i n with w | w
        · exact w
        · have : i = n := by omega
          subst this
          rw [e] at h2
          cases h2
    · rw [if_pos rfl]
      constructor
      · intro h
        have hz : fb_ct p n = 0 := by omega
        refine ⟨n, by omega, e, fun j hj hp => ?_⟩
        rcases Nat.lt_or_ge j n with w | w
        · rw [fb_ct_zero.mp hz j w] at hp
          cases hp
        · omega
      · rintro ⟨i, h1, h2, h3⟩
        have hin : n = i := h3 n (by omega) e
        have hz : fb_ct p n = 0 := fb_ct_zero.mpr fun j hj => by
          cases e2 : p j
          · rfl
          · have := h3 j (by omega) e2
            omega
        omega
noncomputable def fre (a : Sh) (nt : Nat → Int32) (c : Nat) (o : Nat) : Bool := pd (own a o) && !bt (nt o) c
theorem last3 {a : Sh} (hw : WF a) {z : Nat → Int32} (hz : RZ z a) {Y : Mk} {k : Nat} {T1 T2 : Gh} {nt : Nat → Int32} (hn : ∀ o, o < 6 → M18 (nt o)) {s2 : Gh} {rec : Int32 → (Nat → Int32) → (Nat → Int32) → (Nat → Int32) → Int32 → Option ((Nat → Int32) × (Nat → Int32) × (Nat → Int32) × Int32)} {c : Nat} (hc : c < 18) {yes yR yL : Nat → Int32} {q : Int32} {s1 : Gh} (hY : RX Y s1 k T1 T2 yes yR yL) (hi : IM q s1 s2) :
    ∀ (d j fuel : Nat), j + d = 6 → d < fuel → ∀ (last : Int32), (fb_ct (fre a nt c) j = 1 → ∃ o, o < j ∧ fre a nt c o = true ∧ last = nI o) →
    ∃ yes' yR' yL' q', lo3 (f_X6_byLastOwner_L16 z nt (nI k) rec (nI c) yes yR yL q) fuel (nI (fb_ct (fre a nt c) j)) last (nI j) = rec (nI (c + 1)) yes' yR' yL' q' ∧ RX Y (app s1 Y 3 (fun x c' => c' = c ∧ x < 6 ∧ R3 a nt x c')) k T1 T2 yes' yR' yL' ∧ IM q' (app s1 Y 3 (fun x c' => c' = c ∧ x < 6 ∧ R3 a nt x c')) s2 := by
  intro d
  induction d with
  | zero =>
    intro j fuel h1 h2 last hl
    obtain ⟨f, rfl⟩ : ∃ f, fuel = f + 1 := ⟨fuel - 1, by omega⟩
    have hj : j = 6 := by omega
    subst hj
    have hle : fb_ct (fre a nt c) 6 ≤ 6 := fb_ct_le _ _
    have hhead : lo3 (f_X6_byLastOwner_L16 z nt (nI k) rec (nI c) yes yR yL q) (f + 1) (nI (fb_ct (fre a nt c) 6)) last (nI 6) = f_X6_byLastOwner_L16 z nt (nI k) rec (nI c) yes yR yL q (lo3 (f_X6_byLastOwner_L16 z nt (nI k) rec (nI c) yes yR yL q) f) (nI (fb_ct (fre a nt c) 6)) last (nI 6) := rfl
    rw [hhead, f_X6_byLastOwner_L16, if_pos (show (6 : Int32) ≤ nI 6 from by decide)]
    rcases Nat.decEq (fb_ct (fre a nt c) 6) 1 with e | e
    · rw [if_neg (show ¬ nI (fb_ct (fre a nt c) 6) = (1 : Int32) from fun h => e ((i_eq (b := 1) (by omega) (by decide)).mp h)), nI_1]
      refine ⟨yes, yR, yL, q, rfl, ?_⟩
      rw [app_no]
      · exact ⟨hY, hi⟩
      · rintro x c' ⟨rfl, hx, h3, h4, h5⟩
        refine e (ct_one.mpr ⟨x, hx, by unfold fre; rw [pd_t.mpr h3, h4]; rfl, fun o ho hp => ?_⟩)
        unfold fre at hp
        rw [Bool.and_eq_true, pd_t] at hp
        apply Classical.byContradiction
        intro hne
        have := h5 o ho hne hp.1
        rw [this] at hp
        exact Bool.noConfusion hp.2
    · rw [if_pos (show nI (fb_ct (fre a nt c) 6) = (1 : Int32) from by rw [e]; rfl)]
      obtain ⟨o, ho, hp, rfl⟩ := hl e
      obtain ⟨y1, b1, b2, q1, g1, g2, g3⟩ := giveY_rx hY hi ho (m18_one c hc) (r := 3) (by decide) (rl := 3) rfl
      rw [ob4_r g1, nI_1]
      have c2 : app s1 Y 3 (one o ((1 : Int32) <<< (nI c &&& 31))) = app s1 Y 3 (fun x c' => c' = c ∧ x < 6 ∧ R3 a nt x c') := app_c fun x c' => by
        unfold one
        rw [b_one' _ hc, decide_eq_true_eq]
        have hp' := hp
        unfold fre at hp'
        rw [Bool.and_eq_true, pd_t, Bool.not_eq_true'] at hp'
        obtain ⟨i, hi1, hi2, hi3⟩ := ct_one.mp e
        have hoi := hi3 o ho hp
        constructor
        · rintro ⟨rfl, rfl⟩
          refine ⟨rfl, ho, hp'.1, hp'.2, fun o' ho' hne hw' => ?_⟩
          cases e2 : bt (nt o') c'
          · have := hi3 o' ho' (by unfold fre; rw [pd_t.mpr hw', e2]; rfl)
            omega
          · rfl
        · rintro ⟨rfl, hx, h3, h4, h5⟩
          have := hi3 x hx (by unfold fre; rw [pd_t.mpr h3, h4]; rfl)
          exact ⟨by omega, rfl⟩
      rw [c2] at g2 g3
      exact ⟨y1, b1, b2, q1, rfl, g2, g3⟩
  | succ d ih =>
    intro j fuel h1 h2 last hl
    obtain ⟨f, rfl⟩ : ∃ f, fuel = f + 1 := ⟨fuel - 1, by omega⟩
    have hj : j < 6 := by omega
    have hle : fb_ct (fre a nt c) j ≤ j := fb_ct_le _ _
    have hhead : lo3 (f_X6_byLastOwner_L16 z nt (nI k) rec (nI c) yes yR yL q) (f + 1) (nI (fb_ct (fre a nt c) j)) last (nI j) = f_X6_byLastOwner_L16 z nt (nI k) rec (nI c) yes yR yL q (lo3 (f_X6_byLastOwner_L16 z nt (nI k) rec (nI c) yes yR yL q) f) (nI (fb_ct (fre a nt c) j)) last (nI j) := rfl
    rw [hhead, f_X6_byLastOwner_L16, if_neg (show ¬ (6 : Int32) ≤ nI j from nle (a := 6) (by decide) (by omega) hj)]
    have keep : fre a nt c j = false → ∃ yes' yR' yL' q', lo3 (f_X6_byLastOwner_L16 z nt (nI k) rec (nI c) yes yR yL q) f (nI (fb_ct (fre a nt c) j)) last (nI j + 1) = rec (nI (c + 1)) yes' yR' yL' q' ∧ RX Y (app s1 Y 3 (fun x c' => c' = c ∧ x < 6 ∧ R3 a nt x c')) k T1 T2 yes' yR' yL' ∧ IM q' (app s1 Y 3 (fun x c' => c' = c ∧ x < 6 ∧ R3 a nt x c')) s2 := by
      intro e
      have e1 : fb_ct (fre a nt c) (j + 1) = fb_ct (fre a nt c) j := by rw [fb_ct_succ, e]; rfl
      have := ih (j + 1) f (by omega) (by omega) last (fun h => by
        obtain ⟨o, h3, h4⟩ := hl (by rw [e1] at h; exact h)
        exact ⟨o, by omega, h4⟩)
      rw [e1] at this
      rw [nI_1]
      exact this
    rcases Classical.em (own a j) with w | w
    · rw [ob1_r (isOw_y hz hw w), if_neg (by decide), gd_r (vp_in_nI hj (by decide)), i_cl (by omega)]
      cases e : bt (nt j) c
      · rw [if_pos ((b_test0 (hn j hj) hc).mpr e)]
        have ef : fre a nt c j = true := by unfold fre; rw [pd_t.mpr w, e]; rfl
        have e1 : fb_ct (fre a nt c) (j + 1) = fb_ct (fre a nt c) j + 1 := by rw [fb_ct_succ, ef]; rfl
        unfold lt'
        dsimp only
        rw [nI_1, nI_1, ← e1]
        exact ih (j + 1) f (by omega) (by omega) (nI j) (fun _ => ⟨j, by omega, ef, rfl⟩)
      · rw [if_neg (fun h => by rw [(b_test0 (hn j hj) hc).mp h] at e; cases e)]
        exact keep (by unfold fre; rw [e, Bool.not_true, Bool.and_false])
    · rw [ob1_r (isOw_n hz hw (by omega) w), if_pos rfl]
      exact keep (by unfold fre; rw [pd_f.mpr w]; rfl)
theorem last1 {a : Sh} (hw : WF a) {z : Nat → Int32} (hz : RZ z a) {Y : Mk} {k : Nat} {T1 T2 : Gh} {nt : Nat → Int32} (hn : ∀ o, o < 6 → M18 (nt o)) {s2 : Gh} :
    ∀ (d c fuel : Nat), c + d = 18 → d < fuel → ∀ (yes yR yL : Nat → Int32) (q : Int32) (s1 : Gh), RX Y s1 k T1 T2 yes yR yL → IM q s1 s2 →
    ∃ yes' yR' yL' q', lo5 (f_X6_byLastOwner_L2 z nt (nI k)) fuel (nI c) yes yR yL q = some (yes', yR', yL', q') ∧ RX Y (app s1 Y 3 (fun x c' => c ≤ c' ∧ c' < 18 ∧ x < 6 ∧ R3 a nt x c')) k T1 T2 yes' yR' yL' ∧ IM q' (app s1 Y 3 (fun x c' => c ≤ c' ∧ c' < 18 ∧ x < 6 ∧ R3 a nt x c')) s2 := by
  intro d
  induction d with
  | zero =>
    intro c fuel h1 h2 yes yR yL q s1 hY hi
    obtain ⟨f, rfl⟩ : ∃ f, fuel = f + 1 := ⟨fuel - 1, by omega⟩
    have hc : c = 18 := by omega
    subst hc
    refine ⟨yes, yR, yL, q, ?_, ?_⟩
    · show f_X6_byLastOwner_L2 z nt (nI k) (lo5 _ f) (nI 18) yes yR yL q = _
      rw [f_X6_byLastOwner_L2, if_pos (show (18 : Int32) ≤ nI 18 from by decide)]
    · rw [app_no (fun x c h => by omega)]
      exact ⟨hY, hi⟩
  | succ d ih =>
    intro c fuel h1 h2 yes yR yL q s1 hY hi
    obtain ⟨f, rfl⟩ : ∃ f, fuel = f + 1 := ⟨fuel - 1, by omega⟩
    have hc : c < 18 := by omega
    have hhead : lo5 (f_X6_byLastOwner_L2 z nt (nI k)) (f + 1) (nI c) yes yR yL q = f_X6_byLastOwner_L2 z nt (nI k) (lo5 (f_X6_byLastOwner_L2 z nt (nI k)) f) (nI c) yes yR yL q := rfl
    rw [hhead, f_X6_byLastOwner_L2, if_neg (show ¬ (18 : Int32) ≤ nI c from nle (a := 18) (by decide) (by omega) hc)]
    obtain ⟨y1, b1, b2, q1, g1, g2, g3⟩ := last3 hw hz hn (rec := lo5 (f_X6_byLastOwner_L2 z nt (nI k)) f) hc hY hi 6 0 FU rfl (by decide) (-6) (fun h => by cases h)
    rw [show (0 : Int32) = nI (fb_ct (fre a nt c) 0) from rfl, show lo3 (f_X6_byLastOwner_L16 z nt (nI k) (lo5 (f_X6_byLastOwner_L2 z nt (nI k)) f) (nI c) yes yR yL q) FU (nI (fb_ct (fre a nt c) 0)) (-6) (nI (fb_ct (fre a nt c) 0)) = _ from g1]
    obtain ⟨n2, b3, b4, q2, g4, g5, g6⟩ := ih (c + 1) f (by omega) (by omega) y1 b1 b2 q1 _ g2 g3
    rw [app_or (by decide)] at g5 g6
    have c2 : app s1 Y 3 (fun x c' => (c' = c ∧ x < 6 ∧ R3 a nt x c') ∨ (c + 1 ≤ c' ∧ c' < 18 ∧ x < 6 ∧ R3 a nt x c')) = app s1 Y 3 (fun x c' => c ≤ c' ∧ c' < 18 ∧ x < 6 ∧ R3 a nt x c') := app_c fun x c' => ⟨fun h => by
      rcases h with ⟨h3, h4⟩ | ⟨h3, h4⟩
      · exact ⟨by omega, by omega, h4⟩
      · exact ⟨by omega, h4⟩, fun ⟨h3, h4, h5⟩ => by
      rcases Nat.lt_or_ge c c' with w | w
      · exact Or.inr ⟨w, h4, h5⟩
      · exact Or.inl ⟨by omega, h5⟩⟩
    rw [c2] at g5 g6
    exact ⟨n2, b3, b4, q2, g4, g5, g6⟩
theorem byLast_ok {a : Sh} (hw : WF a) {z : Nat → Int32} (hz : RZ z a) {Y : Mk} {k : Nat} {T1 T2 : Gh} {nt : Nat → Int32} (hn : ∀ o, o < 6 → M18 (nt o)) {s1 s2 : Gh} {yes yR yL : Nat → Int32} {q : Int32} (hY : RX Y s1 k T1 T2 yes yR yL) (hi : IM q s1 s2) :
    ∃ yes' yR' yL' q', f_X6_byLastOwner z yes nt yR yL (nI k) q = some (yes', yR', yL', q') ∧ RX Y (app s1 Y 3 (fun x c => c < 18 ∧ R3 a nt x c)) k T1 T2 yes' yR' yL' ∧ IM q' (app s1 Y 3 (fun x c => c < 18 ∧ R3 a nt x c)) s2 := by
  obtain ⟨n2, b3, b4, q2, g4, g5, g6⟩ := last1 hw hz hn 18 0 FU rfl (by decide) yes yR yL q s1 hY hi
  have c2 : app s1 Y 3 (fun x c' => 0 ≤ c' ∧ c' < 18 ∧ x < 6 ∧ R3 a nt x c') = app s1 Y 3 (fun x c => c < 18 ∧ R3 a nt x c) := app_c fun x c => ⟨fun h => ⟨h.2.1, h.2.2.2⟩, fun h => ⟨Nat.zero_le _, h.1, own6 hw h.2.1, h.2⟩⟩
  rw [c2] at g5 g6
  exact ⟨n2, b3, b4, q2, g4, g5, g6⟩
