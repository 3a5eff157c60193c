/-! ===== rules 6, 7, the class ===== -/
theorem ct_three {a : Sh} (hw : WF a) {i : Nat} (hi : i < sn a) (hk : kd a i ≠ 0) : fb_ct (fun c => inF a i c) 18 = 3 := by
  obtain ⟨w1, w2, w3, w4, w5⟩ := hw.2.2.2 i hi
  obtain ⟨h1, h2, h3, h4, h5⟩ := w5 hk
  have s : ∀ y, y < 18 → fb_ct (fun c => decide (c = y)) 18 = 1 := fun y hy => ct_one.mpr ⟨y, hy, decide_eq_true rfl, fun j _ hj => of_decide_eq_true hj⟩
  have e : ∀ c, c < 18 → inF a i c = ((decide (c = ca a i) || decide (c = cb a i)) || decide (c = cc a i)) := fun c _ => by
    unfold inF
    rw [decide_eq_true hk, Bool.true_and, Bool.or_assoc]
  rw [fb_ct_cong e, fb_ct_or (p := fun c => decide (c = ca a i) || decide (c = cb a i)) (q := fun c => decide (c = cc a i)) (fun c hc => by simp; omega), fb_ct_or (p := fun c => decide (c = ca a i)) (q := fun c => decide (c = cb a i)) (fun c hc => by simp; omega), s _ w4, s _ (by omega), s _ h5]
theorem ct_split (p q : Nat → Bool) (n : Nat) : fb_ct (fun c => p c && q c) n + fb_ct (fun c => p c && !q c) n = fb_ct p n := by
  rw [← fb_ct_or (p := fun c => p c && q c) (q := fun c => p c && !q c) (fun c _ => by cases p c <;> cases q c <;> simp)]
  exact fb_ct_cong fun c _ => by cases p c <;> cases q c <;> rfl
theorem left_ok {a : Sh} (hw : WF a) {pl to : Int32} {ks os cs : Nat → Int32} (hf : RF pl to ks os cs a) {ys ns : Nat → Int32} {i : Nat} (hi : i < sn a) : f_X2_leftOfThree ys ns ks os cs (nI i) = some (cs i &&& ((if kd a i = 3 then ys (ow a i) else ns (ow a i)) ^^^ (-1 : Int32))) := by
  have hn := hw.2.2.1
  obtain ⟨w1, -⟩ := hw.2.2.2 i hi
  obtain ⟨e0, e1, e2, -⟩ := hf.2.2 i hi
  have g41 : ∀ {α : Type} (kk : Option α), gd (nI i) 41 kk = kk := fun kk => gd_r (vp_in_nI (by omega) (by decide))
  unfold f_X2_leftOfThree
  rw [g41, i_cl (by omega), e0]
  rcases Nat.decEq (kd a i) 3 with k3 | k3
  · rw [if_neg (show ¬ nI (kd a i) = (3 : Int32) from fun h => k3 ((i_eq (b := 3) (by omega) (by decide)).mp h)), g41, g41, e1, ob1_r (of_ok (ow6 hw hi)), if_neg k3]
  · rw [if_pos (show nI (kd a i) = (3 : Int32) from by rw [k3]; rfl), g41, g41, e1, ob1_r (of_ok (ow6 hw hi)), if_pos k3]
def PT (a : Sh) (K : Nat) (T : Nat → Int32) (j x c : Nat) : Prop := kd a j = K ∧ x = ow a j ∧ FT a T j c
theorem thr_go {a : Sh} (hw : WF a) {t : Prop} {pl to : Int32} {ks os cs : Nat → Int32} (hf : RF pl to ks os cs a) {Y N : Mk} {k : Nat} (hk : k + 1 < 1000) {T1 T2 T3 T4 : Gh} {ys ns : Nat → Int32} : ∀ (d i fuel : Nat), i + d = sn a → d < fuel → ∀ (cy oy cn on : Nat → Int32) (s1 s2 : Gh), RC t Y s1 k T1 T2 ys cy oy → RC t N s2 k T3 T4 ns cn on →
    ∃ cy' oy' cn' on', lo5 (f_X2_followThrees_L2 ys (nI (k + 1)) ns (nI (k + 1)) to ks os cs) fuel (nI i) cy oy cn on = some (cy', oy', cn', on') ∧ RC t Y (app s1 Y 6 (fun x c => ∃ j, i ≤ j ∧ j < sn a ∧ PT a 2 ns j x c)) k T1 T2 ys cy' oy' ∧ RC t N (app s2 N 7 (fun x c => ∃ j, i ≤ j ∧ j < sn a ∧ PT a 3 ys j x c)) k T3 T4 ns cn' on' := by
  have hn := hw.2.2.1
  intro d
  induction d with
  | zero =>
    intro i fuel h1 h2 cy oy cn on s1 s2 hY hN
    obtain ⟨f, rfl⟩ : ∃ f, fuel = f + 1 := ⟨fuel - 1, by omega⟩
    refine ⟨cy, oy, cn, on, ?_, ?_⟩
    · show f_X2_followThrees_L2 ys (nI (k + 1)) ns (nI (k + 1)) to ks os cs (lo5 _ f) (nI i) cy oy cn on = _
      rw [f_X2_followThrees_L2, if_pos (show to ≤ nI i from by rw [hf.2.1]; exact nI_le (by omega) (by omega))]
    · rw [app_no (fun o c ⟨j, h3, h4, _⟩ => by omega), app_no (fun o c ⟨j, h3, h4, _⟩ => by omega)]
      exact ⟨hY, hN⟩
  | succ d ih =>
    intro i fuel h1 h2 cy oy cn on s1 s2 hY hN
    obtain ⟨f, rfl⟩ : ∃ f, fuel = f + 1 := ⟨fuel - 1, by omega⟩
    have hin : i < sn a := by omega
    obtain ⟨w1, -⟩ := hw.2.2.2 i hin
    obtain ⟨e0, e1, e2, -⟩ := hf.2.2 i hin
    have hhead : lo5 (f_X2_followThrees_L2 ys (nI (k + 1)) ns (nI (k + 1)) to ks os cs) (f + 1) (nI i) cy oy cn on = f_X2_followThrees_L2 ys (nI (k + 1)) ns (nI (k + 1)) to ks os cs (lo5 (f_X2_followThrees_L2 ys (nI (k + 1)) ns (nI (k + 1)) to ks os cs) f) (nI i) cy oy cn on := rfl
    have g41 : ∀ {α : Type} (kk : Option α), gd (nI i) 41 kk = kk := fun kk => gd_r (vp_in_nI (by omega) (by decide))
    rw [hhead, f_X2_followThrees_L2, if_neg (show ¬ to ≤ nI i from by rw [hf.2.1]; exact nle (by omega) (by omega) hin), ob1_r (left_ok hw hf hin)]
    generalize hL : (if kd a i = 3 then ys (ow a i) else ns (ow a i)) = tt
    have hm : M18 (cs i &&& (tt ^^^ (-1 : Int32))) := m18_and e2
    have hle := cnt_le (cs i &&& (tt ^^^ (-1 : Int32)))
    rw [ob1_r (count_18 hm)]
    have hct : cnt (cs i &&& (tt ^^^ (-1 : Int32))) = fb_ct (fun c => inF a i c && !bt tt c) 18 := fb_ct_cong fun c hc => by rw [b_and, b_not _ (by omega), b_cs hw hf hin]
    have hsp := ct_split (fun c => inF a i c) (fun c => bt tt c) 18
    have skip : (∀ x c, ¬ PT a 2 ns i x c) → (∀ x c, ¬ PT a 3 ys i x c) → ∃ cy' oy' cn' on', lo5 (f_X2_followThrees_L2 ys (nI (k + 1)) ns (nI (k + 1)) to ks os cs) f (nI i + 1) cy oy cn on = some (cy', oy', cn', on') ∧ RC t Y (app s1 Y 6 (fun x c => ∃ j, i ≤ j ∧ j < sn a ∧ PT a 2 ns j x c)) k T1 T2 ys cy' oy' ∧ RC t N (app s2 N 7 (fun x c => ∃ j, i ≤ j ∧ j < sn a ∧ PT a 3 ys j x c)) k T3 T4 ns cn' on' := by
      intro p1 p2
      rw [nI_1]
      obtain ⟨x1, x2, x3, x4, g1, g2, g3⟩ := ih (i + 1) f (by omega) (by omega) cy oy cn on s1 s2 hY hN
      rw [app_at (P := fun j x c => PT a 2 ns j x c) (by decide) (app_no p1).symm hin] at g2
      rw [app_at (P := fun j x c => PT a 3 ys j x c) (by decide) (app_no p2).symm hin] at g3
      exact ⟨x1, x2, x3, x4, g1, g2, g3⟩
    rcases Nat.decEq (cnt (cs i &&& (tt ^^^ (-1 : Int32)))) 1 with u | u
    · rw [if_neg (show ¬ nI (cnt (cs i &&& (tt ^^^ (-1 : Int32)))) = (1 : Int32) from fun h => u ((i_eq (b := 1) (by omega) (by decide)).mp h))]
      refine skip (fun x c q => ?_) (fun x c q => ?_)
      · have k2 := q.1
        have h3 := ct_three hw hin (by omega)
        rw [if_neg (show ¬ kd a i = 3 by omega)] at hL
        subst hL
        have := q.2.2.2.2
        omega
      · have k3 := q.1
        have h3 := ct_three hw hin (by omega)
        rw [if_pos k3] at hL
        subst hL
        have := q.2.2.2.2
        omega
    · rw [if_pos (show nI (cnt (cs i &&& (tt ^^^ (-1 : Int32)))) = (1 : Int32) from by rw [u]; rfl), g41, i_cl (by omega), e0]
      rcases Nat.decEq (kd a i) 2 with k2 | k2
      · rw [if_neg (show ¬ nI (kd a i) = (2 : Int32) from fun h => k2 ((i_eq (b := 2) (by omega) (by decide)).mp h)), g41]
        rcases Nat.decEq (kd a i) 3 with k3 | k3
        · rw [if_neg (show ¬ nI (kd a i) = (3 : Int32) from fun h => k3 ((i_eq (b := 3) (by omega) (by decide)).mp h))]
          exact skip (fun x c q => k2 q.1) (fun x c q => k3 q.1)
        · rw [if_pos (show nI (kd a i) = (3 : Int32) from by rw [k3]; rfl), g41, e1]
          obtain ⟨b1, b2, b3, b4⟩ := add_rc hN (ow6 hw hin) hm hk (r := 7) (by decide) (by decide) (rl := 7) rfl
          rw [ob2_r b3, nI_1]
          obtain ⟨x1, x2, x3, x4, g1, g2, g3⟩ := ih (i + 1) f (by omega) (by omega) cy oy b1 b2 s1 _ hY b4
          rw [app_at (P := fun j x c => PT a 2 ns j x c) (by decide) (app_no (fun x c q => k2 q.1)).symm hin] at g2
          have h3 := ct_three hw hin (by omega)
          rw [if_pos k3] at hL
          subst hL
          have c2 : app s2 N 7 (one (ow a i) (cs i &&& (ys (ow a i) ^^^ (-1 : Int32)))) = app s2 N 7 (PT a 3 ys i) := app_c fun x c => by
            unfold one PT FT
            rw [b_andnot e2, b_cs hw hf hin, Bool.and_eq_true, Bool.not_eq_true']
            exact ⟨fun q => ⟨k3, q.1, q.2.1, q.2.2, by omega⟩, fun q => ⟨q.2.1, q.2.2.1, q.2.2.2.1⟩⟩
          rw [app_at (P := fun j x c => PT a 3 ys j x c) (by decide) c2 hin] at g3
          exact ⟨x1, x2, x3, x4, g1, g2, g3⟩
      · rw [if_pos (show nI (kd a i) = (2 : Int32) from by rw [k2]; rfl), g41, e1]
        obtain ⟨b1, b2, b3, b4⟩ := add_rc hY (ow6 hw hin) hm hk (r := 6) (by decide) (by decide) (rl := 6) rfl
        rw [ob2_r b3, nI_1]
        obtain ⟨x1, x2, x3, x4, g1, g2, g3⟩ := ih (i + 1) f (by omega) (by omega) b1 b2 cn on _ s2 b4 hN
        rw [app_at (P := fun j x c => PT a 3 ys j x c) (by decide) (app_no (fun x c q => by have := q.1; omega)).symm hin] at g3
        have h3 := ct_three hw hin (by omega)
        rw [if_neg (show ¬ kd a i = 3 by omega)] at hL
        subst hL
        have c2 : app s1 Y 6 (one (ow a i) (cs i &&& (ns (ow a i) ^^^ (-1 : Int32)))) = app s1 Y 6 (PT a 2 ns i) := app_c fun x c => by
          unfold one PT FT
          rw [b_andnot e2, b_cs hw hf hin, Bool.and_eq_true, Bool.not_eq_true']
          exact ⟨fun q => ⟨k2, q.1, q.2.1, q.2.2, by omega⟩, fun q => ⟨q.2.1, q.2.2.1, q.2.2.2.1⟩⟩
        rw [app_at (P := fun j x c => PT a 2 ns j x c) (by decide) c2 hin] at g2
        exact ⟨x1, x2, x3, x4, g1, g2, g3⟩
/-! ===== the end of a round, the class ===== -/
theorem RC.cong {t : Prop} {M : Mk} {σ τ : Gh} {k : Nat} {TR TL : Gh} {st cm og : Nat → Int32} (e : eqR σ τ) (h : RC t M σ k TR TL st cm og) : RC t M τ k TR TL st cm og := fun o ho => ⟨(h o ho).1, (h o ho).2.1, fun c hc => by
  have := (h o ho).2.2 c hc
  rw [e o c ho hc] at this
  exact this⟩
theorem RC.mb {t : Prop} {M : Mk} {σ : Gh} {k : Nat} {TR TL : Gh} {st cm og : Nat → Int32} (h : RC t M σ k TR TL st cm og) : MB M st := fun o ho => ⟨(h o ho).1, fun c hc => ((h o ho).2.2 c hc).1⟩
def NZ (r : Int32) (σ : Gh) : Prop := (r = 1 ∧ ∃ o c, o < 6 ∧ c < 18 ∧ σ o c ≠ 0) ∨ (r = 0 ∧ ∀ o c, o < 6 → c < 18 → σ o c = 0)
theorem make_go {t : Prop} {M : Mk} {σ : Gh} {k : Nat} {TR TL : Gh} {st cm og : Nat → Int32} (h : RC t M σ k TR TL st cm og) : ∀ (d j fuel : Nat), j + d = 6 → d < fuel → ∀ (v : Int32) (st1 cm1 : Nat → Int32), (∀ o, o < 6 → (o < j → st1 o = st o ||| cm o ∧ cm1 o = 0) ∧ (j ≤ o → st1 o = st o ∧ cm1 o = cm o)) → M18 v → (∀ c, c < 18 → (bt v c = true ↔ ∃ o, o < j ∧ σ o c ≠ 0)) →
    ∃ r st' cm', lo4 (f_X4_make_L4 (nI (k + 1))) fuel v (nI j) st1 cm1 = some (r, st', cm', nI (k + 2)) ∧ NZ r σ ∧ ∀ o, o < 6 → st' o = st o ||| cm o ∧ cm' o = 0 := by
  intro d
  induction d with
  | zero =>
    intro j fuel h1 h2 v st1 cm1 ha hv hb
    obtain ⟨f, rfl⟩ : ∃ f, fuel = f + 1 := ⟨fuel - 1, by omega⟩
    have hj : j = 6 := by omega
    subst hj
    have hhead : lo4 (f_X4_make_L4 (nI (k + 1))) (f + 1) v (nI 6) st1 cm1 = f_X4_make_L4 (nI (k + 1)) (lo4 (f_X4_make_L4 (nI (k + 1))) f) v (nI 6) st1 cm1 := rfl
    rw [hhead, f_X4_make_L4, if_pos (show (6 : Int32) ≤ nI 6 from by decide)]
    unfold lt'
    dsimp only
    rw [nI_1]
    rcases Decidable.em (v = 0) with z | z
    · rw [if_pos z]
      refine ⟨0, st1, cm1, rfl, Or.inr ⟨rfl, fun o c ho hc => ?_⟩, fun o ho => (ha o ho).1 ho⟩
      apply Classical.byContradiction
      intro q
      have := (hb c hc).mpr ⟨o, ho, q⟩
      rw [z, b_0] at this
      cases this
    · rw [if_neg z]
      obtain ⟨c, hc, e⟩ := (m18_nz hv).mp z
      obtain ⟨o, ho, q⟩ := (hb c hc).mp e
      exact ⟨1, st1, cm1, rfl, Or.inl ⟨rfl, o, c, ho, hc, q⟩, fun o ho => (ha o ho).1 ho⟩
  | succ d ih =>
    intro j fuel h1 h2 v st1 cm1 ha hv hb
    obtain ⟨f, rfl⟩ : ∃ f, fuel = f + 1 := ⟨fuel - 1, by omega⟩
    have hj : j < 6 := by omega
    have g6 : ∀ {α : Type} (kk : Option α), gd (nI j) 6 kk = kk := fun kk => gd_r (vp_in_nI hj (by decide))
    have hhead : lo4 (f_X4_make_L4 (nI (k + 1))) (f + 1) v (nI j) st1 cm1 = f_X4_make_L4 (nI (k + 1)) (lo4 (f_X4_make_L4 (nI (k + 1))) f) v (nI j) st1 cm1 := rfl
    rw [hhead, f_X4_make_L4, if_neg (show ¬ (6 : Int32) ≤ nI j from nle (a := 6) (by decide) (by omega) hj), g6, i_cl (by omega)]
    unfold lt'
    dsimp only
    rw [g6, g6, g6, g6, nI_1]
    have hj2 := (ha j hj).2 (Nat.le_refl _)
    refine ih (j + 1) f (by omega) (by omega) _ _ _ (fun o ho => ?_) (m18_or hv (by rw [hj2.2]; exact (h j hj).2.1)) (fun c hc => ?_)
    · rcases Nat.decEq o j with e | e
      · rw [pk_un e, pk_un e]
        exact ⟨fun q => (ha o ho).1 (by omega), fun q => (ha o ho).2 (by omega)⟩
      · rw [e, pk_us, pk_us, hj2.1, hj2.2]
        exact ⟨fun _ => ⟨rfl, rfl⟩, fun q => by omega⟩
    · rw [b_or, Bool.or_eq_true, hb c hc, hj2.2, ((h j hj).2.2 c hc).2.1, decide_eq_true_eq]
      constructor
      · rintro (⟨o, ho, q⟩ | q)
        · exact ⟨o, by omega, q⟩
        · exact ⟨j, by omega, q⟩
      · rintro ⟨o, ho, q⟩
        rcases Nat.lt_or_ge o j with u | u
        · exact Or.inl ⟨o, u, q⟩
        · have : o = j := by omega
          subst this
          exact Or.inr q
theorem make_ok {t : Prop} {M : Mk} {σ : Gh} {k : Nat} {TR TL : Gh} {st cm og : Nat → Int32} (h : RC t M σ k TR TL st cm og) : ∃ r st' cm', f_X4_make st cm (nI (k + 1)) = some (r, st', cm', nI (k + 2)) ∧ NZ r σ ∧ RC t (nx k (M, TR, TL) σ).1 g0 (k + 1) (nx k (M, TR, TL) σ).2.1 (nx k (M, TR, TL) σ).2.2 st' cm' og := by
  obtain ⟨r, st', cm', h1, h2, h3⟩ := make_go h 6 0 FU rfl (by decide) 0 st cm (fun o ho => ⟨fun q => by omega, fun _ => ⟨rfl, rfl⟩⟩) m18_0 (fun c hc => ⟨fun q => absurd q (by rw [b_0]; decide), fun ⟨o, q, _⟩ => absurd q (Nat.not_lt_zero o)⟩)
  refine ⟨r, st', cm', h1, h2, fun o ho => ?_⟩
  obtain ⟨a1, a2, a3⟩ := h o ho
  rw [(h3 o ho).1, (h3 o ho).2]
  refine ⟨m18_or a1 a2, m18_0, fun c hc => ?_⟩
  obtain ⟨b1, b2, b3, b4⟩ := a3 c hc
  refine ⟨?_, b_0 c, fun q => absurd rfl q, fun ht => ⟨fun q => ?_, fun q => absurd rfl q⟩⟩
  · rw [b_or, b1, b2]
    rfl
  · show og _ = nI ((if M o c = true then TR o c else k + 1) * 8 + (if M o c = true then TL o c else σ o c))
    cases e : M o c
    · rw [if_neg (by decide), if_neg (by decide)]
      have q' : (M o c || decide (σ o c ≠ 0)) = true := q
      rw [e, Bool.false_or, decide_eq_true_eq] at q'
      exact (b4 ht).2 q'
    · rw [if_pos rfl, if_pos rfl]
      exact (b4 ht).1 e

