theorem brk_up {a : Sh} (hw : WF a) {Y N Y' N' : Mk} (hY : sub Y Y') (hN : sub N N') (h : brk a Y N) : brk a Y' N' := by
  have hp := hw.2.1
  rcases h with ⟨o, c, ho, hc, w, h1, h2⟩ | ⟨o, κ, w, hκ, h⟩ | ⟨c, hc, h⟩ | ⟨j, hj, k2, h⟩ | ⟨j, hj, k3, h⟩
  · exact Or.inl ⟨o, c, ho, hc, w, hY o c ho hc h1, hN o c ho hc h2⟩
  · have ho := own6' hp w
    refine Or.inr (Or.inl ⟨o, κ, w, hκ, ?_⟩)
    rcases h with h | h
    · have : fb_ct (fun c => Y o c && hin o κ c) 18 ≤ fb_ct (fun c => Y' o c && hin o κ c) 18 := fb_ct_sub fun c' hc' q => by
        rw [Bool.and_eq_true] at q ⊢
        exact ⟨hY o c' ho hc' q.1, q.2⟩
      exact Or.inl (by omega)
    · have : fb_ct (fun c => hin o κ c && !N' o c) 18 ≤ fb_ct (fun c => hin o κ c && !N o c) 18 := fb_ct_sub fun c' hc' q => by
        rw [Bool.and_eq_true, Bool.not_eq_true'] at q ⊢
        refine ⟨q.1, ?_⟩
        cases e : N o c'
        · rfl
        · rw [hN o c' ho hc' e] at q
          exact Bool.noConfusion q.2
      exact Or.inr (by omega)
  · exact Or.inr (Or.inr (Or.inl ⟨c, hc, fun o w => hN o c (own6' hp w) hc (h o w)⟩))
  · exact Or.inr (Or.inr (Or.inr (Or.inl ⟨j, hj, k2, fun c hc hi => hN _ c (ow6 hw hj) hc (h c hc hi)⟩)))
  · exact Or.inr (Or.inr (Or.inr (Or.inr ⟨j, hj, k3, fun c hc hi => hY _ c (ow6 hw hj) hc (h c hc hi)⟩)))
def fixd (a : Sh) (Y N : Mk) : Prop := ∀ o c, o < 6 → c < 18 → gY a Y N o c = 0 ∧ gN a Y N o c = 0
theorem it_in {a a' : Sh} (hw : WF a) (hw' : WF a') (hl : le a a') {e : Ex} {S : S1 × S1} {Y' N' : Mk} (hb : ¬ brk a' Y' N') (hf : fixd a' Y' N') (h1 : sub S.1.1 Y') (h2 : sub S.2.1 N') (h3 : ∀ o c, o < 6 → c < 18 → eY e 0 o c → Y' o c = true) (h4 : ∀ o c, o < 6 → c < 18 → eN e 0 o c → N' o c = true) : ∀ k, sub (yK a e S k) Y' ∧ sub (nK a e S k) N'
  | 0 => ⟨h1, h2⟩
  | k + 1 => by
    obtain ⟨i1, i2⟩ := it_in hw hw' hl hb hf h1 h2 h3 h4 k
    constructor
    · intro o c ho hc q
      have q' : (yK a e S k o c || decide (hYk a e S k o c ≠ 0)) = true := q
      rw [Bool.or_eq_true, decide_eq_true_eq] at q'
      rcases q' with q' | q'
      · exact i1 o c ho hc q'
      · rcases (app_iff (by decide) o c).mp q' with u | u
        · rcases (ru_up hw' hl hw i1 i2 hb ho hc).1 ((gY_iff o c).mp u).2 with v | v
          · exact v
          · cases e5 : Y' o c
            · exact absurd (hf o c ho hc).1 ((gY_iff o c).mpr ⟨e5, v⟩)
            · rfl
        · have z := u.2
          have hk : k = 0 := z.1
          subst hk
          exact h3 o c ho hc z
    · intro o c ho hc q
      have q' : (nK a e S k o c || decide (hNk a e S k o c ≠ 0)) = true := q
      rw [Bool.or_eq_true, decide_eq_true_eq] at q'
      rcases q' with q' | q'
      · exact i2 o c ho hc q'
      · rcases (app_iff (by decide) o c).mp q' with u | u
        · rcases (ru_up hw' hl hw i1 i2 hb ho hc).2 ((gN_iff o c).mp u).2 with v | v
          · exact v
          · cases e5 : N' o c
            · exact absurd (hf o c ho hc).2 ((gN_iff o c).mpr ⟨e5, v⟩)
            · rfl
        · have z := u.2
          have hk : k = 0 := z.1
          subst hk
          exact h4 o c ho hc z
theorem it_mono {a : Sh} {e : Ex} {S : S1 × S1} {j : Nat} : ∀ d, sub (yK a e S j) (yK a e S (j + d)) ∧ sub (nK a e S j) (nK a e S (j + d))
  | 0 => ⟨fun _ _ _ _ h => h, fun _ _ _ _ h => h⟩
  | d + 1 => by
    obtain ⟨h1, h2⟩ := it_mono (a := a) (e := e) (S := S) (j := j) d
    constructor
    · intro o c ho hc q
      show (yK a e S (j + d) o c || _) = true
      rw [h1 o c ho hc q]
      rfl
    · intro o c ho hc q
      show (nK a e S (j + d) o c || _) = true
      rw [h2 o c ho hc q]
      rfl
theorem it_0 {a : Sh} {e : Ex} {S : S1 × S1} (k : Nat) : sub S.1.1 (yK a e S k) ∧ sub S.2.1 (nK a e S k) := by
  have := it_mono (a := a) (e := e) (S := S) (j := 0) k
  rw [Nat.zero_add] at this
  exact this
theorem it_fix (a : Sh) (e : Ex) (S : S1 × S1) : fixd a (yK a e S (rk a e S)) (nK a e S (rk a e S)) := by
  intro o c ho hc
  have h := rk_no a e S
  constructor
  · apply Classical.byContradiction
    intro q
    exact h ⟨o, c, ho, hc, Or.inl ((app_iff (by decide) o c).mpr (Or.inl q))⟩
  · apply Classical.byContradiction
    intro q
    exact h ⟨o, c, ho, hc, Or.inr ((app_iff (by decide) o c).mpr (Or.inl q))⟩
theorem it_extra (a : Sh) (e : Ex) (S : S1 × S1) : (∀ o c, o < 6 → c < 18 → eY e 0 o c → yK a e S (rk a e S) o c = true) ∧ ∀ o c, o < 6 → c < 18 → eN e 0 o c → nK a e S (rk a e S) o c = true := by
  have h := rk_no a e S
  rcases Nat.eq_zero_or_pos (rk a e S) with q | q
  · rw [q] at h ⊢
    constructor
    · intro o c ho hc z
      cases e5 : yK a e S 0 o c
      · exact absurd ⟨o, c, ho, hc, Or.inl ((app_iff (by decide) o c).mpr (Or.inr ⟨e5, z⟩))⟩ h
      · rfl
    · intro o c ho hc z
      cases e5 : nK a e S 0 o c
      · exact absurd ⟨o, c, ho, hc, Or.inr ((app_iff (by decide) o c).mpr (Or.inr ⟨e5, z⟩))⟩ h
      · rfl
  · have hm := it_mono (a := a) (e := e) (S := S) (j := 1) (rk a e S - 1)
    rw [show 1 + (rk a e S - 1) = rk a e S by omega] at hm
    constructor
    · intro o c ho hc z
      refine hm.1 o c ho hc ?_
      show (yK a e S 0 o c || decide (hYk a e S 0 o c ≠ 0)) = true
      cases e5 : yK a e S 0 o c
      · have hz : hYk a e S 0 o c ≠ 0 := (app_iff (r := 1) (by decide) o c).mpr (Or.inr ⟨e5, z⟩)
        rw [decide_eq_true hz]
        rfl
      · rfl
    · intro o c ho hc z
      refine hm.2 o c ho hc ?_
      show (nK a e S 0 o c || decide (hNk a e S 0 o c ≠ 0)) = true
      cases e5 : nK a e S 0 o c
      · have hz : hNk a e S 0 o c ≠ 0 := (app_iff (r := 1) (by decide) o c).mpr (Or.inr ⟨e5, z⟩)
        rw [decide_eq_true hz]
        rfl
      · rfl
noncomputable def fY (a : Sh) (e : Ex) (S : S1 × S1) : Mk := yK a e S (rk a e S)
noncomputable def fN (a : Sh) (e : Ex) (S : S1 × S1) : Mk := nK a e S (rk a e S)
/-- going on from the marks of a (and a mark more) is as good as making them anew -/
theorem cont {a a' : Sh} (hw : WF a) (hw' : WF a') (hl : le a a') {e : Ex} {S : S1 × S1} (hSY : ∀ o c, o < 6 → c < 18 → (S.1.1 o c = true ↔ fY a e0 E0 o c = true ∨ eY e 0 o c)) (hSN : ∀ o c, o < 6 → c < 18 → (S.2.1 o c = true ↔ fN a e0 E0 o c = true ∨ eN e 0 o c)) :
    (brk a' (fY a' e E0) (fN a' e E0) ↔ brk a' (fY a' e0 S) (fN a' e0 S)) ∧ (¬ brk a' (fY a' e E0) (fN a' e E0) → ∀ o c, o < 6 → c < 18 → fY a' e E0 o c = fY a' e0 S o c ∧ fN a' e E0 o c = fN a' e0 S o c) := by
  have ne : ∀ o c, ¬ eY e0 0 o c := fun o c h => absurd h.2.1 (by decide)
  have ne2 : ∀ o c, ¬ eN e0 0 o c := fun o c h => absurd h.2.1 (by decide)
  have hempY : ∀ Y' : Mk, sub E0.1.1 Y' := fun Y' o c _ _ h => Bool.noConfusion h
  have hempN : ∀ Y' : Mk, sub E0.2.1 Y' := fun Y' o c _ _ h => Bool.noConfusion h
  obtain ⟨x1, x2⟩ := it_extra a' e E0
  have BA : ¬ brk a' (fY a' e E0) (fN a' e E0) → sub (fY a' e0 S) (fY a' e E0) ∧ sub (fN a' e0 S) (fN a' e E0) := by
    intro hb
    have s1 := it_in hw hw' hl (e := e0) (S := E0) hb (it_fix a' e E0) (hempY _) (hempN _) (fun o c _ _ h => absurd h (ne o c)) (fun o c _ _ h => absurd h (ne2 o c)) (rk a e0 E0)
    refine it_in hw' hw' (le.rf a') (e := e0) (S := S) hb (it_fix a' e E0) (fun o c ho hc q => ?_) (fun o c ho hc q => ?_) (fun o c _ _ h => absurd h (ne o c)) (fun o c _ _ h => absurd h (ne2 o c)) (rk a' e0 S)
    · rcases (hSY o c ho hc).mp q with q | q
      · exact s1.1 o c ho hc q
      · exact x1 o c ho hc q
    · rcases (hSN o c ho hc).mp q with q | q
      · exact s1.2 o c ho hc q
      · exact x2 o c ho hc q
  have AB : ¬ brk a' (fY a' e0 S) (fN a' e0 S) → sub (fY a' e E0) (fY a' e0 S) ∧ sub (fN a' e E0) (fN a' e0 S) := by
    intro hb
    have s0 := it_0 (a := a') (e := e0) (S := S) (rk a' e0 S)
    exact it_in hw' hw' (le.rf a') (e := e) (S := E0) hb (it_fix a' e0 S) (hempY _) (hempN _) (fun o c ho hc h => s0.1 o c ho hc ((hSY o c ho hc).mpr (Or.inr h))) (fun o c ho hc h => s0.2 o c ho hc ((hSN o c ho hc).mpr (Or.inr h))) (rk a' e E0)
  have iff : brk a' (fY a' e E0) (fN a' e E0) ↔ brk a' (fY a' e0 S) (fN a' e0 S) := by
    constructor
    · intro h
      apply Classical.byContradiction
      intro hb
      exact hb (brk_up hw' (AB hb).1 (AB hb).2 h)
    · intro h
      apply Classical.byContradiction
      intro hb
      exact hb (brk_up hw' (BA hb).1 (BA hb).2 h)
  refine ⟨iff, fun hb o c ho hc => ?_⟩
  have hb2 : ¬ brk a' (fY a' e0 S) (fN a' e0 S) := fun h => hb (iff.mpr h)
  obtain ⟨p1, p2⟩ := BA hb
  obtain ⟨p3, p4⟩ := AB hb2
  constructor
  · cases u : fY a' e E0 o c <;> cases v : fY a' e0 S o c
    · rfl
    · rw [p1 o c ho hc v] at u; exact u.symm
    · rw [p3 o c ho hc u] at v; exact v
    · rfl
  · cases u : fN a' e E0 o c <;> cases v : fN a' e0 S o c
    · rfl
    · rw [p2 o c ho hc v] at u; exact u.symm
    · rw [p4 o c ho hc u] at v; exact v
    · rfl

