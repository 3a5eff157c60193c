/-! ===== rules 2 and 3, the reference ===== -/
def R2 (a : Sh) (yt : Nat → Int32) : Nat → Nat → Prop := fun x c => own a x ∧ ∃ o, o < 6 ∧ o ≠ x ∧ own a o ∧ bt (yt o) c = true
def R3 (a : Sh) (nt : Nat → Int32) : Nat → Nat → Prop := fun x c => own a x ∧ bt (nt x) c = false ∧ ∀ o, o < 6 → o ≠ x → own a o → bt (nt o) c = true
theorem own6 {a : Sh} (hw : WF a) {o : Nat} (h : own a o) : o < 6 := by
  have := hw.2.1
  rcases h with h | h <;> omega
/-- just one below n -/
theorem ct_one {p : Nat → Bool} : ∀ {n : Nat}, fb_ct p n = 1 ↔ ∃ i, i < n ∧ p i = true ∧ ∀ j, j < n → p j = true → j = i
  | 0 => ⟨fun h => absurd (show (0 : Nat) = 1 from h) (by decide), fun ⟨i, h, _⟩ => absurd h (Nat.not_lt_zero i)⟩
  | n + 1 => by
    rw [fb_ct_succ]
    cases e : p n
    · rw [if_neg (by decide), Nat.add_zero, ct_one (n := n)]
      constructor
      · rintro ⟨i, h1, h2, h3⟩
        refine ⟨i, by omega, h2, fun j hj hp => ?_⟩
        rcases Nat.lt_or_ge j n with w | w
        · exact h3 j w hp
        · have : j = n := by omega
          subst this
          rw [e] at hp
          cases hp
      · rintro ⟨i, h1, h2, h3⟩
        refine ⟨i, ?_, h2, fun j hj hp => h3 j (by omega) hp⟩
        rcases Nat.lt_or_ge i n with w | w
        · exact w
        · have : i = n := by omega
          subst this
          rw [e] at h2
          cases h2
    · rw [if_pos rfl]
      constructor
      · intro h
        have hz : fb_ct p n = 0 := by omega
        refine ⟨n, by omega, e, fun j hj hp => ?_⟩
        rcases Nat.lt_or_ge j n with w | w
        · rw [fb_ct_zero.mp hz j w] at hp
          cases hp
        · omega
      · rintro ⟨i, h1, h2, h3⟩
        have hin : n = i := h3 n (by omega) e
        have hz : fb_ct p n = 0 := fb_ct_zero.mpr fun j hj => by
          cases e2 : p j
          · rfl
          · have := h3 j (by omega) e2
            omega
        omega
noncomputable def fre (a : Sh) (nt : Nat → Int32) (c : Nat) (o : Nat) : Bool := pd (own a o) && !bt (nt o) c
