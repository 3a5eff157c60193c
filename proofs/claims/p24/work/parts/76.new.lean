/-! ===== a new sheet: nothing follows from nothing ===== -/
theorem new_wf : WF (shNew 3) := ⟨by decide, by decide, by decide, fun i h => absurd (show i < 0 from h) (Nat.not_lt_zero i)⟩
theorem new_own {x : Nat} (h : own (shNew 3) x) : x = 0 ∨ x = 1 ∨ x = 2 ∨ x = 5 := by
  rcases h with h | h
  · have h3 : x < 3 := h
    omega
  · omega
theorem new_hs {x : Nat} (h : own (shNew 3) x) : hs (shNew 3) x = if x = 5 then 1 else 5 := by
  rcases new_own h with rfl | rfl | rfl | rfl <;> rfl
theorem new_y {o c : Nat} : ¬ ruY (shNew 3) (fun _ _ => false) o c := by
  rintro (⟨j, _, h, _⟩ | ⟨hx, _, h⟩ | ⟨hx, κ, hκ, _, h, _⟩ | ⟨j, h, _⟩)
  · exact absurd (show j < 0 from h) (Nat.not_lt_zero j)
  · rcases Nat.decEq o 5 with e | e
    · exact Bool.noConfusion (h 5 (by decide) (fun q => e q.symm) (Or.inr rfl))
    · exact Bool.noConfusion (h 0 (by decide) (by omega) (Or.inl (show 0 < 3 by decide)))
  · rw [new_hs hx] at h
    unfold hin at h
    rcases Nat.decEq o 5 with e | e
    · rw [if_neg e] at h
      have h3 : fb_ct (fun c => (if o = 5 then decide (c / 6 = κ) else true) && !false) 18 = 18 := by
        rw [show (fun c => (if o = 5 then decide (c / 6 = κ) else true) && !false) = fun _ => true from funext fun c => by rw [if_neg e]; rfl]
        rfl
      rw [h3] at h
      omega
    · subst e
      rcases (show κ = 0 ∨ κ = 1 ∨ κ = 2 by omega) with rfl | rfl | rfl <;> exact absurd h (by decide)
  · exact absurd (show j < 0 from h) (Nat.not_lt_zero j)
theorem new_n {o c : Nat} : ¬ ruN (shNew 3) (fun _ _ => false) o c := by
  rintro (⟨j, _, h, _⟩ | ⟨_, o', _, _, _, h⟩ | ⟨hx, κ, _, _, h, _⟩ | ⟨j, h, _⟩)
  · exact absurd (show j < 0 from h) (Nat.not_lt_zero j)
  · exact Bool.noConfusion h
  · rw [new_hs hx] at h
    have h3 : fb_ct (fun c => false && hin o κ c) 18 = 0 := rfl
    rw [h3] at h
    split at h <;> omega
  · exact absurd (show j < 0 from h) (Nat.not_lt_zero j)
theorem new_rk : rk (shNew 3) e0 E0 = 0 := by
  rcases Nat.eq_zero_or_pos (rk (shNew 3) e0 E0) with h | h
  · exact h
  · obtain ⟨o, c, _, _, h1 | h1⟩ := rk_yes h
    · have h2 : hY (shNew 3) e0 0 (fun _ _ => false) (fun _ _ => false) o c ≠ 0 := h1
      rw [hY_e0] at h2
      exact absurd ((gY_iff o c).mp h2).2 new_y
    · have h2 : hN (shNew 3) e0 0 (fun _ _ => false) (fun _ _ => false) o c ≠ 0 := h1
      rw [hN_e0] at h2
      exact absurd ((gN_iff o c).mp h2).2 new_n
theorem new_zc : Zc zz := fun _ _ => ⟨m18_0, fun x _ => b_0 x⟩
theorem new_rc : RC True (fun _ _ => false) g0 0 g0 g0 zz zz zz := rc_start (fun _ _ => rfl) new_zc
theorem new_mr : MR (shNew 3) zz zz zz zz zz zz 0 := by
  unfold MR Fol
  rw [new_rk]
  exact ⟨0, new_rc, new_rc, rfl⟩
theorem new_chg : CHG (shNew 3) 0 (fun _ => shNew 3) 3 0 zz zz zz zz zz zz zz zz zz 0 0 (fun _ => (3, 0, zz, zz, zz)) (upd zz 0 3) zz 0 :=
  ⟨⟨new_wf, by decide, ⟨rfl, rfl, fun i h => absurd (show i < 0 from h) (Nat.not_lt_zero i)⟩, ⟨rfl, rfl, fun i h => absurd (show i < 0 from h) (Nat.not_lt_zero i)⟩⟩, new_mr, ⟨rfl, rfl, by decide, fun i h => absurd h (Nat.not_lt_zero i)⟩⟩
