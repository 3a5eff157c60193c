/-! ===== broken sheets in the reference ===== -/
theorem BQ.t {P : Prop} {r : Int32} (h : BQ P r) (p : P) : r = 1 := by
  rcases h with h | h
  · exact h.1
  · exact absurd p h.2
theorem BQ.f {P : Prop} {r : Int32} (h : BQ P r) (p : ¬ P) : r = 0 := by
  rcases h with h | h
  · exact absurd h.2 p
  · exact h.1
theorem BQ.same {P : Prop} {r s : Int32} (h : BQ P r) (q : BQ P s) : r = s := by
  rcases Classical.em P with p | p
  · rw [h.t p, q.t p]
  · rw [h.f p, q.f p]
def wr (a : Sh) (Y N : Mk) (o κ : Nat) : Prop := hs a o < fb_ct (fun c => Y o c && hin o κ c) 18 ∨ fb_ct (fun c => hin o κ c && !N o c) 18 < hs a o
def both (Y N : Mk) (o : Nat) : Prop := ∃ c, c < 18 ∧ Y o c = true ∧ N o c = true
/-! ===== how many marks ===== -/
def tot (M : Mk) : Nat → Nat
  | 0 => 0
  | k + 1 => tot M k + fb_ct (M k) 18
theorem tot_le (M : Mk) : ∀ k, tot M k ≤ 18 * k
  | 0 => Nat.le_refl 0
  | k + 1 => by have := tot_le M k; have := fb_ct_le (M k) 18; show tot M k + fb_ct (M k) 18 ≤ _; omega
theorem mb_cnt {M : Mk} {t : Nat → Int32} (m : MB M t) {o : Nat} (ho : o < 6) : cnt (t o) = fb_ct (M o) 18 := fb_ct_cong fun c hc => (m o ho).2 c hc
theorem total_ok {M : Mk} {t : Nat → Int32} (m : MB M t) : f_X4_total t = some (nI (tot M 6)) := by
  unfold f_X4_total
  have := loop (S := Int32 × Int32) (F := fun f s => lo2 (f_X4_total_L4 t) f s.1 s.2) (B := fun rec s => f_X4_total_L4 t (fun x y => rec (x, y)) s.1 s.2) (fun _ _ => rfl) (fun k s => s.2 = nI k ∧ s.1 = nI (tot M k)) (fun r => r = nI (tot M 6)) 6 (by
    rintro k ⟨v, i⟩ hk ⟨e, h1⟩ rec
    replace e : i = nI k := e
    replace h1 : v = nI (tot M k) := h1
    subst e h1
    (try dsimp only)
    rw [f_X4_total_L4, if_neg (show ¬ (6 : Int32) ≤ nI k from nle (a := 6) (by decide) (by omega) hk), gd_r (vp_in_nI (n := k) hk (by decide)), i_cl (by omega), ob1_r (count_18 (m k hk).1), mb_cnt m hk]
    unfold lt'
    dsimp only
    rw [nI_add, nI_1]
    exact Or.inr ⟨(nI (tot M (k + 1)), nI (k + 1)), rfl, rfl, rfl⟩) (by
    rintro ⟨v, i⟩ ⟨e, h1⟩ rec
    replace e : i = nI 6 := e
    replace h1 : v = nI (tot M 6) := h1
    subst e h1
    (try dsimp only)
    rw [f_X4_total_L4, if_pos (show (6 : Int32) ≤ nI 6 from by decide)]
    exact ⟨_, rfl, rfl⟩) 6 0 FU (0, 0) rfl (by decide) ⟨rfl, rfl⟩
  obtain ⟨r, e, rfl⟩ := this
  exact e

