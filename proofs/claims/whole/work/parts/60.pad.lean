/-! ===== fault; carryOut ===== -/
theorem OC.cong {t : Nat → Nat} {l : Nat} {o o' : Nat → Int32} {T s : Nat} (e : ∀ q, q < T + 5 → o' q = o q) (h : OC t l o T s) : OC t l o' T s := by
  obtain ⟨h1, h2, h3, h4, h5⟩ := h
  exact ⟨by rw [e T (by omega)]; exact h1, fun z => by rw [e (T + 1) (by omega)]; exact h2 z, fun z => by rw [e (T + 1) (by omega), e (T + 2) (by omega)]; exact h3 z, fun z => ⟨by rw [e (T + 1) (by omega)]; exact (h4 z).1, fun m hm => by rw [e (T + 2 + m) (by omega)]; exact (h4 z).2 m hm⟩, fun z => ⟨by rw [e (T + 1) (by omega)]; exact (h5 z).1, fun m hm => by rw [e (T + 2 + m) (by omega)]; exact (h5 z).2 m hm⟩⟩
theorem seqE_t {t : Nat → Nat} {l : Nat} : ∀ (ps : List (Nat → Prop)) (i : Nat), (∀ P, P ∈ ps → ¬ P 59) → (seqE t l ps i).2 = true → (seqE t l ps i).1 = i + ps.length ∧ (i ≤ l → i + ps.length ≤ l) ∧ ∀ p, i ≤ p → p < i + ps.length → t p ≠ 59
  | [], i, _, _ => ⟨rfl, fun h => h, fun p h1 h2 => by simp at h2; omega⟩
  | P :: ps, i, hP, h => by
    rcases Classical.em (i < l ∧ P (t i)) with q | q
    · have e : seqE t l (P :: ps) i = seqE t l ps (i + 1) := ifp_t q
      rw [e] at h ⊢
      obtain ⟨h1, h2, h3⟩ := seqE_t ps (i + 1) (fun P hP' => hP P (List.mem_cons_of_mem _ hP')) h
      have hlen : (P :: ps).length = ps.length + 1 := rfl
      rw [hlen]
      refine ⟨by omega, fun _ => by have := h2 q.1; omega, fun p p1 p2 => ?_⟩
      rcases Nat.decEq p i with u | u
      · exact h3 p (by omega) (by omega)
      · intro w
        rw [u] at w
        rw [w] at q
        exact hP P (List.mem_cons_self) q.2
    · rw [show seqE t l (P :: ps) i = (i, false) from ifp_f q] at h
      exact Bool.noConfusion h
theorem n59 : ¬ d4 59 ∧ ¬ d5 59 ∧ ¬ d9 59 ∧ ¬ ac 59 := by unfold d4 d5 d9 ac; omega
theorem numE_t {t : Nat → Nat} {l i : Nat} (h : (numE t l i).2 = true) : i < l ∧ d9 (t i) ∧ ((t i ≠ 48 ∧ i + 1 < l ∧ d9 (t (i + 1)) ∧ numE t l i = (i + 2, true)) ∨ (¬ (t i ≠ 48 ∧ i + 1 < l ∧ d9 (t (i + 1))) ∧ numE t l i = (i + 1, true))) := by
  rcases Classical.em (i < l ∧ d9 (t i)) with q | q
  · refine ⟨q.1, q.2, ?_⟩
    rw [show numE t l i = _ from ifp_t q]
    rcases Classical.em (t i ≠ 48 ∧ i + 1 < l ∧ d9 (t (i + 1))) with w | w
    · exact Or.inl ⟨w.1, w.2.1, w.2.2, ifp_t w⟩
    · exact Or.inr ⟨w, ifp_f w⟩
  · rw [show numE t l i = (i, false) from ifp_f q] at h
    exact Bool.noConfusion h
theorem oE_t {t : Nat → Nat} {l s : Nat} (h : (oE t l s).2 = true) : s < l ∧ s + 2 ≤ (oE t l s).1 ∧ (oE t l s).1 ≤ l ∧ ∀ p, s ≤ p → p < (oE t l s).1 → t p ≠ 59 := by
  rcases Nat.lt_or_ge s l with u | u
  rotate_left
  · rw [show oE t l s = (s, false) from ifp_f (by omega)] at h
    exact Bool.noConfusion h
  have e : oE t l s = _ := ifp_t u
  have sq : ∀ ps : List (Nat → Prop), (∀ P, P ∈ ps → ¬ P 59) → 1 ≤ ps.length → t s ≠ 59 → oE t l s = seqE t l ps (s + 1) → s < l ∧ s + 2 ≤ (oE t l s).1 ∧ (oE t l s).1 ≤ l ∧ ∀ p, s ≤ p → p < (oE t l s).1 → t p ≠ 59 := by
    intro ps hps hlen hs e2
    rw [e2] at h ⊢
    obtain ⟨h1, h2, h3⟩ := seqE_t ps (s + 1) hps h
    rw [h1]
    refine ⟨u, by omega, h2 u, fun p p1 p2 => ?_⟩
    rcases Nat.decEq p s with w | w
    · exact h3 p (by omega) p2
    · rw [w]; exact hs
  obtain ⟨m1, m2, m3, m4⟩ := n59
  have a3 : ∀ P, P ∈ [d4, ac, d5] → ¬ P 59 := fun P hP => by
    rcases List.mem_cons.mp hP with rfl | hP
    · exact m1
    rcases List.mem_cons.mp hP with rfl | hP
    · exact m4
    rcases List.mem_cons.mp hP with rfl | hP
    · exact m2
    exact absurd hP (List.not_mem_nil)
  have a4 : ∀ P, P ∈ [d4, d5, d5, d5] → ¬ P 59 := fun P hP => by
    rcases List.mem_cons.mp hP with rfl | hP
    · exact m1
    rcases List.mem_cons.mp hP with rfl | hP
    · exact m2
    rcases List.mem_cons.mp hP with rfl | hP
    · exact m2
    rcases List.mem_cons.mp hP with rfl | hP
    · exact m2
    exact absurd hP (List.not_mem_nil)
  have a5 : ∀ P, P ∈ [d5, d5, d5] → ¬ P 59 := fun P hP => a4 P (List.mem_cons_of_mem _ hP)
  rcases Nat.decEq (t s) 45 with v | v
  rotate_left
  · rw [if_pos v] at e
    rw [e] at h ⊢
    obtain ⟨h1, h2, h3⟩ := numE_t h
    rcases h3 with ⟨h4, h5, h6, h7⟩ | ⟨_, h7⟩
    · rw [h7]
      refine ⟨u, by show s + 2 ≤ s + 1 + 2; omega, by show s + 1 + 2 ≤ l; omega, fun p p1 p2 => ?_⟩
      have p2' : p < s + 1 + 2 := p2
      rcases (show p = s ∨ p = s + 1 ∨ p = s + 1 + 1 by omega) with rfl | rfl | rfl
      · omega
      · exact fun q => m3 (by rw [q] at h2; exact h2)
      · exact fun q => m3 (by rw [q] at h6; exact h6)
    · rw [h7]
      refine ⟨u, by show s + 2 ≤ s + 1 + 1; omega, by show s + 1 + 1 ≤ l; omega, fun p p1 p2 => ?_⟩
      have p2' : p < s + 1 + 1 := p2
      rcases (show p = s ∨ p = s + 1 by omega) with rfl | rfl
      · omega
      · exact fun q => m3 (by rw [q] at h2; exact h2)
  rw [if_neg v] at e
  rcases Nat.decEq (t s) 104 with w | w
  rotate_left
  · rw [if_pos w] at e
    exact sq _ a3 (by decide) (by omega) e
  rw [if_neg w] at e
  rcases Nat.decEq (t s) 114 with x | x
  rotate_left
  · rw [if_pos x] at e
    exact sq _ a4 (by decide) (by omega) e
  rw [if_neg x] at e
  rcases Nat.decEq (t s) 115 with y | y
  rotate_left
  · rw [if_pos y] at e
    exact sq _ a4 (by decide) (by omega) e
  rw [if_neg y] at e
  rcases Nat.decEq (t s) 119 with z | z
  rotate_left
  · rw [if_pos z] at e
    exact sq _ a5 (by decide) (by omega) e
  rw [if_neg z] at e
  rw [e] at h
  exact Bool.noConfusion h
/-- so many orders, the first of which begins at s and is the k-th -/
def CH (t : Nat → Nat) (l : Nat) (o : Nat → Int32) : Nat → Nat → Nat → Prop
  | 0, _, _ => False
  | m + 1, k, s => ∃ e, oE t l s = (e, true) ∧ OC t l o (5 * k) s ∧ ((m = 0 ∧ e = l) ∨ (e < l ∧ t e = 59 ∧ CH t l o m (k + 1) (e + 1)))
section
variable {t : Nat → Nat} {l : Nat} {pd tx : Nat → Int32}
theorem rp_aux (h : TX t l pd) {d : Nat} (ih : ∀ (d' s k fuel : Nat), d' < d → s + d' = l → 3 * k ≤ s → d' + 2 < fuel → ∀ ords : Nat → Int32, ∃ ords' n spot', lo5 (f_X6_readPad_L18 pd (nI l)) fuel 1 ords (nI k) (nI s) (-6) = some (gF (cf t d' 0 s), ords', nI n, spot', gF (cf t d' 0 s)) ∧ (∀ q, q < 5 * k → ords' q = ords q) ∧ (cf t d' 0 s = none → ∃ m, n = k + m ∧ m ≤ d' ∧ CH t l ords' m k s)) {s k fuel : Nat} (hd : s + d = l) (hk : 3 * k ≤ s) (hf : d + 2 < fuel) (ords : Nat → Int32) : ∃ ords' n spot', lo5 (f_X6_readPad_L18 pd (nI l)) fuel 1 ords (nI k) (nI s) (-6) = some (gF (cf t d 0 s), ords', nI n, spot', gF (cf t d 0 s)) ∧ (∀ q, q < 5 * k → ords' q = ords q) ∧ (cf t d 0 s = none → ∃ m, n = k + m ∧ m ≤ d ∧ CH t l ords' m k s) := by
  have h80 := h.1
  obtain ⟨f, rfl⟩ : ∃ f, fuel = f + 2 := ⟨fuel - 2, by omega⟩
  have hhead : lo5 (f_X6_readPad_L18 pd (nI l)) (f + 2) 1 ords (nI k) (nI s) (-6) = f_X6_readPad_L18 pd (nI l) (lo5 (f_X6_readPad_L18 pd (nI l)) (f + 1)) 1 ords (nI k) (nI s) (-6) := rfl
  have hstop : ∀ (o : Nat → Int32) (n sp b : Int32), lo5 (f_X6_readPad_L18 pd (nI l)) (f + 1) 0 o n sp b = some (b, o, n, sp, b) := fun o n sp b => by
    show f_X6_readPad_L18 pd (nI l) _ 0 o n sp b = _
    rw [f_X6_readPad_L18, if_pos rfl]
  obtain ⟨ords', spot', bad', g1, g2, g3, g4⟩ := order_ok h (k := k) (by omega) (s := s) (by omega) ords
  have hcf : cf t d 0 s = endE t l (oE t l s) := by rw [← cf_order (show s ≤ l by omega), show l - s = d by omega]
  rw [hhead, f_X6_readPad_L18, if_neg one_ne, ob4_r g1, hcf]
  cases e : (oE t l s).2
  · obtain ⟨c1, c2, j, c3, c4⟩ := g4 e
    have hne : ¬ bad' = (-6 : Int32) := by rw [c1]; exact ne6 c2
    have hend : endE t l (oE t l s) = some (oE t l s).1 := by unfold endE; rw [e, if_neg (by decide)]
    rw [if_neg hne, f_X6_readPad_J50, f_X6_readPad_J51, if_pos rfl, hstop, hend]
    exact ⟨ords', k + 1, spot', by rw [c1]; rfl, g2, fun q => by cases q⟩
  · obtain ⟨c1, c2, c3⟩ := g3 e
    obtain ⟨o1, o2, o3, o4⟩ := oE_t e
    have hE : oE t l s = ((oE t l s).1, true) := by rw [← e]
    rw [if_pos c2, c1]
    rcases Nat.eq_or_lt_of_le o3 with u | u
    · have hend : endE t l (oE t l s) = none := by unfold endE; rw [e, if_pos rfl, if_pos u]
      rw [if_pos (nI_le (by omega) (by omega)), f_X6_readPad_J50, f_X6_readPad_J51, if_pos rfl, hstop, hend, c2]
      exact ⟨ords', k + 1, _, rfl, g2, fun _ => ⟨1, rfl, by omega, (oE t l s).1, hE, c3, Or.inl ⟨rfl, u⟩⟩⟩
    · have hx := (h.2 _ u).2.1
      rw [if_neg (nle (by omega) (by omega) u), f_X6_readPad_J51, if_neg one_ne, ob1_r (letter_ok h (by omega)), if_pos u, c2]
      rcases Nat.decEq (t (oE t l s).1) 59 with w | w
      · have hend : endE t l (oE t l s) = some (oE t l s).1 := by unfold endE; rw [e, if_pos rfl, if_neg (by omega), if_neg w]
        rw [if_neg (show ¬ nI (t (oE t l s).1) = (59 : Int32) from fun q => w ((i_eq (b := 59) (by omega) (by decide)).mp q)), ob2_r wants_0, if_neg (ne6 (by omega)), hstop, hend]
        exact ⟨ords', k + 1, _, rfl, g2, fun q => by cases q⟩
      · have hend : endE t l (oE t l s) = cf t (l - (oE t l s).1 - 1) 0 ((oE t l s).1 + 1) := by unfold endE; rw [e, if_pos rfl, if_neg (by omega), if_pos w]
        rw [if_pos (show nI (t (oE t l s).1) = (59 : Int32) from by rw [w]; rfl), ob2_r wants_1, if_pos rfl, hend]
        obtain ⟨o2', n, sp2, i1, i2, i3⟩ := ih (l - (oE t l s).1 - 1) ((oE t l s).1 + 1) (k + 1) (f + 1) (by omega) (by omega) (by omega) (by omega) ords'
        refine ⟨o2', n, sp2, i1, fun q hq => by rw [i2 q (by omega), g2 q hq], fun q => ?_⟩
        obtain ⟨m, m1, m2, m3⟩ := i3 q
        exact ⟨m + 1, by omega, by omega, (oE t l s).1, hE, c3.cong (fun q hq => i2 q (by omega)), Or.inr ⟨u, w, m3⟩⟩
theorem rp_go (h : TX t l pd) : ∀ (N d s k fuel : Nat), d ≤ N → s + d = l → 3 * k ≤ s → d + 2 < fuel → ∀ ords : Nat → Int32, ∃ ords' n spot', lo5 (f_X6_readPad_L18 pd (nI l)) fuel 1 ords (nI k) (nI s) (-6) = some (gF (cf t d 0 s), ords', nI n, spot', gF (cf t d 0 s)) ∧ (∀ q, q < 5 * k → ords' q = ords q) ∧ (cf t d 0 s = none → ∃ m, n = k + m ∧ m ≤ d ∧ CH t l ords' m k s) := by
  have h80 := h.1
  intro N
  induction N with
  | zero =>
    intro d s k fuel hN hd hk hf ords
    exact rp_aux h (fun d' s' k' fuel' hN' => absurd hN' (by omega)) hd hk hf ords
  | succ N ih =>
    intro d s k fuel hN hd hk hf ords
    exact rp_aux h (fun d' s' k' fuel' hN' => ih d' s' k' fuel' (by omega)) hd hk hf ords
end
