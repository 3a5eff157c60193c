/-! ===== the rounds, as the document has them; e: a mark more in the first round (0 none, 1 yes, 2 no; owner; card) ===== -/
abbrev Ex : Type := Nat × Nat × Nat
def eY (e : Ex) (k : Nat) : Nat → Nat → Prop := fun x c => k = 0 ∧ e.1 = 1 ∧ x = e.2.1 ∧ c = e.2.2
def eN (e : Ex) (k : Nat) : Nat → Nat → Prop := fun x c => k = 0 ∧ e.1 = 2 ∧ x = e.2.1 ∧ c = e.2.2
noncomputable def hY (a : Sh) (e : Ex) (k : Nat) (Y N : Mk) : Gh := app (gY a Y N) Y 1 (eY e k)
noncomputable def hN (a : Sh) (e : Ex) (k : Nat) (Y N : Mk) : Gh := app (gN a Y N) N 1 (eN e k)
abbrev S1 : Type := Mk × Gh × Gh
def nx (k : Nat) (s : S1) (σ : Gh) : S1 := (fun o c => s.1 o c || decide (σ o c ≠ 0), fun o c => if s.1 o c = true then s.2.1 o c else k + 1, fun o c => if s.1 o c = true then s.2.2 o c else σ o c)
def E0 : S1 × S1 := ((fun _ _ => false, g0, g0), (fun _ _ => false, g0, g0))
noncomputable def it (a : Sh) (e : Ex) (S : S1 × S1) : Nat → S1 × S1
  | 0 => S
  | k + 1 => (nx k (it a e S k).1 (hY a e k (it a e S k).1.1 (it a e S k).2.1), nx k (it a e S k).2 (hN a e k (it a e S k).1.1 (it a e S k).2.1))
noncomputable def yK (a : Sh) (e : Ex) (S : S1 × S1) (k : Nat) : Mk := (it a e S k).1.1
noncomputable def nK (a : Sh) (e : Ex) (S : S1 × S1) (k : Nat) : Mk := (it a e S k).2.1
noncomputable def hYk (a : Sh) (e : Ex) (S : S1 × S1) (k : Nat) : Gh := hY a e k (yK a e S k) (nK a e S k)
noncomputable def hNk (a : Sh) (e : Ex) (S : S1 × S1) (k : Nat) : Gh := hN a e k (yK a e S k) (nK a e S k)
def more (a : Sh) (e : Ex) (S : S1 × S1) (k : Nat) : Prop := ∃ o c, o < 6 ∧ c < 18 ∧ (hYk a e S k o c ≠ 0 ∨ hNk a e S k o c ≠ 0)
theorem app_nz {σ : Gh} {M : Mk} {r : Nat} {P : Nat → Nat → Prop} (h : ∀ o c, σ o c ≠ 0 → M o c = false) : ∀ o c, app σ M r P o c ≠ 0 → M o c = false := fun o c q => by
  rcases Classical.em (σ o c = 0 ∧ M o c = false ∧ P o c) with z | z
  · exact z.2.1
  · rw [show app σ M r P o c = σ o c from ifp_f z] at q
    exact h o c q
theorem g0_nz {M : Mk} : ∀ o c, g0 o c ≠ 0 → M o c = false := fun _ _ h => absurd rfl h
theorem hY_nz {a : Sh} {e : Ex} {k : Nat} {Y N : Mk} : ∀ o c, hY a e k Y N o c ≠ 0 → Y o c = false := app_nz (app_nz (app_nz (app_nz (app_nz g0_nz))))
theorem hN_nz {a : Sh} {e : Ex} {k : Nat} {Y N : Mk} : ∀ o c, hN a e k Y N o c ≠ 0 → N o c = false := app_nz (app_nz (app_nz (app_nz (app_nz g0_nz))))
theorem ct_lt {p q : Nat → Bool} : ∀ {n : Nat}, (∀ k, k < n → p k = true → q k = true) → (∃ k, k < n ∧ p k = false ∧ q k = true) → fb_ct p n < fb_ct q n
  | 0, _, ⟨k, h, _⟩ => absurd h (Nat.not_lt_zero k)
  | n + 1, h, ⟨k, h1, h2, h3⟩ => by
    rw [fb_ct_succ, fb_ct_succ]
    have hs : fb_ct p n ≤ fb_ct q n := fb_ct_sub (fun j hj => h j (by omega))
    rcases Nat.lt_or_ge k n with w | w
    · have := ct_lt (n := n) (p := p) (q := q) (fun j hj => h j (by omega)) ⟨k, w, h2, h3⟩
      have hn := h n (by omega)
      cases ep : p n
      · cases q n <;> simp <;> omega
      · rw [hn ep]
        simp
        omega
    · have : k = n := by omega
      subst this
      rw [h2, h3]
      simp
      omega
noncomputable def mkn (a : Sh) (e : Ex) (S : S1 × S1) (k : Nat) : Nat := fb_ct (fun j => yK a e S k (j / 18) (j % 18)) 108 + fb_ct (fun j => nK a e S k (j / 18) (j % 18)) 108
theorem mkn_lt {a : Sh} {e : Ex} {S : S1 × S1} {k : Nat} (h : more a e S k) : mkn a e S k < mkn a e S (k + 1) := by
  have hy : ∀ o c, yK a e S k o c = true → yK a e S (k + 1) o c = true := fun o c q => by
    show (yK a e S k o c || _) = true
    rw [q]; rfl
  have hn : ∀ o c, nK a e S k o c = true → nK a e S (k + 1) o c = true := fun o c q => by
    show (nK a e S k o c || _) = true
    rw [q]; rfl
  have ly := fb_ct_sub (n := 108) (p := fun j => yK a e S k (j / 18) (j % 18)) (q := fun j => yK a e S (k + 1) (j / 18) (j % 18)) (fun j _ => hy _ _)
  have ln := fb_ct_sub (n := 108) (p := fun j => nK a e S k (j / 18) (j % 18)) (q := fun j => nK a e S (k + 1) (j / 18) (j % 18)) (fun j _ => hn _ _)
  unfold mkn
  obtain ⟨o, c, ho, hc, z⟩ := h
  have e1 : (18 * o + c) / 18 = o := by omega
  have e2 : (18 * o + c) % 18 = c := by omega
  rcases z with z | z
  · have := ct_lt (n := 108) (p := fun j => yK a e S k (j / 18) (j % 18)) (q := fun j => yK a e S (k + 1) (j / 18) (j % 18)) (fun j _ => hy _ _) ⟨18 * o + c, by omega, by rw [e1, e2]; exact hY_nz o c z, by
      rw [e1, e2]
      show (yK a e S k o c || decide (hYk a e S k o c ≠ 0)) = true
      rw [decide_eq_true z, Bool.or_true]⟩
    omega
  · have := ct_lt (n := 108) (p := fun j => nK a e S k (j / 18) (j % 18)) (q := fun j => nK a e S (k + 1) (j / 18) (j % 18)) (fun j _ => hn _ _) ⟨18 * o + c, by omega, by rw [e1, e2]; exact hN_nz o c z, by
      rw [e1, e2]
      show (nK a e S k o c || decide (hNk a e S k o c ≠ 0)) = true
      rw [decide_eq_true z, Bool.or_true]⟩
    omega
theorem mkn_le (a : Sh) (e : Ex) (S : S1 × S1) (k : Nat) : mkn a e S k ≤ 216 := by
  unfold mkn
  have h1 := fb_ct_le (fun j => yK a e S k (j / 18) (j % 18)) 108
  have h2 := fb_ct_le (fun j => nK a e S k (j / 18) (j % 18)) 108
  omega
theorem mkn_ge {a : Sh} {e : Ex} {S : S1 × S1} : ∀ k, (∀ j, j < k → more a e S j) → k ≤ mkn a e S k
  | 0, _ => Nat.zero_le _
  | k + 1, h => by
    have := mkn_ge k (fun j hj => h j (by omega))
    have := mkn_lt (h k (by omega))
    omega
theorem rk_ex (a : Sh) (e : Ex) (S : S1 × S1) : ∃ k, k ≤ 216 ∧ ¬ more a e S k ∧ ∀ j, j < k → more a e S j := by
  have : ∃ k, ¬ more a e S k := by
    apply Classical.byContradiction
    intro h
    have h2 : ∀ j, more a e S j := fun j => Classical.byContradiction (fun q => h ⟨j, q⟩)
    have := mkn_ge (a := a) (e := e) (S := S) 217 (fun j _ => h2 j)
    have := mkn_le a e S 217
    omega
  obtain ⟨k, h1, h2⟩ := pk_least _ this
  have h3 : ∀ j, j < k → more a e S j := fun j hj => Classical.byContradiction (h2 j hj)
  have := mkn_ge k h3
  have := mkn_le a e S k
  exact ⟨k, by omega, h1, h3⟩
noncomputable def rk (a : Sh) (e : Ex) (S : S1 × S1) : Nat := Classical.choose (rk_ex a e S)
theorem rk_le (a : Sh) (e : Ex) (S : S1 × S1) : rk a e S ≤ 216 := (Classical.choose_spec (rk_ex a e S)).1
theorem rk_no (a : Sh) (e : Ex) (S : S1 × S1) : ¬ more a e S (rk a e S) := (Classical.choose_spec (rk_ex a e S)).2.1
theorem rk_yes {a : Sh} {e : Ex} {S : S1 × S1} {j : Nat} (h : j < rk a e S) : more a e S j := (Classical.choose_spec (rk_ex a e S)).2.2 j h
theorem RX.next {M : Mk} {σ : Gh} {k : Nat} {TR TL : Gh} {x xR xL : Nat → Int32} (h : RX M σ k TR TL x xR xL) (k' : Nat) : RX (nx k (M, TR, TL) σ).1 g0 k' (nx k (M, TR, TL) σ).2.1 (nx k (M, TR, TL) σ).2.2 x xR xL := by
  intro o ho
  refine ⟨(h o ho).1, fun c hc => ?_⟩
  obtain ⟨h1, h2, h3⟩ := (h o ho).2 c hc
  refine ⟨?_, ?_, fun _ q => absurd rfl q⟩
  · rw [h1]
    show _ = ((M o c || decide (σ o c ≠ 0)) || decide ((0 : Nat) ≠ 0))
    rw [Bool.or_assoc]
    congr 1
    cases decide (σ o c ≠ 0) <;> rfl
  · intro q
    show xR _ = nI (if M o c = true then TR o c else k + 1) ∧ xL _ = nI (if M o c = true then TL o c else σ o c)
    cases e : M o c
    · rw [if_neg (by decide), if_neg (by decide)]
      have q' : (M o c || decide (σ o c ≠ 0)) = true := q
      rw [e, Bool.false_or, decide_eq_true_eq] at q'
      exact h3 e q'
    · rw [if_pos rfl, if_pos rfl]
      exact h2 e
/-- the arguments that tell of a mark more -/
def EA (e : Ex) (v1 v2 v3 : Int32) : Prop := (e.1 = 0 ∧ v1 = -6) ∨ (e.1 = 1 ∧ v1 = nI e.2.1 ∧ v2 = nI e.2.2 ∧ ¬ v3 = 0 ∧ e.2.1 < 6 ∧ e.2.2 < 18) ∨ (e.1 = 2 ∧ v1 = nI e.2.1 ∧ v2 = nI e.2.2 ∧ v3 = 0 ∧ e.2.1 < 6 ∧ e.2.2 < 18)
abbrev LayT : Type := (Nat → Int32) × (Nat → Int32) × (Nat → Int32) × (Nat → Int32) × (Nat → Int32) × (Nat → Int32) × (Nat → Int32) × (Nat → Int32) × Int32 × Int32
/-- what the rows are when the reference has laid the marks -/
def Laid (a : Sh) (e : Ex) (S : S1 × S1) (t : LayT) : Prop := RX (yK a e S (rk a e S)) g0 (rk a e S) (it a e S (rk a e S)).1.2.1 (it a e S (rk a e S)).1.2.2 t.1 t.2.2.2.2.1 t.2.2.2.2.2.1 ∧ RX (nK a e S (rk a e S)) g0 (rk a e S) (it a e S (rk a e S)).2.2.1 (it a e S (rk a e S)).2.2.2 t.2.1 t.2.2.2.2.2.2.1 t.2.2.2.2.2.2.2.1 ∧ t.2.2.2.2.2.2.2.2.1 = nI (rk a e S)
theorem ne6 {n : Nat} (h : n < 1000) : ¬ nI n = (-6 : Int32) := fun e => nI_pos (n := n) (by omega) (by rw [e]; decide)
theorem lay_tail {rec : Int32 → (Nat → Int32) → (Nat → Int32) → (Nat → Int32) → (Nat → Int32) → (Nat → Int32) → (Nat → Int32) → (Nat → Int32) → (Nat → Int32) → Int32 → Int32 → Option LayT} {y n yt nt yR yL nR nL : Nat → Int32} {q : Int32} {k : Nat} :
    (if q = (0 : Int32) then (lt' (nI k + (0 : Int32)) (fun r : Int32 => rec q y n yt nt yR yL nR nL r q)) else (lt' (nI k + (1 : Int32)) (fun r : Int32 => rec q y n yt nt yR yL nR nL r q))) = rec q y n yt nt yR yL nR nL (nI (if q = 0 then k else k + 1)) q := by
  rcases Decidable.em (q = 0) with h | h
  · rw [if_pos h, if_pos h]
    show rec q y n yt nt yR yL nR nL (nI k + nI 0) q = _
    rw [nI_add]
    rfl
  · rw [if_neg h, if_neg h]
    show rec q y n yt nt yR yL nR nL (nI k + 1) q = _
    rw [nI_1]
theorem im_more {a : Sh} {e : Ex} {S : S1 × S1} {k : Nat} {q : Int32} (h : IM q (hYk a e S k) (hNk a e S k)) (m : more a e S k) : q = 1 := by
  rcases h with h | ⟨_, h⟩
  · exact h.1
  · obtain ⟨o, c, ho, hc, z⟩ := m
    have := h o c ho hc
    rcases z with z | z
    · exact absurd this.1 z
    · exact absurd this.2 z
theorem im_nomore {a : Sh} {e : Ex} {S : S1 × S1} {k : Nat} {q : Int32} (h : IM q (hYk a e S k) (hNk a e S k)) (m : ¬ more a e S k) : q = 0 ∧ eqR (hYk a e S k) g0 ∧ eqR (hNk a e S k) g0 := by
  rcases h with ⟨_, h⟩ | ⟨e, h⟩
  · obtain ⟨o, c, ho, hc, z⟩ := h
    exact absurd ⟨o, c, ho, hc, z⟩ m
  · exact ⟨e, fun o c ho hc => (h o c ho hc).1, fun o c ho hc => (h o c ho hc).2⟩
