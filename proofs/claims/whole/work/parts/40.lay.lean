/-! ===== the rounds, as the document has them; e: a mark more in the first round (0 none, 1 yes, 2 no; owner; card) ===== -/
abbrev Ex : Type := Nat × Nat × Nat
def eY (e : Ex) (k : Nat) : Nat → Nat → Prop := fun x c => k = 0 ∧ e.1 = 1 ∧ x = e.2.1 ∧ c = e.2.2
def eN (e : Ex) (k : Nat) : Nat → Nat → Prop := fun x c => k = 0 ∧ e.1 = 2 ∧ x = e.2.1 ∧ c = e.2.2
noncomputable def hY (a : Sh) (e : Ex) (k : Nat) (Y N : Mk) : Gh := app (gY a Y N) Y 1 (eY e k)
noncomputable def hN (a : Sh) (e : Ex) (k : Nat) (Y N : Mk) : Gh := app (gN a Y N) N 1 (eN e k)
abbrev S1 : Type := Mk × Gh × Gh
def nx (k : Nat) (s : S1) (σ : Gh) : S1 := (fun o c => s.1 o c || decide (σ o c ≠ 0), fun o c => if s.1 o c = true then s.2.1 o c else k + 1, fun o c => if s.1 o c = true then s.2.2 o c else σ o c)
def E0 : S1 × S1 := ((fun _ _ => false, g0, g0), (fun _ _ => false, g0, g0))
noncomputable def it (a : Sh) (e : Ex) (S : S1 × S1) : Nat → S1 × S1
  | 0 => S
  | k + 1 => (nx k (it a e S k).1 (hY a e k (it a e S k).1.1 (it a e S k).2.1), nx k (it a e S k).2 (hN a e k (it a e S k).1.1 (it a e S k).2.1))
noncomputable def yK (a : Sh) (e : Ex) (S : S1 × S1) (k : Nat) : Mk := (it a e S k).1.1
noncomputable def nK (a : Sh) (e : Ex) (S : S1 × S1) (k : Nat) : Mk := (it a e S k).2.1
noncomputable def hYk (a : Sh) (e : Ex) (S : S1 × S1) (k : Nat) : Gh := hY a e k (yK a e S k) (nK a e S k)
noncomputable def hNk (a : Sh) (e : Ex) (S : S1 × S1) (k : Nat) : Gh := hN a e k (yK a e S k) (nK a e S k)
def more (a : Sh) (e : Ex) (S : S1 × S1) (k : Nat) : Prop := ∃ o c, o < 6 ∧ c < 18 ∧ (hYk a e S k o c ≠ 0 ∨ hNk a e S k o c ≠ 0)
theorem app_nz {σ : Gh} {M : Mk} {r : Nat} {P : Nat → Nat → Prop} (h : ∀ o c, σ o c ≠ 0 → M o c = false) : ∀ o c, app σ M r P o c ≠ 0 → M o c = false := fun o c q => by
  rcases Classical.em (σ o c = 0 ∧ M o c = false ∧ P o c) with z | z
  · exact z.2.1
  · rw [show app σ M r P o c = σ o c from ifp_f z] at q
    exact h o c q
theorem g0_nz {M : Mk} : ∀ o c, g0 o c ≠ 0 → M o c = false := fun _ _ h => absurd rfl h
theorem hY_nz {a : Sh} {e : Ex} {k : Nat} {Y N : Mk} : ∀ o c, hY a e k Y N o c ≠ 0 → Y o c = false := app_nz (app_nz (app_nz (app_nz (app_nz g0_nz))))
theorem hN_nz {a : Sh} {e : Ex} {k : Nat} {Y N : Mk} : ∀ o c, hN a e k Y N o c ≠ 0 → N o c = false := app_nz (app_nz (app_nz (app_nz (app_nz g0_nz))))
theorem ct_lt {p q : Nat → Bool} : ∀ {n : Nat}, (∀ k, k < n → p k = true → q k = true) → (∃ k, k < n ∧ p k = false ∧ q k = true) → fb_ct p n < fb_ct q n
  | 0, _, ⟨k, h, _⟩ => absurd h (Nat.not_lt_zero k)
  | n + 1, h, ⟨k, h1, h2, h3⟩ => by
    rw [fb_ct_succ, fb_ct_succ]
    have hs : fb_ct p n ≤ fb_ct q n := fb_ct_sub (fun j hj => h j (by omega))
    rcases Nat.lt_or_ge k n with w | w
    · have := ct_lt (n := n) (p := p) (q := q) (fun j hj => h j (by omega)) ⟨k, w, h2, h3⟩
      have hn := h n (by omega)
      cases ep : p n
      · cases q n <;> simp <;> omega
      · rw [hn ep]
        simp
        omega
    · have : k = n := by omega
      subst this
      rw [h2, h3]
      simp
      omega
noncomputable def mkn (a : Sh) (e : Ex) (S : S1 × S1) (k : Nat) : Nat := fb_ct (fun j => yK a e S k (j / 18) (j % 18)) 108 + fb_ct (fun j => nK a e S k (j / 18) (j % 18)) 108
theorem mkn_lt {a : Sh} {e : Ex} {S : S1 × S1} {k : Nat} (h : more a e S k) : mkn a e S k < mkn a e S (k + 1) := by
  have hy : ∀ o c, yK a e S k o c = true → yK a e S (k + 1) o c = true := fun o c q => by
    show (yK a e S k o c || _) = true
    rw [q]; rfl
  have hn : ∀ o c, nK a e S k o c = true → nK a e S (k + 1) o c = true := fun o c q => by
    show (nK a e S k o c || _) = true
    rw [q]; rfl
  have ly := fb_ct_sub (n := 108) (p := fun j => yK a e S k (j / 18) (j % 18)) (q := fun j => yK a e S (k + 1) (j / 18) (j % 18)) (fun j _ => hy _ _)
  have ln := fb_ct_sub (n := 108) (p := fun j => nK a e S k (j / 18) (j % 18)) (q := fun j => nK a e S (k + 1) (j / 18) (j % 18)) (fun j _ => hn _ _)
  unfold mkn
  obtain ⟨o, c, ho, hc, z⟩ := h
  have e1 : (18 * o + c) / 18 = o := by omega
  have e2 : (18 * o + c) % 18 = c := by omega
  rcases z with z | z
  · have := ct_lt (n := 108) (p := fun j => yK a e S k (j / 18) (j % 18)) (q := fun j => yK a e S (k + 1) (j / 18) (j % 18)) (fun j _ => hy _ _) ⟨18 * o + c, by omega, by rw [e1, e2]; exact hY_nz o c z, by
      rw [e1, e2]
      show (yK a e S k o c || decide (hYk a e S k o c ≠ 0)) = true
      rw [decide_eq_true z, Bool.or_true]⟩
    omega
  · have := ct_lt (n := 108) (p := fun j => nK a e S k (j / 18) (j % 18)) (q := fun j => nK a e S (k + 1) (j / 18) (j % 18)) (fun j _ => hn _ _) ⟨18 * o + c, by omega, by rw [e1, e2]; exact hN_nz o c z, by
      rw [e1, e2]
      show (nK a e S k o c || decide (hNk a e S k o c ≠ 0)) = true
      rw [decide_eq_true z, Bool.or_true]⟩
    omega
theorem mkn_le (a : Sh) (e : Ex) (S : S1 × S1) (k : Nat) : mkn a e S k ≤ 216 := by
  unfold mkn
  have h1 := fb_ct_le (fun j => yK a e S k (j / 18) (j % 18)) 108
  have h2 := fb_ct_le (fun j => nK a e S k (j / 18) (j % 18)) 108
  omega
theorem mkn_ge {a : Sh} {e : Ex} {S : S1 × S1} : ∀ k, (∀ j, j < k → more a e S j) → k ≤ mkn a e S k
  | 0, _ => Nat.zero_le _
  | k + 1, h => by
    have := mkn_ge k (fun j hj => h j (by omega))
    have := mkn_lt (h k (by omega))
    omega
theorem rk_ex (a : Sh) (e : Ex) (S : S1 × S1) : ∃ k, k ≤ 216 ∧ ¬ more a e S k ∧ ∀ j, j < k → more a e S j := by
  have : ∃ k, ¬ more a e S k := by
    apply Classical.byContradiction
    intro h
    have h2 : ∀ j, more a e S j := fun j => Classical.byContradiction (fun q => h ⟨j, q⟩)
    have := mkn_ge (a := a) (e := e) (S := S) 217 (fun j _ => h2 j)
    have := mkn_le a e S 217
    omega
  obtain ⟨k, h1, h2⟩ := pk_least _ this
  have h3 : ∀ j, j < k → more a e S j := fun j hj => Classical.byContradiction (h2 j hj)
  have := mkn_ge k h3
  have := mkn_le a e S k
  exact ⟨k, by omega, h1, h3⟩
noncomputable def rk (a : Sh) (e : Ex) (S : S1 × S1) : Nat := Classical.choose (rk_ex a e S)
theorem rk_le (a : Sh) (e : Ex) (S : S1 × S1) : rk a e S ≤ 216 := (Classical.choose_spec (rk_ex a e S)).1
theorem rk_no (a : Sh) (e : Ex) (S : S1 × S1) : ¬ more a e S (rk a e S) := (Classical.choose_spec (rk_ex a e S)).2.1
theorem rk_yes {a : Sh} {e : Ex} {S : S1 × S1} {j : Nat} (h : j < rk a e S) : more a e S j := (Classical.choose_spec (rk_ex a e S)).2.2 j h
theorem RX.next {M : Mk} {σ : Gh} {k : Nat} {TR TL : Gh} {x xR xL : Nat → Int32} (h : RX M σ k TR TL x xR xL) (k' : Nat) : RX (nx k (M, TR, TL) σ).1 g0 k' (nx k (M, TR, TL) σ).2.1 (nx k (M, TR, TL) σ).2.2 x xR xL := by
  intro o ho
  refine ⟨(h o ho).1, fun c hc => ?_⟩
  obtain ⟨h1, h2, h3⟩ := (h o ho).2 c hc
  refine ⟨?_, ?_, fun _ q => absurd rfl q⟩
  · rw [h1]
    show _ = ((M o c || decide (σ o c ≠ 0)) || decide ((0 : Nat) ≠ 0))
    rw [Bool.or_assoc]
    congr 1
    cases decide (σ o c ≠ 0) <;> rfl
  · intro q
    show xR _ = nI (if M o c = true then TR o c else k + 1) ∧ xL _ = nI (if M o c = true then TL o c else σ o c)
    cases e : M o c
    · rw [if_neg (by decide), if_neg (by decide)]
      have q' : (M o c || decide (σ o c ≠ 0)) = true := q
      rw [e, Bool.false_or, decide_eq_true_eq] at q'
      exact h3 e q'
    · rw [if_pos rfl, if_pos rfl]
      exact h2 e
/-- the arguments that tell of a mark more -/
def EA (e : Ex) (v1 v2 v3 : Int32) : Prop := (e.1 = 0 ∧ v1 = -6) ∨ (e.1 = 1 ∧ v1 = nI e.2.1 ∧ v2 = nI e.2.2 ∧ ¬ v3 = 0 ∧ e.2.1 < 6 ∧ e.2.2 < 18) ∨ (e.1 = 2 ∧ v1 = nI e.2.1 ∧ v2 = nI e.2.2 ∧ v3 = 0 ∧ e.2.1 < 6 ∧ e.2.2 < 18)
abbrev LayT : Type := (Nat → Int32) × (Nat → Int32) × (Nat → Int32) × (Nat → Int32) × (Nat → Int32) × (Nat → Int32) × (Nat → Int32) × (Nat → Int32) × Int32 × Int32
/-- what the rows are when the reference has laid the marks -/
def Laid (a : Sh) (e : Ex) (S : S1 × S1) (t : LayT) : Prop := RX (yK a e S (rk a e S)) g0 (rk a e S) (it a e S (rk a e S)).1.2.1 (it a e S (rk a e S)).1.2.2 t.1 t.2.2.2.2.1 t.2.2.2.2.2.1 ∧ RX (nK a e S (rk a e S)) g0 (rk a e S) (it a e S (rk a e S)).2.2.1 (it a e S (rk a e S)).2.2.2 t.2.1 t.2.2.2.2.2.2.1 t.2.2.2.2.2.2.2.1 ∧ t.2.2.2.2.2.2.2.2.1 = nI (rk a e S)
theorem ne6 {n : Nat} (h : n < 1000) : ¬ nI n = (-6 : Int32) := fun e => nI_pos (n := n) (by omega) (by rw [e]; decide)
theorem lay_tail {rec : Int32 → (Nat → Int32) → (Nat → Int32) → (Nat → Int32) → (Nat → Int32) → (Nat → Int32) → (Nat → Int32) → (Nat → Int32) → (Nat → Int32) → Int32 → Int32 → Option LayT} {y n yt nt yR yL nR nL : Nat → Int32} {q : Int32} {k : Nat} :
    (if q = (0 : Int32) then (lt' (nI k + (0 : Int32)) (fun r : Int32 => rec q y n yt nt yR yL nR nL r q)) else (lt' (nI k + (1 : Int32)) (fun r : Int32 => rec q y n yt nt yR yL nR nL r q))) = rec q y n yt nt yR yL nR nL (nI (if q = 0 then k else k + 1)) q := by
  rcases Decidable.em (q = 0) with h | h
  · rw [if_pos h, if_pos h]
    show rec q y n yt nt yR yL nR nL (nI k + nI 0) q = _
    rw [nI_add]
    rfl
  · rw [if_neg h, if_neg h]
    show rec q y n yt nt yR yL nR nL (nI k + 1) q = _
    rw [nI_1]
theorem lay_round {S : S1 × S1} {a : Sh} (hw : WF a) {z : Nat → Int32} (hz : RZ z a) {e : Ex} {v1 v2 v3 : Int32} (he : EA e v1 v2 v3) {k : Nat} (hk : k < 1000) {rec : Int32 → (Nat → Int32) → (Nat → Int32) → (Nat → Int32) → (Nat → Int32) → (Nat → Int32) → (Nat → Int32) → (Nat → Int32) → (Nat → Int32) → Int32 → Int32 → Option LayT} {T1 T2 T3 T4 : Gh} {yes no yt nt yR yL nR nL : Nat → Int32} {q : Int32} (hYY : RX (yK a e S k) g0 k T1 T2 yes yR yL) (hNN : RX (nK a e S k) g0 k T3 T4 no nR nL) :
    ∃ y n yt' nt' yR' yL' nR' nL' q', f_X6_layWith_L40 z v1 v2 v3 rec (1 : Int32) yes no yt nt yR yL nR nL (nI k) q = rec q' y n yt' nt' yR' yL' nR' nL' (nI (if q' = 0 then k else k + 1)) q' ∧ RX (yK a e S k) (hYk a e S k) k T1 T2 y yR' yL' ∧ RX (nK a e S k) (hNk a e S k) k T3 T4 n nR' nL' ∧ IM q' (hYk a e S k) (hNk a e S k) := by
  rw [f_X6_layWith_L40, if_neg (by decide)]
  obtain ⟨y1, n1, yt', nt', a1, a2, a3, a4, q1, e1, e2, e3, e4⟩ := goRound_ok hw hz (yt := yt) (nt := nt) (q := q) hYY hNN
  rw [ob9_r e1]
  have plain : (∀ x c, ¬ eY e k x c) → (∀ x c, ¬ eN e k x c) → RX (yK a e S k) (hYk a e S k) k T1 T2 y1 a1 a2 ∧ RX (nK a e S k) (hNk a e S k) k T3 T4 n1 a3 a4 ∧ IM q1 (hYk a e S k) (hNk a e S k) := by
    intro p1 p2
    have c1 : hYk a e S k = gY a (yK a e S k) (nK a e S k) := app_no p1
    have c2 : hNk a e S k = gN a (yK a e S k) (nK a e S k) := app_no p2
    rw [c1, c2]
    exact ⟨e2, e3, e4⟩
  rcases Nat.decEq k 0 with k0 | k0
  · have hn0 : ¬ nI k = (0 : Int32) := fun h => k0 ((i_eq (b := 0) (by omega) (by decide)).mp h)
    rw [if_neg hn0, f_X6_layWith_J78, if_neg hn0, lay_tail]
    exact ⟨y1, n1, yt', nt', a1, a2, a3, a4, q1, rfl, plain (fun x c h => k0 h.1) (fun x c h => k0 h.1)⟩
  · have hp0 : nI k = (0 : Int32) := by rw [k0]; rfl
    rw [if_pos hp0]
    rcases he with ⟨m, rfl⟩ | ⟨m, rfl, rfl, h3, ho, hc⟩ | ⟨m, rfl, rfl, h3, ho, hc⟩
    · rw [if_pos rfl, f_X6_layWith_J78, if_pos hp0, if_pos rfl, lay_tail]
      exact ⟨y1, n1, yt', nt', a1, a2, a3, a4, q1, rfl, plain (fun x c h => by have := h.2.1; omega) (fun x c h => by have := h.2.1; omega)⟩
    · rw [if_neg (ne6 (by omega)), if_neg h3]
      obtain ⟨y2, b1, b2, q2, f1, f2, f3⟩ := giveY_rx e2 e4 ho (m18_one e.2.2 hc) (r := 1) (by decide) (rl := 1) rfl
      rw [ob4_r f1, lay_tail]
      have c1 : app (gY a (yK a e S k) (nK a e S k)) (yK a e S k) 1 (one e.2.1 ((1 : Int32) <<< (nI e.2.2 &&& 31))) = hYk a e S k := app_c fun x c => by
        unfold one
        rw [b_one' _ hc, decide_eq_true_eq]
        exact ⟨fun h => ⟨k0, m, h.1, h.2⟩, fun h => ⟨h.2.2.1, h.2.2.2⟩⟩
      have c2 : hNk a e S k = gN a (yK a e S k) (nK a e S k) := app_no (fun x c h => by have := h.2.1; omega)
      rw [c1] at f2 f3
      rw [← c2] at e3 f3
      exact ⟨y2, n1, yt', nt', b1, b2, a3, a4, q2, rfl, f2, e3, f3⟩
    · rw [if_neg (ne6 (by omega)), if_pos h3, f_X6_layWith_J78, if_pos hp0, if_neg (ne6 (by omega))]
      obtain ⟨n2, b1, b2, q2, f1, f2, f3⟩ := giveN_rx e3 e4 ho (m18_one e.2.2 hc) (r := 1) (by decide) (rl := 1) rfl
      rw [ob4_r f1, lay_tail]
      have c1 : app (gN a (yK a e S k) (nK a e S k)) (nK a e S k) 1 (one e.2.1 ((1 : Int32) <<< (nI e.2.2 &&& 31))) = hNk a e S k := app_c fun x c => by
        unfold one
        rw [b_one' _ hc, decide_eq_true_eq]
        exact ⟨fun h => ⟨k0, m, h.1, h.2⟩, fun h => ⟨h.2.2.1, h.2.2.2⟩⟩
      have c2 : hYk a e S k = gY a (yK a e S k) (nK a e S k) := app_no (fun x c h => by have := h.2.1; omega)
      rw [c1] at f2 f3
      rw [← c2] at e2 f3
      exact ⟨y1, n2, yt', nt', a1, a2, b1, b2, q2, rfl, e2, f2, f3⟩
theorem im_more {a : Sh} {e : Ex} {S : S1 × S1} {k : Nat} {q : Int32} (h : IM q (hYk a e S k) (hNk a e S k)) (m : more a e S k) : q = 1 := by
  rcases h with h | ⟨_, h⟩
  · exact h.1
  · obtain ⟨o, c, ho, hc, z⟩ := m
    have := h o c ho hc
    rcases z with z | z
    · exact absurd this.1 z
    · exact absurd this.2 z
theorem im_nomore {a : Sh} {e : Ex} {S : S1 × S1} {k : Nat} {q : Int32} (h : IM q (hYk a e S k) (hNk a e S k)) (m : ¬ more a e S k) : q = 0 ∧ eqR (hYk a e S k) g0 ∧ eqR (hNk a e S k) g0 := by
  rcases h with ⟨_, h⟩ | ⟨e, h⟩
  · obtain ⟨o, c, ho, hc, z⟩ := h
    exact absurd ⟨o, c, ho, hc, z⟩ m
  · exact ⟨e, fun o c ho hc => (h o c ho hc).1, fun o c ho hc => (h o c ho hc).2⟩
theorem lay_go {S : S1 × S1} {a : Sh} (hw : WF a) {z : Nat → Int32} (hz : RZ z a) {e : Ex} {v1 v2 v3 : Int32} (he : EA e v1 v2 v3) : ∀ (d k fuel : Nat), k + d = rk a e S → d + 1 < fuel → ∀ (yes no yt nt yR yL nR nL : Nat → Int32) (q : Int32), RX (yK a e S k) g0 k (it a e S k).1.2.1 (it a e S k).1.2.2 yes yR yL → RX (nK a e S k) g0 k (it a e S k).2.2.1 (it a e S k).2.2.2 no nR nL →
    ∃ t : LayT, lo11 (f_X6_layWith_L40 z v1 v2 v3) fuel (1 : Int32) yes no yt nt yR yL nR nL (nI k) q = some t ∧ Laid a e S t := by
  have hR := rk_le a e S
  intro d
  induction d with
  | zero =>
    intro k fuel h1 h2 yes no yt nt yR yL nR nL q hYY hNN
    obtain ⟨f, rfl⟩ : ∃ f, fuel = f + 2 := ⟨fuel - 2, by omega⟩
    have hk : k = rk a e S := by omega
    obtain ⟨y1, n1, yt', nt', a1, a2, a3, a4, q1, e1, e2, e3, e4⟩ := lay_round hw hz he (k := k) (by omega) (rec := lo11 (f_X6_layWith_L40 z v1 v2 v3) (f + 1)) (yt := yt) (nt := nt) (q := q) hYY hNN
    obtain ⟨rfl, c1, c2⟩ := im_nomore e4 (by rw [hk]; exact rk_no a e S)
    refine ⟨(y1, n1, yt', nt', a1, a2, a3, a4, nI k, 0), ?_, ?_⟩
    · show f_X6_layWith_L40 z v1 v2 v3 (lo11 (f_X6_layWith_L40 z v1 v2 v3) (f + 1)) (1 : Int32) yes no yt nt yR yL nR nL (nI k) q = _
      rw [e1, if_pos rfl]
      show f_X6_layWith_L40 z v1 v2 v3 (lo11 (f_X6_layWith_L40 z v1 v2 v3) f) (0 : Int32) y1 n1 yt' nt' a1 a2 a3 a4 (nI k) 0 = _
      rw [f_X6_layWith_L40, if_pos rfl]
    · subst hk
      exact ⟨e2.cong c1, e3.cong c2, rfl⟩
  | succ d ih =>
    intro k fuel h1 h2 yes no yt nt yR yL nR nL q hYY hNN
    obtain ⟨f, rfl⟩ : ∃ f, fuel = f + 1 := ⟨fuel - 1, by omega⟩
    obtain ⟨y1, n1, yt', nt', a1, a2, a3, a4, q1, e1, e2, e3, e4⟩ := lay_round hw hz he (k := k) (by omega) (rec := lo11 (f_X6_layWith_L40 z v1 v2 v3) f) (yt := yt) (nt := nt) (q := q) hYY hNN
    have hq := im_more e4 (rk_yes (by omega))
    subst hq
    obtain ⟨t, g1, g2⟩ := ih (k + 1) f (by omega) (by omega) y1 n1 yt' nt' a1 a2 a3 a4 1 (e2.next (k + 1)) (e3.next (k + 1))
    refine ⟨t, ?_, g2⟩
    show f_X6_layWith_L40 z v1 v2 v3 (lo11 (f_X6_layWith_L40 z v1 v2 v3) f) (1 : Int32) yes no yt nt yR yL nR nL (nI k) q = _
    rw [e1, if_neg (by decide)]
    exact g1
theorem lay_clear {a : Sh} (hw : WF a) {z : Nat → Int32} (hz : RZ z a) {e : Ex} {v1 v2 v3 : Int32} (he : EA e v1 v2 v3) {yt nt yR yL nR nL : Nat → Int32} {q : Int32} : ∀ (d o fuel : Nat), o + d = 6 → d < fuel → ∀ (yes no : Nat → Int32), (∀ x, x < o → yes x = 0 ∧ no x = 0) →
    ∃ t : LayT, lo3 (f_X6_layWith_L3 z yt nt yR yL nR nL q v1 v2 v3) fuel (nI o) yes no = some t ∧ Laid a e E0 t := by
  intro d
  induction d with
  | zero =>
    intro o fuel h1 h2 yes no h
    obtain ⟨f, rfl⟩ : ∃ f, fuel = f + 1 := ⟨fuel - 1, by omega⟩
    have ho : o = 6 := by omega
    subst ho
    have h0 : ∀ (x xR xL : Nat → Int32), (∀ o, o < 6 → x o = 0) → RX (fun _ _ => false) g0 0 g0 g0 x xR xL := fun x xR xL hx o ho => ⟨by rw [hx o ho]; exact m18_0, fun c hc => ⟨by rw [hx o ho, b_0]; rfl, fun q => Bool.noConfusion q, fun _ q => absurd rfl q⟩⟩
    obtain ⟨t, g1, g2⟩ := lay_go (S := E0) hw hz he (rk a e E0) 0 FU (by omega) (by have := rk_le a e E0; have := fu_big; omega) yes no yt nt yR yL nR nL q (h0 yes yR yL (fun o ho => (h o ho).1)) (h0 no nR nL (fun o ho => (h o ho).2))
    refine ⟨t, ?_, g2⟩
    show f_X6_layWith_L3 z yt nt yR yL nR nL q v1 v2 v3 (lo3 (f_X6_layWith_L3 z yt nt yR yL nR nL q v1 v2 v3) f) (nI 6) yes no = _
    rw [f_X6_layWith_L3, if_pos (show (6 : Int32) ≤ nI 6 from by decide)]
    exact g1
  | succ d ih =>
    intro o fuel h1 h2 yes no h
    obtain ⟨f, rfl⟩ : ∃ f, fuel = f + 1 := ⟨fuel - 1, by omega⟩
    have ho : o < 6 := by omega
    have hhead : lo3 (f_X6_layWith_L3 z yt nt yR yL nR nL q v1 v2 v3) (f + 1) (nI o) yes no = f_X6_layWith_L3 z yt nt yR yL nR nL q v1 v2 v3 (lo3 (f_X6_layWith_L3 z yt nt yR yL nR nL q v1 v2 v3) f) (nI o) yes no := rfl
    rw [hhead, f_X6_layWith_L3, if_neg (show ¬ (6 : Int32) ≤ nI o from nle (a := 6) (by decide) (by omega) ho), gd_r (vp_in_nI ho (by decide)), i_cl (by omega)]
    unfold lt'
    dsimp only
    rw [gd_r (vp_in_nI ho (by decide)), nI_1]
    refine ih (o + 1) f (by omega) (by omega) _ _ (fun x hx => ?_)
    rcases Nat.decEq x o with e | e
    · rw [pk_un e, pk_un e]
      exact h x (by omega)
    · rw [e, pk_us, pk_us]
      exact ⟨rfl, rfl⟩
theorem layWith_ok {a : Sh} (hw : WF a) {z : Nat → Int32} (hz : RZ z a) {e : Ex} {v1 v2 v3 : Int32} (he : EA e v1 v2 v3) (yes no yt nt yR yL nR nL : Nat → Int32) (r q : Int32) : ∃ t : LayT, f_X6_layWith z yes no yt nt yR yL nR nL r q v1 v2 v3 = some t ∧ Laid a e E0 t := by
  unfold f_X6_layWith
  exact lay_clear hw hz he 6 0 FU rfl (by decide) yes no (fun x h => absurd h (Nat.not_lt_zero x))
