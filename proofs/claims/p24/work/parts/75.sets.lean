/-! ===== the law's sets and owners ===== -/
theorem held_ok {d : Nat → Int32} {p : Nat} {δ : Dl} (hd : DR d p δ) (h5 : ∀ c, c < 18 → δ c < 6) {o : Nat} (ho : o < 6) : ∃ m, f_L_held d (nI o) = some m ∧ M18 m ∧ ∀ c, c < 18 → bt m c = decide (δ c = o) := by
  unfold f_L_held
  refine loop (S := Int32 × Int32) (F := fun f s => lo2 (f_L_held_L4 d (nI o)) f s.1 s.2) (B := fun rec s => f_L_held_L4 d (nI o) (fun x y => rec (x, y)) s.1 s.2) (fun _ _ => rfl) (fun k s => s.2 = nI k ∧ M18 s.1 ∧ ∀ c, c < 18 → bt s.1 c = (decide (c < k) && decide (δ c = o))) (fun m => M18 m ∧ ∀ c, c < 18 → bt m c = decide (δ c = o)) 18 ?_ ?_ 18 0 FU (0, 0) rfl (by decide) ⟨rfl, m18_0, fun c _ => by rw [b_0]; rfl⟩
  · rintro k ⟨v2, v3⟩ hk ⟨e1, h1, h2⟩ rec
    replace e1 : v3 = nI k := e1
    subst e1
    replace h1 : M18 v2 := h1
    replace h2 : ∀ c, c < 18 → bt v2 c = (decide (c < k) && decide (δ c = o)) := h2
    (try dsimp only)
    rw [f_L_held_L4, if_neg (show ¬ (18 : Int32) ≤ nI k from nle (a := 18) (by decide) (by omega) hk), gd_r (vp_in_nI (n := k) (by omega) (by decide)), i_cl (by omega), hd.1 k hk, nI_1]
    rcases Nat.decEq (δ k) o with u | u
    · rw [if_neg (fun q => u ((i_eq (by have := h5 k hk; omega) (by omega)).mp q)), lt_r]
      refine Or.inr ⟨(v2 ||| 0, nI (k + 1)), rfl, rfl, m18_or h1 m18_0, fun c hc => ?_⟩
      show bt (v2 ||| 0) c = _
      rw [b_or, b_0, Bool.or_false, h2 c hc]
      rcases Nat.decEq c k with v | v
      · congr 1
        exact decide_eq_decide.mpr (by omega)
      · rw [v, decide_eq_false u, Bool.and_false, Bool.and_false]
    · rw [if_pos (by rw [u]), lt_r]
      refine Or.inr ⟨(v2 ||| ((1 : Int32) <<< (nI k &&& 31)), nI (k + 1)), rfl, rfl, m18_or h1 (m18_one k hk), fun c hc => ?_⟩
      show bt (v2 ||| ((1 : Int32) <<< (nI k &&& 31))) c = _
      rw [b_or, b_one' k hk, h2 c hc]
      rcases Nat.decEq c k with v | v
      · rw [decide_eq_false v, Bool.or_false]
        congr 1
        exact decide_eq_decide.mpr (by omega)
      · rw [v, decide_eq_true u, decide_eq_true (show k = k from rfl), decide_eq_true (show k < k + 1 by omega), Bool.or_true]
        rfl
  · rintro ⟨v2, v3⟩ ⟨e1, h1, h2⟩ rec
    replace e1 : v3 = nI 18 := e1
    subst e1
    (try dsimp only)
    rw [f_L_held_L4, if_pos (show (18 : Int32) ≤ nI 18 from by decide)]
    refine ⟨v2, rfl, h1, fun c hc => ?_⟩
    have : bt v2 c = (decide (c < 18) && decide (δ c = o)) := h2 c hc
    rw [this, decide_eq_true hc, Bool.true_and]
theorem size_ok {x : Int32} (hx : M18 x) : f_L_size x = some (nI (cnt x)) := by
  unfold f_L_size
  obtain ⟨r, e, rfl⟩ := loop (S := Int32 × Int32) (F := fun f s => lo2 (f_L_size_L4 x) f s.1 s.2) (B := fun rec s => f_L_size_L4 x (fun x y => rec (x, y)) s.1 s.2) (fun _ _ => rfl) (fun k s => s = (nI (fb_ct (bt x) k), nI k)) (fun r => r = nI (cnt x)) 18 (by
    rintro k s hk rfl rec
    (try dsimp only)
    rw [f_L_size_L4, if_neg (show ¬ (18 : Int32) ≤ nI k from nle (a := 18) (by decide) (by omega) hk), b_test hx hk, lt_r, nI_1]
    refine Or.inr ⟨(nI (fb_ct (bt x) (k + 1)), nI (k + 1)), ?_, rfl⟩
    rw [fb_ct_succ]
    cases bt x k
    · rw [if_neg (by decide), if_neg (by decide), show nI (fb_ct (bt x) k) + (0 : Int32) = nI (fb_ct (bt x) k + 0) from nI_add _ 0]
    · rw [if_pos rfl, if_pos rfl, nI_1]) (by
    rintro s rfl rec
    (try dsimp only)
    rw [f_L_size_L4, if_pos (show (18 : Int32) ≤ nI 18 from by decide)]
    exact ⟨_, rfl, rfl⟩) 18 0 FU (0, 0) rfl (by decide) rfl
  exact e
theorem isOwn_y {d : Nat → Int32} {a : Sh} {δ : Dl} (hd : DR d (sp a) δ) (hw : WF a) {o : Nat} (w : own a o) : f_L_isOwner d (nI o) = some 1 := by
  have hp := hw.2.1
  have ho := own6 hw w
  unfold f_L_isOwner
  rcases Nat.decEq o 5 with e | e
  · rw [if_neg (show ¬ nI o = (5 : Int32) from fun q => e ((i_eq (b := 5) (by have := own6 hw w; omega) (by decide)).mp q)), show ∀ {α : Type} {k' : Option α}, gd (18 : Int32) 19 k' = k' from gd_r (show vp_in (18 : Int32) 19 from vp_in_nI (n := 18) (by decide) (by decide)), show d (18 : Int32).toNatClampNeg = nI (sp a) from hd.2, if_neg (nle (by omega) (by omega) (w.resolve_right e))]
  · rw [if_pos (show nI o = (5 : Int32) from by rw [e]; rfl)]
theorem isOwn_n {d : Nat → Int32} {a : Sh} {δ : Dl} (hd : DR d (sp a) δ) (hw : WF a) {o : Nat} (ho : o < 6) (w : ¬ own a o) : f_L_isOwner d (nI o) = some 0 := by
  have hp := hw.2.1
  have h1 : ¬ o < sp a := fun q => w (Or.inl q)
  have h2 : ¬ o = 5 := fun q => w (Or.inr q)
  unfold f_L_isOwner
  rw [if_neg (show ¬ nI o = (5 : Int32) from fun q => h2 ((i_eq (b := 5) (by omega) (by decide)).mp q)), show ∀ {α : Type} {k' : Option α}, gd (18 : Int32) 19 k' = k' from gd_r (show vp_in (18 : Int32) 19 from vp_in_nI (n := 18) (by decide) (by decide)), show d (18 : Int32).toNatClampNeg = nI (sp a) from hd.2, if_pos (nI_le (by omega) (by omega))]
/-- a true answer: 1 when the player has one of the three -/
theorem answer_ok {d : Nat → Int32} {p : Nat} {δ : Dl} (hd : DR d p δ) (h5 : ∀ c, c < 18 → δ c < 6) {j x y w : Nat} (hj : j < 6) (hx : x < 6) (hy : y < 6) (hw : w < 6) : ∃ s, s < 2 ∧ f_L_answer d (nI j) (nI x) (nI y) (nI w) = some (nI s) ∧ (s = 1 ↔ δ x = j ∨ δ (6 + y) = j ∨ δ (12 + w) = j) := by
  have key : ∀ c, c < 18 → (d c = nI j ↔ δ c = j) := fun c hc => by
    rw [hd.1 c hc]
    exact i_eq (by have := h5 c hc; omega) (by omega)
  unfold f_L_answer
  rw [gd_r (vp_in_nI (n := x) (by omega) (by decide)), i_cl (by omega), show (6 : Int32) + nI y = nI (6 + y) from nI_add 6 y, show (12 : Int32) + nI w = nI (12 + w) from nI_add 12 w, gd_r (vp_in_nI (n := 6 + y) (by omega) (by decide)), gd_r (vp_in_nI (n := 12 + w) (by omega) (by decide)), i_cl (by omega), i_cl (by omega)]
  rcases Nat.decEq (δ x) j with u | u
  · rw [if_neg (fun q => u ((key x (by omega)).mp q))]
    rcases Nat.decEq (δ (6 + y)) j with v | v
    · rw [if_neg (fun q => v ((key (6 + y) (by omega)).mp q))]
      rcases Nat.decEq (δ (12 + w)) j with z | z
      · rw [if_neg (fun q => z ((key (12 + w) (by omega)).mp q))]
        exact ⟨0, by decide, rfl, ⟨fun h => absurd h (by decide), fun h => by rcases h with h | h | h; exact absurd h u; exact absurd h v; exact absurd h z⟩⟩
      · rw [if_pos ((key (12 + w) (by omega)).mpr z)]
        exact ⟨1, by decide, rfl, fun _ => Or.inr (Or.inr z), fun _ => rfl⟩
    · rw [if_pos ((key (6 + y) (by omega)).mpr v)]
      exact ⟨1, by decide, rfl, fun _ => Or.inr (Or.inl v), fun _ => rfl⟩
  · rw [if_pos ((key x (by omega)).mpr u)]
    exact ⟨1, by decide, rfl, fun _ => Or.inl u, fun _ => rfl⟩
/-- the cards of a kind that the envelope has -/
theorem env_one {a : Sh} {δ : Dl} (hd : GD a δ) {κ : Nat} (hκ : κ < 3) : ∃ c, c < 18 ∧ c / 6 = κ ∧ δ c = 5 ∧ ∀ i, i < 18 → i / 6 = κ → δ i = 5 → i = c := by
  have h : fb_ct (fun c => decide (δ c = 5) && hin 5 κ c) 18 = 1 := hd.2 5 κ (Or.inr rfl) hκ
  obtain ⟨c, hc, h1, h2⟩ := ct_one.mp h
  have e : ∀ i, (decide (δ i = 5) && hin 5 κ i) = true ↔ δ i = 5 ∧ i / 6 = κ := fun i => by
    unfold hin
    rw [if_pos rfl, Bool.and_eq_true, decide_eq_true_eq, decide_eq_true_eq]
  have h1' := (e c).mp h1
  exact ⟨c, hc, h1'.2, h1'.1, fun i hi k1 k2 => h2 i hi ((e i).mpr ⟨k2, k1⟩)⟩
theorem d6 {a : Sh} (hw : WF a) {δ : Dl} (hd : GD a δ) : ∀ c, c < 18 → δ c < 6 := fun c hc => own6 hw (hd.1 c hc)
