/-! ===== the law's own methods: numbers of the script, the deal ===== -/
theorem low_ok (v : Int32) {n : Nat} (h0 : 0 < n) (hn : n < 1000) : ∃ k, k < n ∧ f_L_low v (nI n) = some (nI k) := by
  obtain ⟨j, hj, e⟩ := pk_andE v (m := 2147483647) 31 (by decide)
  unfold f_L_low
  rw [nz_r (nI_ne0 h0 (by omega)), e, pk_rem (show j < 2 ^ 31 from hj) h0 (by omega)]
  exact ⟨j % n, Nat.mod_lt _ h0, rfl⟩
theorem low6 (v : Int32) : ∃ k, k < 6 ∧ f_L_low v 6 = some (nI k) := low_ok v (n := 6) (by decide) (by decide)
theorem cell_ok {L : Nat} (hL : L ≤ 260) (xs : Nat → Int32) {i : Nat} (hi : i < 1000) : ∃ r, f_L_cell L xs (nI i) = some r := by
  unfold f_L_cell
  rcases Nat.lt_or_ge i L with h | h
  · rw [if_neg (show ¬ Int32.ofNat L ≤ nI i from nle (by omega) (by omega) h), gd_r (vp_in_nI h (by omega))]
    exact ⟨_, rfl⟩
  · rw [if_pos (show Int32.ofNat L ≤ nI i from nI_le h (by omega))]
    exact ⟨_, rfl⟩
def ctv (r : Nat → Int32) (v : Int32) : Nat := fb_ct (fun c => decide (r c = v)) 18
def ctk (r : Nat → Int32) (κ : Nat) : Nat := fb_ct (fun c => decide (r c = 5) && decide (c / 6 = κ)) 18
theorem ctv_upd (r : Nat → Int32) {i : Nat} (hi : i < 18) (x v : Int32) : ctv (upd r i x) v + (if r i = v then 1 else 0) = ctv r v + (if x = v then 1 else 0) := by
  have h := fb_ct_upd (fun c => decide (r c = v)) (decide (x = v)) (n := 18) hi
  have e : (fun k => if k = i then decide (x = v) else decide (r k = v)) = fun c => decide (upd r i x c = v) := funext fun k => by
    rcases Nat.decEq k i with u | u
    · rw [if_neg u, pk_un u]
    · rw [if_pos u, u, pk_us]
  rw [e] at h
  simp only [decide_eq_true_eq] at h
  exact h
theorem ctk_upd (r : Nat → Int32) {i : Nat} (hi : i < 18) (x : Int32) (κ : Nat) : ctk (upd r i x) κ + (if r i = 5 ∧ i / 6 = κ then 1 else 0) = ctk r κ + (if x = 5 ∧ i / 6 = κ then 1 else 0) := by
  have h := fb_ct_upd (fun c => decide (r c = 5) && decide (c / 6 = κ)) (decide (x = 5) && decide (i / 6 = κ)) (n := 18) hi
  have e : (fun k => if k = i then (decide (x = 5) && decide (i / 6 = κ)) else (decide (r k = 5) && decide (k / 6 = κ))) = fun c => decide (upd r i x c = 5) && decide (c / 6 = κ) := funext fun k => by
    rcases Nat.decEq k i with u | u
    · rw [if_neg u, pk_un u]
    · rw [if_pos u, u, pk_us]
  rw [e] at h
  simp only [Bool.and_eq_true, decide_eq_true_eq] at h
  exact h
/-- a row of all cards in some order -/
def OD (n : Nat → Int32) : Prop := (∀ i, i < 18 → ∃ c, c < 18 ∧ n i = nI c) ∧ ∀ c, c < 18 → ∃ i, i < 18 ∧ n i = nI c
/-- the law's row of a deal -/
def DR (d : Nat → Int32) (p : Nat) (δ : Dl) : Prop := (∀ c, c < 18 → d c = nI (δ c)) ∧ d 18 = nI p
def RW (p : Nat) (n : Nat → Int32) (k t : Nat) (r : Nat → Int32) : Prop := (∀ c, c < 18 → r c = -1 ∨ r c = 5 ∨ ∃ o, o < p ∧ r c = nI o) ∧ (∀ κ, κ < 3 → ctk r κ = 1) ∧ (∀ o, o < p → ctv r (nI o) = fb_ct (fun i => decide (i % p = o)) t) ∧ ctv r (-1) + t = 15 ∧ ∀ i, i < k → ∀ c, c < 18 → n i = nI c → r c ≠ -1
theorem m1_ne {o : Nat} (ho : o < 1000) : ¬ (-1 : Int32) = nI o := fun e => nI_pos (n := o) (by omega) (by rw [← e]; decide)
theorem size_15 : ∀ p, p < 6 → 2 ≤ p → ∀ o, o < p → fb_ct (fun i => decide (i % p = o)) 15 = 15 / p + (if o < 15 % p then 1 else 0) := by decide +kernel
theorem deal_end {p : Nat} (hp2 : 2 ≤ p) (hp5 : p ≤ 5) {n : Nat → Int32} (hn : OD n) {t : Nat} {r : Nat → Int32} (h : RW p n 18 t r) : ∃ δ, DR (upd r 18 (nI p)) p δ ∧ GD (shNew p) δ := by
  obtain ⟨h1, h2, h3, h4, h5⟩ := h
  have hm : ∀ c, c < 18 → r c ≠ -1 := fun c hc => by
    obtain ⟨i, hi, e⟩ := hn.2 c hc
    exact h5 i hi c hc e
  have ht : t = 15 := by
    have : ctv r (-1) = 0 := fb_ct_zero.mpr fun c hc => decide_eq_false (hm c hc)
    omega
  subst ht
  have hv : ∀ c, c < 18 → ∃ o, (o < p ∨ o = 5) ∧ r c = nI o := fun c hc => by
    rcases h1 c hc with q | q | ⟨o, q1, q2⟩
    · exact absurd q (hm c hc)
    · exact ⟨5, Or.inr rfl, q⟩
    · exact ⟨o, Or.inl q1, q2⟩
  have hδ : ∀ c, c < 18 → ((r c).toNatClampNeg < p ∨ (r c).toNatClampNeg = 5) ∧ r c = nI (r c).toNatClampNeg := fun c hc => by
    obtain ⟨o, w, e⟩ := hv c hc
    have ho : o < 1000 := by omega
    have e2 : (r c).toNatClampNeg = o := by rw [e]; exact i_cl (by omega)
    rw [e2]
    exact ⟨w, e⟩
  have hd : ∀ c, c < 18 → ∀ o, o < 1000 → ((r c).toNatClampNeg = o ↔ r c = nI o) := fun c hc o ho => ⟨fun e => by rw [← e]; exact (hδ c hc).2, fun e => by rw [e]; exact i_cl (by omega)⟩
  refine ⟨fun c => (r c).toNatClampNeg, ⟨fun c hc => ?_, pk_us⟩, fun c hc => (hδ c hc).1, fun o κ w hκ => ?_⟩
  · rw [pk_un (by omega)]
    exact (hδ c hc).2
  · rcases Nat.decEq o 5 with e | e
    · have hp : o < p := w.resolve_right e
      have e1 : fb_ct (fun c => decide ((r c).toNatClampNeg = o) && hin o κ c) 18 = ctv r (nI o) := fb_ct_cong fun c hc => by
        unfold hin
        rw [if_neg e, Bool.and_true]
        exact decide_eq_decide.mpr (hd c hc o (by omega))
      rw [e1, h3 o hp, size_15 p (by omega) hp2 o hp]
      unfold hs size
      rw [if_neg e]
      rfl
    · subst e
      have e1 : fb_ct (fun c => decide ((r c).toNatClampNeg = 5) && hin 5 κ c) 18 = ctk r κ := fb_ct_cong fun c hc => by
        unfold hin
        rw [if_pos rfl, decide_eq_decide.mpr (hd c hc 5 (by decide))]
        rfl
      rw [e1, h2 κ hκ]
      rfl
theorem deal144 {p : Nat} (hp2 : 2 ≤ p) (hp5 : p ≤ 5) {n : Nat → Int32} (hn : OD n) {r : Nat → Int32} (h : RW p n 0 0 r) : ∃ q, lo3 (f_L_deal_L144 (nI p) n) FU 0 0 r = some q ∧ ∃ δ, DR q.1 p δ ∧ GD (shNew p) δ := by
  refine loop (S := Int32 × Int32 × (Nat → Int32)) (F := fun f s => lo3 (f_L_deal_L144 (nI p) n) f s.1 s.2.1 s.2.2) (B := fun rec s => f_L_deal_L144 (nI p) n (fun x y w => rec (x, y, w)) s.1 s.2.1 s.2.2) (fun _ _ => rfl) (fun k s => ∃ t, s.1 = nI t ∧ s.2.1 = nI k ∧ RW p n k t s.2.2) _ 18 ?_ ?_ 18 0 FU (0, 0, r) rfl (by decide) ⟨0, rfl, rfl, h⟩
  · rintro k ⟨v4, v5, r⟩ hk ⟨t, e1, e2, h⟩ rec
    replace e1 : v4 = nI t := e1
    replace e2 : v5 = nI k := e2
    subst e1 e2
    replace h : RW p n k t r := h
    have h0 := h
    obtain ⟨h1, h2, h3, h4, h5⟩ := h
    obtain ⟨c0, hc0, ec⟩ := hn.1 k hk
    (try dsimp only)
    rw [f_L_deal_L144, if_neg (show ¬ (18 : Int32) ≤ nI k from nle (a := 18) (by decide) (by omega) hk), gd_r (vp_in_nI (n := k) hk (by decide)), i_cl (by omega), ec, gd_r (vp_in_nI (n := c0) (by omega) (by decide)), i_cl (by omega), nI_1]
    have keep : ¬ r c0 = -1 → RW p n (k + 1) t r := fun q => ⟨h1, h2, h3, h4, fun i hi c hc e => by
      rcases Nat.decEq i k with u | u
      · exact h5 i (by omega) c hc e
      · subst u
        rw [ec] at e
        have := (i_eq (by omega) (by omega)).mp e
        subst this
        exact q⟩
    rcases Decidable.em (r c0 = -1) with q | q
    · rw [if_neg (show ¬ (0 : Int32) ≤ r c0 from by rw [q]; decide), gd_r (vp_in_nI (n := k) hk (by decide)), nz_r (nI_ne0 (by omega) (by omega)), gd_r (vp_in_nI (n := c0) (by omega) (by decide)), lt_r, lt_r, nI_1]
      have hpos : 0 < ctv r (-1) := fb_ct_pos.mpr ⟨c0, hc0, decide_eq_true q⟩
      have ht : t < 15 := by omega
      rw [pk_rem (by omega) (by omega) (by omega)]
      have hm : t % p < p := Nat.mod_lt _ (by omega)
      refine Or.inr ⟨(nI (t + 1), nI (k + 1), upd r c0 (nI (t % p))), rfl, t + 1, rfl, rfl, ?_⟩
      show RW p n (k + 1) (t + 1) (upd r c0 (nI (t % p)))
      refine ⟨fun c hc => ?_, fun κ hκ => ?_, fun o ho => ?_, ?_, fun i hi c hc e => ?_⟩
      · rcases Nat.decEq c c0 with u | u
        · rw [show upd r c0 (nI (t % p)) c = r c from pk_un u]; exact h1 c hc
        · rw [u, show upd r c0 (nI (t % p)) c0 = _ from pk_us]; exact Or.inr (Or.inr ⟨_, hm, rfl⟩)
      · have := ctk_upd r hc0 (nI (t % p)) κ
        rw [if_neg (show ¬ (r c0 = 5 ∧ c0 / 6 = κ) from fun z => by rw [q] at z; exact absurd z.1 (by decide)), if_neg (show ¬ (nI (t % p) = 5 ∧ c0 / 6 = κ) from fun z => by have := (i_eq (b := 5) (by omega) (by decide)).mp z.1; omega), h2 κ hκ] at this
        exact this
      · have := ctv_upd r hc0 (nI (t % p)) (nI o)
        rw [if_neg (show ¬ r c0 = nI o from fun z => by rw [q] at z; exact m1_ne (by omega) z), h3 o ho] at this
        rw [fb_ct_succ]
        show ctv (upd r c0 (nI (t % p))) (nI o) = _
        rw [Nat.add_zero] at this
        rw [this]
        congr 1
        rcases Nat.decEq (t % p) o with u | u
        · rw [if_neg (fun z => u ((i_eq (by omega) (by omega)).mp z)), decide_eq_false u]; rfl
        · rw [if_pos (by rw [u]), decide_eq_true u]; rfl
      · have := ctv_upd r hc0 (nI (t % p)) (-1)
        rw [if_pos q, if_neg (show ¬ nI (t % p) = -1 from fun z => m1_ne (o := t % p) (by omega) z.symm)] at this
        show ctv (upd r c0 (nI (t % p))) (-1) + (t + 1) = 15
        omega
      · rcases Nat.decEq c c0 with u | u
        · rw [show upd r c0 (nI (t % p)) c = r c from pk_un u]
          rcases Nat.decEq i k with u2 | u2
          · exact h5 i (by omega) c hc e
          · subst u2
            rw [ec] at e
            exact absurd ((i_eq (by omega) (by omega)).mp e).symm u
        · rw [u, show upd r c0 (nI (t % p)) c0 = _ from pk_us]
          exact fun z => m1_ne (o := t % p) (by omega) z.symm
    · have hge : (0 : Int32) ≤ r c0 := by
        rcases h1 c0 hc0 with z | z | ⟨o, z1, z2⟩
        · exact absurd z q
        · rw [z]; decide
        · rw [z2]; exact nI_pos' (by omega)
      rw [if_pos hge]
      exact Or.inr ⟨(nI t, nI (k + 1), r), rfl, t, rfl, rfl, keep q⟩
  · rintro ⟨v4, v5, r⟩ ⟨t, e1, e2, h⟩ rec
    replace e1 : v4 = nI t := e1
    replace e2 : v5 = nI 18 := e2
    subst e1 e2
    (try dsimp only)
    rw [f_L_deal_L144, if_pos (show (18 : Int32) ≤ nI 18 from by decide), show ∀ {α : Type} {k' : Option α}, gd (18 : Int32) 19 k' = k' from gd_r (show vp_in (18 : Int32) 19 from vp_in_nI (n := 18) (by decide) (by decide)), lt_r]
    exact ⟨_, rfl, deal_end hp2 hp5 hn h⟩
theorem deal101 {p : Nat} (hp2 : 2 ≤ p) (hp5 : p ≤ 5) {L : Nat} (hL : L ≤ 260) (xs : Nat → Int32) {n : Nat → Int32} (hn : OD n) {r : Nat → Int32} (h : ∀ c, c < 18 → r c = -1) : ∃ q, lo2 (f_L_deal_L101 L xs (nI p) n) FU 0 r = some q ∧ ∃ δ, DR q.1 p δ ∧ GD (shNew p) δ := by
  refine loop (S := Int32 × (Nat → Int32)) (F := fun f s => lo2 (f_L_deal_L101 L xs (nI p) n) f s.1 s.2) (B := fun rec s => f_L_deal_L101 L xs (nI p) n (fun x y => rec (x, y)) s.1 s.2) (fun _ _ => rfl) (fun k s => s.1 = nI k ∧ (∀ c, c < 18 → s.2 c = -1 ∨ s.2 c = 5) ∧ (∀ κ, κ < 3 → ctk s.2 κ = if κ < k then 1 else 0) ∧ ctv s.2 (-1) + k = 18) _ 3 ?_ ?_ 3 0 FU (0, r) rfl (by decide) ⟨rfl, fun c hc => Or.inl (h c hc), fun κ hκ => ?_, ?_⟩
  · rintro k ⟨v4, r⟩ hk ⟨e1, h1, h2, h3⟩ rec
    replace e1 : v4 = nI k := e1
    subst e1
    replace h1 : ∀ c, c < 18 → r c = -1 ∨ r c = 5 := h1
    replace h2 : ∀ κ, κ < 3 → ctk r κ = if κ < k then 1 else 0 := h2
    replace h3 : ctv r (-1) + k = 18 := h3
    (try dsimp only)
    obtain ⟨x, ex⟩ := cell_ok hL xs (i := 10) (by decide)
    obtain ⟨j, hj, ej⟩ := low6 (x >>> (((4 : Int32) * nI k) &&& 31))
    rw [f_L_deal_L101, if_neg (show ¬ (3 : Int32) ≤ nI k from nle (a := 3) (by decide) (by omega) hk), ob1_r (show f_L_cell L xs (10 : Int32) = some x from ex), ob1_r ej, show (6 : Int32) * nI k = nI (6 * k) from pk_mul 6 k, nI_add, gd_r (vp_in_nI (n := 6 * k + j) (by omega) (by decide)), i_cl (by omega), lt_r, nI_1]
    have hi : 6 * k + j < 18 := by omega
    have hk6 : (6 * k + j) / 6 = k := by omega
    have hm : r (6 * k + j) = -1 := by
      refine (h1 _ hi).resolve_right fun q => ?_
      have h0 := h2 k hk
      rw [if_neg (Nat.lt_irrefl k)] at h0
      have := (fb_ct_zero.mp h0) _ hi
      rw [decide_eq_true q, decide_eq_true hk6] at this
      exact Bool.noConfusion this
    refine Or.inr ⟨(nI (k + 1), upd r (6 * k + j) 5), rfl, rfl, fun c hc => ?_, fun κ hκ => ?_, ?_⟩
    · show upd r (6 * k + j) 5 c = -1 ∨ upd r (6 * k + j) 5 c = 5
      rcases Nat.decEq c (6 * k + j) with u | u
      · rw [pk_un u]; exact h1 c hc
      · rw [u, pk_us]; exact Or.inr rfl
    · have := ctk_upd r hi 5 κ
      rw [if_neg (show ¬ (r (6 * k + j) = 5 ∧ (6 * k + j) / 6 = κ) from fun z => by rw [hm] at z; exact absurd z.1 (by decide)), h2 κ hκ, hk6] at this
      show ctk (upd r (6 * k + j) 5) κ = _
      rcases Nat.decEq k κ with u | u
      · rw [if_neg (show ¬ ((5 : Int32) = 5 ∧ k = κ) from fun z => u z.2)] at this
        rw [show ctk (upd r (6 * k + j) 5) κ = (if κ < k then 1 else 0) from this]
        rcases Nat.lt_or_ge κ k with v | v
        · rw [if_pos v, if_pos (by omega)]
        · rw [if_neg (by omega), if_neg (by omega)]
      · rw [if_pos (show ((5 : Int32) = 5 ∧ k = κ) from ⟨rfl, u⟩), if_neg (by omega)] at this
        rw [show ctk (upd r (6 * k + j) 5) κ = 1 from this, if_pos (by omega)]
    · have := ctv_upd r hi 5 (-1)
      rw [if_pos hm, if_neg (by decide)] at this
      show ctv (upd r (6 * k + j) 5) (-1) + (k + 1) = 18
      omega
  · rintro ⟨v4, r⟩ ⟨e1, h1, h2, h3⟩ rec
    replace e1 : v4 = nI 3 := e1
    subst e1
    replace h1 : ∀ c, c < 18 → r c = -1 ∨ r c = 5 := h1
    replace h2 : ∀ κ, κ < 3 → ctk r κ = if κ < 3 then 1 else 0 := h2
    replace h3 : ctv r (-1) + 3 = 18 := h3
    (try dsimp only)
    rw [f_L_deal_L101, if_pos (show (3 : Int32) ≤ nI 3 from by decide)]
    exact deal144 hp2 hp5 hn ⟨fun c hc => (h1 c hc).imp_right Or.inl, fun κ hκ => by rw [h2 κ hκ, if_pos hκ], fun o ho => fb_ct_zero.mpr fun c hc => decide_eq_false (fun q => by
      rcases h1 c hc with z | z
      · rw [z] at q; exact m1_ne (by omega) q
      · rw [z] at q; have := (i_eq (a := 5) (by decide) (by omega)).mp q; omega), by omega, fun i hi => absurd hi (Nat.not_lt_zero i)⟩
  · show ctk r κ = _
    rw [if_neg (Nat.not_lt_zero κ)]
    exact fb_ct_zero.mpr fun c hc => by rw [h c hc]; rfl
  · show ctv r (-1) + 0 = 18
    exact fb_ct_all.mpr fun c hc => decide_eq_true (h c hc)
theorem deal36 {p : Nat} (hp2 : 2 ≤ p) (hp5 : p ≤ 5) {L : Nat} (hL : L ≤ 260) (xs : Nat → Int32) {n : Nat → Int32} (hn : OD n) {r : Nat → Int32} (h : ∀ c, c < 18 → r c = -1) : ∃ q, lo2 (f_L_deal_L36 L xs (nI p) r) FU 17 n = some q ∧ ∃ δ, DR q.1 p δ ∧ GD (shNew p) δ := by
  refine loop (S := Int32 × (Nat → Int32)) (F := fun f s => lo2 (f_L_deal_L36 L xs (nI p) r) f s.1 s.2) (B := fun rec s => f_L_deal_L36 L xs (nI p) r (fun x y => rec (x, y)) s.1 s.2) (fun _ _ => rfl) (fun k s => s.1 = nI (17 - k) ∧ OD s.2) _ 17 ?_ ?_ 17 0 FU (17, n) rfl (by decide) ⟨rfl, hn⟩
  · rintro k ⟨v4, n⟩ hk ⟨e1, hn⟩ rec
    replace e1 : v4 = nI (17 - k) := e1
    subst e1
    replace hn : OD n := hn
    obtain ⟨c, hc⟩ : ∃ c, 17 - k = c + 1 := ⟨16 - k, by omega⟩
    have hc17 : c + 1 < 18 := by omega
    rw [hc]
    (try dsimp only)
    rw [f_L_deal_L36, if_neg (show ¬ nI (c + 1) ≤ (0 : Int32) from nI_nle (by omega) (by omega)), show nI (c + 1) / (2 : Int32) = nI ((c + 1) / 2) from pk_div (d := 2) (by omega) (by decide) (by decide), show (1 : Int32) + nI ((c + 1) / 2) = nI (1 + (c + 1) / 2) from nI_add 1 _]
    obtain ⟨x, ex⟩ := cell_ok hL xs (i := 1 + (c + 1) / 2) (by omega)
    rw [ob1_r ex, lt_r, nI_1]
    obtain ⟨j, hj, ej⟩ := low_ok (x >>> (((15 : Int32) * (nI (c + 1) - nI ((c + 1) / 2) * (2 : Int32))) &&& 31)) (n := c + 1 + 1) (by omega) (by omega)
    have hj18 : j < 18 := by omega
    rw [ob1_r ej, gd_r (vp_in_nI (n := c + 1) hc17 (by decide)), lt_r, gd_r (vp_in_nI (n := j) hj18 (by decide)), gd_r (vp_in_nI (n := c + 1) hc17 (by decide)), lt_r, gd_r (vp_in_nI (n := j) hj18 (by decide)), lt_r, i_cl (by omega), i_cl (by omega), pk_m1]
    refine Or.inr ⟨(nI c, upd (upd n (c + 1) (n j)) j (n (c + 1))), rfl, by show nI c = nI (17 - (k + 1)); rw [show 17 - (k + 1) = c by omega], ?_⟩
    show OD (upd (upd n (c + 1) (n j)) j (n (c + 1)))
    have ev : ∀ i, upd (upd n (c + 1) (n j)) j (n (c + 1)) i = if i = j then n (c + 1) else if i = c + 1 then n j else n i := fun i => rfl
    constructor
    · intro i hi
      rw [ev]
      split
      · exact hn.1 (c + 1) hc17
      · split
        · exact hn.1 j hj18
        · exact hn.1 i hi
    · intro z hz
      obtain ⟨i, hi, e⟩ := hn.2 z hz
      rcases Nat.decEq i (c + 1) with u | u
      · rcases Nat.decEq i j with v | v
        · exact ⟨i, hi, by rw [ev, if_neg v, if_neg u]; exact e⟩
        · refine ⟨c + 1, hc17, ?_⟩
          rw [ev, if_neg (show ¬ c + 1 = j from fun q => u (by omega)), if_pos rfl, ← v]
          exact e
      · exact ⟨j, hj18, by rw [ev, if_pos rfl, ← u]; exact e⟩
  · rintro ⟨v4, n⟩ ⟨e1, hn⟩ rec
    replace e1 : v4 = nI 0 := e1
    subst e1
    (try dsimp only)
    rw [f_L_deal_L36, if_pos (show nI 0 ≤ (0 : Int32) from by decide)]
    exact deal101 hp2 hp5 hL xs hn h
theorem deal_ok {p : Nat} (hp2 : 2 ≤ p) (hp5 : p ≤ 5) {L : Nat} (hL : L ≤ 260) (xs : Nat → Int32) (row : Nat → Int32) : ∃ q, f_L_deal row L xs (nI p) = some q ∧ ∃ δ, DR q.1 p δ ∧ GD (shNew p) δ := by
  unfold f_L_deal
  refine loop (S := Int32 × (Nat → Int32) × (Nat → Int32)) (F := fun f s => lo3 (f_L_deal_L8 L xs (nI p)) f s.1 s.2.1 s.2.2) (B := fun rec s => f_L_deal_L8 L xs (nI p) (fun x y w => rec (x, y, w)) s.1 s.2.1 s.2.2) (fun _ _ => rfl) (fun k s => s.1 = nI k ∧ ∀ c, c < k → s.2.1 c = -1 ∧ s.2.2 c = nI c) _ 18 ?_ ?_ 18 0 FU (0, row, zz) rfl (by decide) ⟨rfl, fun c hc => absurd hc (Nat.not_lt_zero c)⟩
  · rintro k ⟨v4, r, n⟩ hk ⟨e1, h⟩ rec
    replace e1 : v4 = nI k := e1
    subst e1
    replace h : ∀ c, c < k → r c = -1 ∧ n c = nI c := h
    (try dsimp only)
    rw [f_L_deal_L8, if_neg (show ¬ (18 : Int32) ≤ nI k from nle (a := 18) (by decide) (by omega) hk), gd_r (vp_in_nI (n := k) hk (by decide)), lt_r, gd_r (vp_in_nI (n := k) (by omega) (by decide)), lt_r, i_cl (by omega), nI_1]
    refine Or.inr ⟨(nI (k + 1), upd r k (-1), upd n k (nI k)), rfl, rfl, fun c hc => ?_⟩
    show upd r k (-1) c = -1 ∧ upd n k (nI k) c = nI c
    rcases Nat.decEq c k with u | u
    · rw [pk_un u, pk_un u]; exact h c (by omega)
    · rw [u, pk_us, pk_us]; exact ⟨rfl, rfl⟩
  · rintro ⟨v4, r, n⟩ ⟨e1, h⟩ rec
    replace e1 : v4 = nI 18 := e1
    subst e1
    replace h : ∀ c, c < 18 → r c = -1 ∧ n c = nI c := h
    (try dsimp only)
    rw [f_L_deal_L8, if_pos (show (18 : Int32) ≤ nI 18 from by decide)]
    exact deal36 hp2 hp5 hL xs ⟨fun i hi => ⟨i, hi, (h i hi).2⟩, fun c hc => ⟨c, hc, (h c hc).2⟩⟩ (fun c hc => (h c hc).1)
