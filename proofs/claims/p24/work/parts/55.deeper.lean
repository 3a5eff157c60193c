/-! ===== what if: deeper, bestQuestion ===== -/
theorem loopE {S R : Type} {F : Nat → S → Option R} {B : (S → Option R) → S → Option R} (hF : ∀ f s, F (f + 1) s = B (F f) s) (I : Nat → S → Prop) (n : Nat) (step : ∀ k s, k < n → I k s → ∀ rec, ∃ s', B rec s = rec s' ∧ I (k + 1) s') : ∀ (d k fuel : Nat) (s : S), k + d = n → d < fuel → I k s → ∃ rec s', F fuel s = B rec s' ∧ I n s' := by
  intro d
  induction d with
  | zero =>
    intro k fuel s h1 h2 hI
    obtain ⟨f, rfl⟩ : ∃ f, fuel = f + 1 := ⟨fuel - 1, by omega⟩
    have hk : k = n := by omega
    subst hk
    exact ⟨F f, s, hF f s, hI⟩
  | succ d ih =>
    intro k fuel s h1 h2 hI
    obtain ⟨f, rfl⟩ : ∃ f, fuel = f + 1 := ⟨fuel - 1, by omega⟩
    obtain ⟨s', e, h⟩ := step k s (by omega) hI (F f)
    obtain ⟨rec, s2, e2, h2⟩ := ih (k + 1) f s' (by omega) (by omega) h
    exact ⟨rec, s2, by rw [hF, e, e2], h2⟩
noncomputable def dp (a : Sh) (o c : Nat) : Nat := ifp (own a o ∧ FY a o c = false ∧ FN a o c = false ∧ mv a o c ≠ 0) 1 0
noncomputable def di (a : Sh) (o : Nat) : Nat → Nat
  | 0 => 0
  | k + 1 => di a o k + dp a o k
noncomputable def dd (a : Sh) : Nat → Nat
  | 0 => 0
  | k + 1 => dd a k + di a k 18
theorem di_no {a : Sh} {o : Nat} (w : ¬ own a o) : ∀ k, di a o k = 0
  | 0 => rfl
  | k + 1 => by
    show di a o k + dp a o k = 0
    rw [di_no w k, Nat.zero_add]
    unfold dp
    exact ifp_f fun q => w q.1
abbrev S9 : Type := (Nat → Int32) × (Nat → Int32) × (Nat → Int32) × Int32 × (Nat → Int32) × (Nat → Int32) × (Nat → Int32) × Int32 × Int32
abbrev S10 : Type := (Nat → Int32) × (Nat → Int32) × (Nat → Int32) × (Nat → Int32) × (Nat → Int32) × (Nat → Int32) × (Nat → Int32) × (Nat → Int32) × Int32 × Int32
theorem mv_z {a : Sh} {o c : Nat} : mv a o c ≠ 0 ↔ (BE a (2, o, c) ∨ BE a (1, o, c)) := by
  unfold mv
  rcases Classical.em (BE a (2, o, c)) with h | h <;> rcases Classical.em (BE a (1, o, c)) with h2 | h2
  · rw [ifp_t h, ifp_t h2]; simp [h]
  · rw [ifp_t h, ifp_f h2]; simp [h]
  · rw [ifp_f h, ifp_t h2]; simp [h2]
  · rw [ifp_f h, ifp_f h2]; simp [h, h2]
theorem mv_le (a : Sh) (o c : Nat) : mv a o c ≤ 3 := by
  unfold mv
  rcases Classical.em (BE a (2, o, c)) with h | h <;> rcases Classical.em (BE a (1, o, c)) with h2 | h2
  · rw [ifp_t h, ifp_t h2]; decide
  · rw [ifp_t h, ifp_f h2]; decide
  · rw [ifp_f h, ifp_t h2]; decide
  · rw [ifp_f h, ifp_f h2]; decide
section
variable {a : Sh} {m : Nat} {L : Nat → Sh} {pl to : Int32} {ks os cs ys cy oy ns cn on : Nat → Int32} {rd len : Int32} {st : Nat → StT} {z past : Nat → Int32} {pm : Int32}
theorem dc_in (hw : WF a) (hf : RF pl to ks os cs a) (my : MB (FY a) ys) (mn : MB (FN a) ns) {o : Nat} (ho : o < 6) {t0 : Int32} (ht : M18 t0) (hb : ∀ c, c < 18 → (bt t0 c = true ↔ own a o ∧ FY a o c = false ∧ FN a o c = false)) (rec4 : Int32 → Int32 → (Nat → Int32) → (Nat → Int32) → (Nat → Int32) → Int32 → (Nat → Int32) → (Nat → Int32) → (Nat → Int32) → Int32 → Int32 → Option (Int32 × (Nat → Int32) × (Nat → Int32) × (Nat → Int32) × Int32 × (Nat → Int32) × (Nat → Int32) × (Nat → Int32) × Int32 × Int32)) (n : Nat) (s : S9) (hz1 : Zc s.2.1) (hz2 : Zc s.2.2.2.2.2.1) :
    ∃ s' : S9, lo11 (f_X5_deeper_L37 pl to ks os cs ys ns rec4 (nI o) t0) FU (nI n) 0 s.1 s.2.1 s.2.2.1 s.2.2.2.1 s.2.2.2.2.1 s.2.2.2.2.2.1 s.2.2.2.2.2.2.1 s.2.2.2.2.2.2.2.1 s.2.2.2.2.2.2.2.2 = rec4 (nI (n + di a o 18)) (nI (o + 1)) s'.1 s'.2.1 s'.2.2.1 s'.2.2.2.1 s'.2.2.2.2.1 s'.2.2.2.2.2.1 s'.2.2.2.2.2.2.1 s'.2.2.2.2.2.2.2.1 s'.2.2.2.2.2.2.2.2 ∧ Zc s'.2.1 ∧ Zc s'.2.2.2.2.2.1 := by
  obtain ⟨rec, q, e, h⟩ := loopE (S := Int32 × Int32 × S9) (F := fun f q => lo11 (f_X5_deeper_L37 pl to ks os cs ys ns rec4 (nI o) t0) f q.1 q.2.1 q.2.2.1 q.2.2.2.1 q.2.2.2.2.1 q.2.2.2.2.2.1 q.2.2.2.2.2.2.1 q.2.2.2.2.2.2.2.1 q.2.2.2.2.2.2.2.2.1 q.2.2.2.2.2.2.2.2.2.1 q.2.2.2.2.2.2.2.2.2.2) (B := fun rec q => f_X5_deeper_L37 pl to ks os cs ys ns rec4 (nI o) t0 (fun x y s1 s2 s3 s4 s5 s6 s7 s8 s9 => rec (x, y, s1, s2, s3, s4, s5, s6, s7, s8, s9)) q.1 q.2.1 q.2.2.1 q.2.2.2.1 q.2.2.2.2.1 q.2.2.2.2.2.1 q.2.2.2.2.2.2.1 q.2.2.2.2.2.2.2.1 q.2.2.2.2.2.2.2.2.1 q.2.2.2.2.2.2.2.2.2.1 q.2.2.2.2.2.2.2.2.2.2) (fun _ _ => rfl) (fun k q => q.1 = nI (n + di a o k) ∧ q.2.1 = nI k ∧ Zc q.2.2.2.1 ∧ Zc q.2.2.2.2.2.2.2.1) 18 (by
    rintro k ⟨v1, v4, s1, s2, s3, s4, s5, s6, s7, s8, s9⟩ hk ⟨h1, h2, h3, h4⟩ rec
    replace h1 : v1 = nI (n + di a o k) := h1
    replace h2 : v4 = nI k := h2
    subst h1 h2
    replace h3 : Zc s2 := h3
    replace h4 : Zc s6 := h4
    (try dsimp only)
    rw [f_X5_deeper_L37, if_neg (show ¬ (18 : Int32) ≤ nI k from nle (a := 18) (by decide) (by omega) hk), ob1_r (isIn_ok ht hk), nI_1]
    have nxt : ∀ (v : Nat) (r : S9), dp a o k = v → Zc r.2.1 → Zc r.2.2.2.2.2.1 → ∃ s' : Int32 × Int32 × S9, rec (nI (n + di a o k + v), nI (k + 1), r.1, r.2.1, r.2.2.1, r.2.2.2.1, r.2.2.2.2.1, r.2.2.2.2.2.1, r.2.2.2.2.2.2.1, r.2.2.2.2.2.2.2.1, r.2.2.2.2.2.2.2.2) = rec s' ∧ s'.1 = nI (n + di a o (k + 1)) ∧ s'.2.1 = nI (k + 1) ∧ Zc s'.2.2.2.1 ∧ Zc s'.2.2.2.2.2.2.2.1 := fun v r hv g1 g2 => ⟨_, rfl, by rw [← hv]; show nI (n + di a o k + dp a o k) = nI (n + (di a o k + dp a o k)); rw [Nat.add_assoc], rfl, g1, g2⟩
    cases e : bt t0 k
    · rw [if_neg (show ¬ (false = true) by decide), if_pos rfl]
      have h0 : dp a o k = 0 := ifp_f fun q => by rw [(hb k hk).mpr ⟨q.1, q.2.1, q.2.2.1⟩] at e; exact Bool.noConfusion e
      exact nxt 0 (s1, s2, s3, s4, s5, s6, s7, s8, s9) h0 h3 h4
    · obtain ⟨w, g1, g2⟩ := (hb k hk).mp e
      obtain ⟨r, d1, d2, d3, d4, d5, d6, d7, d8, d9, f1, q1, z1, z2⟩ := breaksN_ok hw hf my mn w hk h3 h4 s1 s3 s5 s7 s4 s8 s9
      rw [if_pos rfl, if_neg one_ne, ob10_r f1]
      rcases q1 with ⟨rfl, q1⟩ | ⟨rfl, q1⟩
      · rw [if_neg one_ne, lt_r, nI_1]
        exact nxt 1 (d1, d2, d3, d4, d5, d6, d7, d8, d9) (ifp_t ⟨w, g1, g2, mv_z.mpr (Or.inl q1)⟩) z1 z2
      · obtain ⟨r', i1, i2, i3, i4, i5, i6, i7, i8, i9, f2, q2, z3, z4⟩ := breaksY_ok hw hf my mn w hk z1 z2 d1 d3 d5 d7 d4 d8 d9
        rw [if_pos rfl, ob10_r f2]
        rcases q2 with ⟨rfl, q2⟩ | ⟨rfl, q2⟩
        · rw [if_neg one_ne, lt_r, nI_1]
          exact nxt 1 (i1, i2, i3, i4, i5, i6, i7, i8, i9) (ifp_t ⟨w, g1, g2, mv_z.mpr (Or.inr q2)⟩) z3 z4
        · rw [if_pos rfl]
          exact nxt 0 (i1, i2, i3, i4, i5, i6, i7, i8, i9) (ifp_f fun q => by rcases mv_z.mp q.2.2.2 with u | u; exact q1 u; exact q2 u) z3 z4) 18 0 FU (nI n, 0, s) rfl (by decide) ⟨rfl, rfl, hz1, hz2⟩
  obtain ⟨v1, v4, s1, s2, s3, s4, s5, s6, s7, s8, s9⟩ := q
  obtain ⟨h1, h2, h3, h4⟩ := h
  replace h1 : v1 = nI (n + di a o 18) := h1
  replace h2 : v4 = nI 18 := h2
  subst h1 h2
  refine ⟨(s1, s2, s3, s4, s5, s6, s7, s8, s9), ?_, h3, h4⟩
  refine Eq.trans e ?_
  (try dsimp only)
  rw [f_X5_deeper_L37, if_pos (show (18 : Int32) ≤ nI 18 from by decide), nI_1]
theorem dc_ok (hw : WF a) (hf : RF pl to ks os cs a) (my : MB (FY a) ys) (mn : MB (FN a) ns) (s : S9) (hz1 : Zc s.2.1) (hz2 : Zc s.2.2.2.2.2.1) :
    ∃ s' : S9, f_X5_deeper pl to ks os cs ys ns s.1 s.2.1 s.2.2.1 s.2.2.2.1 s.2.2.2.2.1 s.2.2.2.2.2.1 s.2.2.2.2.2.2.1 s.2.2.2.2.2.2.2.1 s.2.2.2.2.2.2.2.2 = some (nI (dd a 6), s') ∧ Zc s'.2.1 ∧ Zc s'.2.2.2.2.2.1 := by
  unfold f_X5_deeper
  obtain ⟨rec, q, e, h⟩ := loopE (S := Int32 × Int32 × S9) (F := fun f q => lo11 (f_X5_deeper_L4 pl to ks os cs ys ns) f q.1 q.2.1 q.2.2.1 q.2.2.2.1 q.2.2.2.2.1 q.2.2.2.2.2.1 q.2.2.2.2.2.2.1 q.2.2.2.2.2.2.2.1 q.2.2.2.2.2.2.2.2.1 q.2.2.2.2.2.2.2.2.2.1 q.2.2.2.2.2.2.2.2.2.2) (B := fun rec q => f_X5_deeper_L4 pl to ks os cs ys ns (fun x y s1 s2 s3 s4 s5 s6 s7 s8 s9 => rec (x, y, s1, s2, s3, s4, s5, s6, s7, s8, s9)) q.1 q.2.1 q.2.2.1 q.2.2.2.1 q.2.2.2.2.1 q.2.2.2.2.2.1 q.2.2.2.2.2.2.1 q.2.2.2.2.2.2.2.1 q.2.2.2.2.2.2.2.2.1 q.2.2.2.2.2.2.2.2.2.1 q.2.2.2.2.2.2.2.2.2.2) (fun _ _ => rfl) (fun k q => q.1 = nI (dd a k) ∧ q.2.1 = nI k ∧ Zc q.2.2.2.1 ∧ Zc q.2.2.2.2.2.2.2.1) 6 (by
    rintro k ⟨v1, v4, s1, s2, s3, s4, s5, s6, s7, s8, s9⟩ hk ⟨h1, h2, h3, h4⟩ rec
    replace h1 : v1 = nI (dd a k) := h1
    replace h2 : v4 = nI k := h2
    subst h1 h2
    replace h3 : Zc s2 := h3
    replace h4 : Zc s6 := h4
    (try dsimp only)
    rw [f_X5_deeper_L4, if_neg (show ¬ (6 : Int32) ≤ nI k from nle (a := 6) (by decide) (by omega) hk), hf.1]
    have go : ∀ t0, M18 t0 → (∀ c, c < 18 → (bt t0 c = true ↔ own a k ∧ FY a k c = false ∧ FN a k c = false)) → ∃ s' : Int32 × Int32 × S9, f_X5_deeper_J33 (nI (sp a)) to ks os cs ys ns (fun x y s1 s2 s3 s4 s5 s6 s7 s8 s9 => rec (x, y, s1, s2, s3, s4, s5, s6, s7, s8, s9)) (nI (dd a k)) (nI k) s1 s2 s3 s4 s5 s6 s7 s8 s9 t0 = rec s' ∧ s'.1 = nI (dd a (k + 1)) ∧ s'.2.1 = nI (k + 1) ∧ Zc s'.2.2.2.1 ∧ Zc s'.2.2.2.2.2.2.2.1 := by
      intro t0 ht hb
      rw [f_X5_deeper_J33]
      obtain ⟨s', e, g1, g2⟩ := dc_in hw (pl := nI (sp a)) ⟨rfl, hf.2⟩ my mn hk ht hb (fun x y s1 s2 s3 s4 s5 s6 s7 s8 s9 => rec (x, y, s1, s2, s3, s4, s5, s6, s7, s8, s9)) (dd a k) (s1, s2, s3, s4, s5, s6, s7, s8, s9) h3 h4
      exact ⟨(_, _, s'), e, rfl, rfl, g1, g2⟩
    rcases Classical.em (own a k) with w | w
    · unfold f_X2_without
      rw [ob1_r (hasOw_y hw w), if_neg one_ne, ob1_r (of_ok hk), ob1_r (of_ok hk), ob1_r rfl]
      refine go _ (m18_and (m18_and m18_all)) fun c hc => ?_
      rw [b_and, b_and, b_not _ (by omega), b_not _ (by omega), b_all c hc, (my k hk).2 c hc, (mn k hk).2 c hc]
      cases FY a k c <;> cases FN a k c <;> simp [w]
    · rw [ob1_r (hasOw_n hw (by omega) w), if_pos rfl]
      exact go 0 m18_0 fun c hc => ⟨fun q => by rw [b_0] at q; exact Bool.noConfusion q, fun q => absurd q.1 w⟩) 6 0 FU (0, 0, s) rfl (by decide) ⟨rfl, rfl, hz1, hz2⟩
  obtain ⟨v1, v4, s1, s2, s3, s4, s5, s6, s7, s8, s9⟩ := q
  obtain ⟨h1, h2, h3, h4⟩ := h
  replace h1 : v1 = nI (dd a 6) := h1
  replace h2 : v4 = nI 6 := h2
  subst h1 h2
  refine ⟨(s1, s2, s3, s4, s5, s6, s7, s8, s9), ?_, h3, h4⟩
  refine Eq.trans e ?_
  (try dsimp only)
  rw [f_X5_deeper_L4, if_pos (show (6 : Int32) ≤ nI 6 from by decide)]
end

