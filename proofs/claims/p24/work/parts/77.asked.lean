/-! ===== musts, lesser, question, asks ===== -/
section
variable {a : Sh} {δ : Dl} {pl to : Int32} {ks os cs ys cy oy ns cn on : Nat → Int32} {rd len tl : Int32} {d : Nat → Int32}
theorem musts_ok (H : CS a pl to ks os cs ys cy oy ns cn on rd len) (hg : GD a δ) (ht : TF a δ) (hd : DR d (sp a) δ) {o c : Nat} (w : own a o) (hc : c < 18) {sc sd : Nat → Int32} (z1 : Zc sc) (z2 : Zc sd) (sy so sn' son : Nat → Int32) (yr nr srd : Int32) :
    ∃ e1 e2 e3 e4 e5 e6 e7 e8 e9, f_L_musts pl to ks os cs ys oy ns on sy sc so yr sn' sd son nr srd d (nI o) (nI c) = some (1, e1, e2, e3, e4, e5, e6, e7, e8, e9) ∧ Zc e2 ∧ Zc e6 := by
  have hw := H.1
  have ho := own6 hw w
  obtain ⟨e1, e2, e3, e4, e5, e6, e7, e8, e9, m1, m2, m3⟩ := must_c H w hc z1 z2 sy so sn' son yr nr srd
  have mk := mark_c H w hc
  have hmv := mv_t hw hg ht (o := o) (c := c) w
  have hmk := mrk_t hw hg ht w hc
  refine ⟨e1, e2, e3, e4, e5, e6, e7, e8, e9, ?_, m2, m3⟩
  unfold f_L_musts
  rw [gd_r (vp_in_nI (n := c) (by omega) (by decide)), i_cl (by omega), hd.1 c hc]
  have n12 : ¬ nI 1 = (2 : Int32) := by decide
  have n21 : ¬ nI 2 = (1 : Int32) := by decide
  have n20 : ¬ nI 2 = (0 : Int32) := by decide
  have n10 : ¬ nI 1 = (0 : Int32) := by decide
  rcases Nat.decEq (δ c) o with u | u
  · rw [if_neg u] at hmv hmk
    rw [if_neg (fun q => u ((i_eq (by have := d6 hw hg c hc; omega) (by omega)).mp q)), f_L_musts_J12, ob10_r m1, ob1_r mk]
    rcases hmv with hv | hv
    · rw [hv, if_pos (show nI 0 = (0 : Int32) from rfl)]
    · rw [hv, if_neg n20, if_pos rfl, if_pos (show nI 2 = (2 : Int32) from rfl)]
      rcases hmk with hk | hk
      · rw [hk, if_pos (show nI 0 = (0 : Int32) from rfl)]
      · rw [hk, if_neg n20, if_pos rfl, if_pos (show nI 2 = (2 : Int32) from rfl)]
  · rw [if_pos u] at hmv hmk
    rw [if_pos (by rw [u]), f_L_musts_J12, ob10_r m1, ob1_r mk]
    rcases hmv with hv | hv
    · rw [hv, if_pos (show nI 0 = (0 : Int32) from rfl)]
    · rw [hv, if_neg n10, if_neg one_ne, if_pos (show nI 1 = (1 : Int32) from rfl)]
      rcases hmk with hk | hk
      · rw [hk, if_pos (show nI 0 = (0 : Int32) from rfl)]
      · rw [hk, if_neg n10, if_neg one_ne, if_pos (show nI 1 = (1 : Int32) from rfl)]
theorem lesserL_ok (H : CS a pl to ks os cs ys cy oy ns cn on rd len) {j x y w : Nat} (hj : j < sp a) (hx : x < 6) (hy : y < 6) (hw : w < 6) {sc sd : Nat → Int32} (z1 : Zc sc) (z2 : Zc sd) (sy so sn' son : Nat → Int32) (yr nr srd : Int32) :
    ∃ to' ks' os' cs' e1 e2 e3 e4 e5 e6 e7 e8 e9, f_L_lesser pl to ks os cs ys ns sy sc so yr sn' sd son nr srd (nI j) (nI x) (nI y) (nI w) = some (nI (lvq a j (36 * x + 6 * y + w)), to', ks', os', cs', e1, e2, e3, e4, e5, e6, e7, e8, e9) ∧ CS a pl to' ks' os' cs' ys cy oy ns cn on rd len ∧ Zc e2 ∧ Zc e6 := by
  obtain ⟨to1, ks1, os1, cs1, a1, a2, a3, a4, a5, a6, a7, a8, a9, g1, H1, g2, g3⟩ := gain_c H (s := 0) hj (by decide) hx hy hw z1 z2 sy so sn' son yr nr srd
  obtain ⟨to2, ks2, os2, cs2, b1, b2, b3, b4, b5, b6, b7, b8, b9, h1, H2, h2, h3⟩ := gain_c H1 (s := 1) hj (by decide) hx hy hw g2 g3 a1 a3 a5 a7 a4 a8 a9
  refine ⟨to2, ks2, os2, cs2, b1, b2, b3, b4, b5, b6, b7, b8, b9, ?_, H2, h2, h3⟩
  have hg := GN_le a (1 + 0, j, x, 6 + y, 12 + w)
  have hh := GN_le a (1 + 1, j, x, 6 + y, 12 + w)
  have el : lvq a j (36 * x + 6 * y + w) = lsr (GN a (1 + 0, j, x, 6 + y, 12 + w)) (GN a (1 + 1, j, x, 6 + y, 12 + w)) := by
    unfold lvq
    rw [show (36 * x + 6 * y + w) / 36 = x by omega, show (36 * x + 6 * y + w) / 6 % 6 = y by omega, show (36 * x + 6 * y + w) % 6 = w by omega]
  rw [el]
  unfold f_L_lesser
  rw [show f_X5_gain pl to ks os cs ys ns sy sc so yr sn' sd son nr srd (nI j) (0 : Int32) (nI x) (nI y) (nI w) = _ from g1, ob14_r rfl, show f_X5_gain pl to1 ks1 os1 cs1 ys ns a1 a2 a3 a4 a5 a6 a7 a8 a9 (nI j) (1 : Int32) (nI x) (nI y) (nI w) = _ from h1, ob14_r rfl]
  generalize GN a (1 + 0, j, x, 6 + y, 12 + w) = g at hg ⊢
  generalize GN a (1 + 1, j, x, 6 + y, 12 + w) = h at hh ⊢
  rcases Nat.decEq g 0 with u | u
  · obtain ⟨eg, ng⟩ := gI_ne (g := g) (by omega) u
    rcases Nat.decEq h 0 with v | v
    · obtain ⟨eh, nh⟩ := gI_ne (g := h) (by omega) v
      rw [show lsr g h = if h ≤ g then h - 1 else g - 1 from by unfold lsr; rw [if_neg u, if_neg v]]
      rw [eg] at ng ⊢
      rw [eh] at nh ⊢
      rcases Nat.lt_or_ge g h with q | q
      · have hn : ¬ nI (h - 1) ≤ nI (g - 1) := nle (by omega) (by omega) (by omega)
        rw [if_neg hn, f_L_lesser_J38, if_neg hn, if_neg nh, if_neg ng, if_neg (by omega)]
      · have hp : nI (h - 1) ≤ nI (g - 1) := nI_le (by omega) (by omega)
        rw [if_pos hp, f_L_lesser_J38, if_pos hp, if_neg ng, if_neg nh, if_pos q]
    · subst v
      rw [show lsr g 0 = g - 1 from by unfold lsr; rw [if_neg u, if_pos rfl], gI_0]
      rw [eg] at ng ⊢
      have hp : (-6 : Int32) ≤ nI (g - 1) := by
        rw [Int32.le_iff_toInt_le, nI_toInt (by omega), show (-6 : Int32).toInt = -6 from by decide]
        omega
      rw [if_pos hp, f_L_lesser_J38, if_pos hp, if_neg ng, if_pos rfl]
  · subst u
    rw [gI_0]
    rcases Nat.decEq h 0 with v | v
    · obtain ⟨eh, nh⟩ := gI_ne (g := h) (by omega) v
      rw [show lsr 0 h = h - 1 from by unfold lsr; rw [if_pos rfl, if_neg v]]
      rw [eh] at nh ⊢
      have hn : ¬ nI (h - 1) ≤ (-6 : Int32) := by
        rw [Int32.le_iff_toInt_le, nI_toInt (by omega), show (-6 : Int32).toInt = -6 from by decide]
        omega
      rw [if_neg hn, f_L_lesser_J38, if_neg hn, if_neg nh, if_pos rfl]
    · subst v
      rw [gI_0, show lsr 0 0 = 0 from rfl, if_pos (by decide), f_L_lesser_J38, if_pos (by decide), if_pos rfl]
      rfl
/-- no question tells more than the best; an equal one comes later -/
theorem bst_best (a : Sh) (j : Nat) : ∀ k, 0 < k → (∀ i, i < k → lvq a j i ≤ (bst a j k).2 ∧ (lvq a j i = (bst a j k).2 → (bst a j k).1 ≤ i)) ∧ lvq a j (bst a j k).1 = (bst a j k).2
  | 0, h => absurd h (by decide)
  | k + 1, _ => by
    rcases Nat.eq_zero_or_pos k with q | q
    · subst q
      rw [show (0 : Nat) + 1 = 1 from rfl, bst_0]
      refine ⟨fun i hi => ?_, rfl⟩
      rw [show i = 0 by omega]
      exact ⟨Nat.le_refl _, fun _ => Nat.le_refl _⟩
    · obtain ⟨h1, h2⟩ := bst_best a j k q
      rw [bst_s a j q]
      rcases Nat.lt_or_ge (bst a j k).2 (lvq a j k) with u | u
      · rw [if_neg (by omega)]
        refine ⟨fun i hi => ?_, rfl⟩
        show lvq a j i ≤ lvq a j k ∧ (lvq a j i = lvq a j k → k ≤ i)
        rcases Nat.decEq i k with v | v
        · have := (h1 i (by omega)).1
          exact ⟨by omega, fun e => by omega⟩
        · rw [v]; exact ⟨Nat.le_refl _, fun _ => Nat.le_refl _⟩
      · rw [if_pos u]
        refine ⟨fun i hi => ?_, h2⟩
        rcases Nat.decEq i k with v | v
        · exact h1 i (by omega)
        · rw [v]
          exact ⟨u, fun _ => Nat.le_of_lt (bst_lt2 a j k q)⟩
theorem question_ok (H : CS a pl to ks os cs ys cy oy ns cn on rd len) {j : Nat} (hj : j < sp a) (h : Int32) {sc sd : Nat → Int32} (z1 : Zc sc) (z2 : Zc sd) (sy so sn' son : Nat → Int32) (yr nr srd : Int32) :
    ∃ to' ks' os' cs' e1 e2 e3 e4 e5 e6 e7 e8 e9, f_L_question pl to ks os cs ys ns sy sc so yr sn' sd son nr srd (nI j) h = some (1, to', ks', os', cs', e1, e2, e3, e4, e5, e6, e7, e8, e9) ∧ CS a pl to' ks' os' cs' ys cy oy ns cn on rd len ∧ Zc e2 ∧ Zc e6 := by
  have h216 := bst_lt2 a j 216 (by decide)
  have h1000 := (bst_lt a j 216).2
  obtain ⟨best, eq⟩ := bst_best a j 216 (by decide)
  obtain ⟨to1, ks1, os1, cs1, a1, a2, a3, a4, a5, a6, a7, a8, a9, g1, H1, g2, g3⟩ := best_c H (v := 0) hj (by decide) z1 z2 sy so sn' son yr nr srd
  obtain ⟨to2, ks2, os2, cs2, b1, b2, b3, b4, b5, b6, b7, b8, b9, g4, H2, g5, g6⟩ := best_c H1 (v := 1) hj (by decide) g2 g3 a1 a3 a5 a7 a4 a8 a9
  obtain ⟨to3, ks3, os3, cs3, c1, c2, c3, c4, c5, c6, c7, c8, c9, g7, H3, g8, g9⟩ := best_c H2 (v := 2) hj (by decide) g5 g6 b1 b3 b5 b7 b4 b8 b9
  obtain ⟨to4, ks4, os4, cs4, d1, d2, d3, d4, d5, d6, d7, d8, d9, g10, H4, g11, g12⟩ := best_c H3 (v := 3) hj (by decide) g8 g9 c1 c3 c5 c7 c4 c8 c9
  generalize bst a j 216 = B at h216 h1000 best eq g1 g4 g7 g10
  have q0 : qans B 0 = B.1 / 36 := if_pos rfl
  have q1 : qans B 1 = B.1 / 6 % 6 := by unfold qans; rw [if_neg (by decide), if_pos rfl]
  have q2 : qans B 2 = B.1 % 6 := by unfold qans; rw [if_neg (by decide), if_neg (by decide), if_pos rfl]
  have q3 : qans B 3 = B.2 := by unfold qans; rw [if_neg (by decide), if_neg (by decide), if_neg (by decide)]
  rw [q0] at g1
  rw [q1] at g4
  rw [q2] at g7
  rw [q3] at g10
  have k0 : B.1 / 36 < 6 := by omega
  have k1 : B.1 / 6 % 6 < 6 := Nat.mod_lt _ (by decide)
  have k2 : B.1 % 6 < 6 := Nat.mod_lt _ (by decide)
  have kB : 36 * (B.1 / 36) + 6 * (B.1 / 6 % 6) + B.1 % 6 = B.1 := by omega
  obtain ⟨to5, ks5, os5, cs5, f1, f2, f3, f4, f5, f6, f7, f8, f9, g13, H5, g14, g15⟩ := lesserL_ok H4 hj k0 k1 k2 g11 g12 d1 d3 d5 d7 d4 d8 d9
  rw [kB, eq] at g13
  unfold f_L_question
  rw [show f_X5_bestQuestion pl to ks os cs ys ns sy sc so yr sn' sd son nr srd (nI j) (0 : Int32) = _ from g1, ob14_r rfl, show f_X5_bestQuestion pl to1 ks1 os1 cs1 ys ns a1 a2 a3 a4 a5 a6 a7 a8 a9 (nI j) (1 : Int32) = _ from g4, ob14_r rfl, show f_X5_bestQuestion pl to2 ks2 os2 cs2 ys ns b1 b2 b3 b4 b5 b6 b7 b8 b9 (nI j) (2 : Int32) = _ from g7, ob14_r rfl, show f_X5_bestQuestion pl to3 ks3 os3 cs3 ys ns c1 c2 c3 c4 c5 c6 c7 c8 c9 (nI j) (3 : Int32) = _ from g10, ob14_r rfl]
  have n6 : ∀ z, z < 6 → ¬ (6 : Int32) ≤ nI z := fun z hz => nle (a := 6) (by decide) (by omega) hz
  have n0 : ∀ z, z < 6 → ¬ nI z < (0 : Int32) := fun z hz => nI_pos (by omega)
  rw [if_neg (n0 _ k0), if_neg (n6 _ k0), if_neg (n0 _ k1), if_neg (n6 _ k1), if_neg (n0 _ k2), if_neg (n6 _ k2), ob14_r g13, if_pos rfl, f_L_question_J89]
  obtain ⟨r, e, t', hr, H6, y1, y2⟩ := loop (S := Int32 × Int32 × C13) (F := fun f s => lo15 (f_L_question_L94 pl ys ns (nI j) h (nI (B.1 / 36)) (nI (B.1 / 6 % 6)) (nI (B.1 % 6)) (nI B.2)) f s.1 s.2.1 s.2.2.1 s.2.2.2.1 s.2.2.2.2.1 s.2.2.2.2.2.1 s.2.2.2.2.2.2.1 s.2.2.2.2.2.2.2.1 s.2.2.2.2.2.2.2.2.1 s.2.2.2.2.2.2.2.2.2.1 s.2.2.2.2.2.2.2.2.2.2.1 s.2.2.2.2.2.2.2.2.2.2.2.1 s.2.2.2.2.2.2.2.2.2.2.2.2.1 s.2.2.2.2.2.2.2.2.2.2.2.2.2.1 s.2.2.2.2.2.2.2.2.2.2.2.2.2.2) (B := fun rec s => f_L_question_L94 pl ys ns (nI j) h (nI (B.1 / 36)) (nI (B.1 / 6 % 6)) (nI (B.1 % 6)) (nI B.2) (fun v w t0 t1 t2 t3 s1 s2 s3 s4 s5 s6 s7 s8 s9 => rec (v, w, t0, t1, t2, t3, s1, s2, s3, s4, s5, s6, s7, s8, s9)) s.1 s.2.1 s.2.2.1 s.2.2.2.1 s.2.2.2.2.1 s.2.2.2.2.2.1 s.2.2.2.2.2.2.1 s.2.2.2.2.2.2.2.1 s.2.2.2.2.2.2.2.2.1 s.2.2.2.2.2.2.2.2.2.1 s.2.2.2.2.2.2.2.2.2.2.1 s.2.2.2.2.2.2.2.2.2.2.2.1 s.2.2.2.2.2.2.2.2.2.2.2.2.1 s.2.2.2.2.2.2.2.2.2.2.2.2.2.1 s.2.2.2.2.2.2.2.2.2.2.2.2.2.2) (fun _ _ => rfl) (fun k s => s.1 = 1 ∧ s.2.1 = nI k ∧ CS a pl s.2.2.1 s.2.2.2.1 s.2.2.2.2.1 s.2.2.2.2.2.1 ys cy oy ns cn on rd len ∧ Zc s.2.2.2.2.2.2.2.1 ∧ Zc s.2.2.2.2.2.2.2.2.2.2.2.1) (fun r => ∃ t' : C13, r = (1, t') ∧ CS a pl t'.1 t'.2.1 t'.2.2.1 t'.2.2.2.1 ys cy oy ns cn on rd len ∧ Zc t'.2.2.2.2.2.1 ∧ Zc t'.2.2.2.2.2.2.2.2.2.1) 12 (by
    rintro k ⟨v8, v9, t0, t1, t2, t3, s1, s2, s3, s4, s5, s6, s7, s8, s9⟩ hk ⟨i1, i2, i3, i4, i5⟩ rec
    replace i1 : v8 = 1 := i1
    replace i2 : v9 = nI k := i2
    subst i1 i2
    replace i3 : CS a pl t0 t1 t2 t3 ys cy oy ns cn on rd len := i3
    replace i4 : Zc s2 := i4
    replace i5 : Zc s6 := i5
    (try dsimp only)
    obtain ⟨x, hx, ex⟩ := low6 (h >>> (nI k &&& 31))
    obtain ⟨y, hy, ey⟩ := low6 (h >>> ((nI k + (3 : Int32)) &&& 31))
    obtain ⟨w, hw, ew⟩ := low6 (h >>> ((nI k + (6 : Int32)) &&& 31))
    obtain ⟨u0, u1, u2, u3, r1, r2, r3, r4, r5, r6, r7, r8, r9, l1, l2, l3, l4⟩ := lesserL_ok i3 hj hx hy hw i4 i5 s1 s3 s5 s7 s4 s8 s9
    rw [f_L_question_L94, if_neg (show ¬ (12 : Int32) ≤ nI k from nle (a := 12) (by decide) (by omega) hk), ob1_r ex, ob1_r ey, ob1_r ew, ob14_r l1, if_neg one_ne, nI_1]
    have hlv := lvq_lt a j (36 * x + 6 * y + w)
    obtain ⟨b1', b2'⟩ := best (36 * x + 6 * y + w) (by omega)
    refine Or.inr ⟨(1, nI (k + 1), u0, u1, u2, u3, r1, r2, r3, r4, r5, r6, r7, r8, r9), ?_, rfl, rfl, l2, l3, l4⟩
    rcases Nat.lt_or_ge (lvq a j (36 * x + 6 * y + w)) B.2 with q | q
    · rw [if_pos (nI_lt q (by omega))]
    · have q' : lvq a j (36 * x + 6 * y + w) = B.2 := by omega
      rw [q', if_neg (nI_nlt (Nat.le_refl _) (by omega)), if_pos rfl, show (36 : Int32) * nI x = nI (36 * x) from pk_mul 36 x, show (6 : Int32) * nI y = nI (6 * y) from pk_mul 6 y, show (36 : Int32) * nI (B.1 / 36) = nI (36 * (B.1 / 36)) from pk_mul 36 _, show (6 : Int32) * nI (B.1 / 6 % 6) = nI (6 * (B.1 / 6 % 6)) from pk_mul 6 _, nI_add, nI_add, nI_add, nI_add, kB, if_neg (nI_nlt (b2' q') (by omega))]) (by
    rintro ⟨v8, v9, t⟩ ⟨i1, i2, i3⟩ rec
    replace i1 : v8 = 1 := i1
    replace i2 : v9 = nI 12 := i2
    subst i1 i2
    (try dsimp only)
    rw [f_L_question_L94, if_pos (show (12 : Int32) ≤ nI 12 from by decide), bo_1]
    exact ⟨_, rfl, t, rfl, i3⟩) 12 0 FU (1, 0, to5, ks5, os5, cs5, f1, f2, f3, f4, f5, f6, f7, f8, f9) rfl (by decide) ⟨rfl, rfl, H5, g14, g15⟩
  subst hr
  exact ⟨_, _, _, _, _, _, _, _, _, _, _, _, _, e, H6, y1, y2⟩
theorem asks_ok (H : CS a pl to ks os cs ys cy oy ns cn on rd len) (hg : GD a δ) (ht : TF a δ) (hd : DR d (sp a) δ) (hn : sn a < 40) {j x y w : Nat} (hj : j < sp a) (hx : x < 6) (hy : y < 6) (hw : w < 6) {sc sd : Nat → Int32} (z1 : Zc sc) (z2 : Zc sd) (yr nr : Int32) (sy so sn' son : Nat → Int32) (syr snr srd : Int32) (ad : AdT) (st : Nat → StT) :
    ∃ f to' ks' os' cs' ys' cy' oy' yr' ns' cn' on' nr' rd' e1 e2 e3 e4 e5 e6 e7 e8 e9 ad' len' st', f_L_asks pl to ks os cs ys cy oy yr ns cn on nr rd sy sc so syr sn' sd son snr srd ad len st tl d (nI j) (nI x) (nI y) (nI w) = some (1, to', ks', os', cs', ys', cy', oy', yr', ns', cn', on', nr', rd', e1, e2, e3, e4, e5, e6, e7, e8, e9, ad', len', st') ∧ CS (shAdd a f) pl to' ks' os' cs' ys' cy' oy' ns' cn' on' rd' len' ∧ Zc e2 ∧ Zc e6 ∧ TF (shAdd a f) δ := by
  have hwf := H.1
  have h6 := d6 hwf hg
  have hp := hwf.2.1
  obtain ⟨s, hs, an, hs1⟩ := answer_ok (j := j) hd h6 (by omega) hx hy hw
  have hF : FW (sp a) (1 + s, j, x, 6 + y, 12 + w) := fw_3 (by omega) (by omega) (fun _ => hj) (fun h => by omega) hx hy hw
  have inG3 : ∀ K c, 0 < K → (inG (K, j, x, 6 + y, 12 + w) c = true ↔ (c = x ∨ c = 6 + y ∨ c = 12 + w)) := fun K c hK => by
    unfold inG
    rw [Bool.or_eq_true, Bool.and_eq_true, Bool.or_eq_true, decide_eq_true_eq, decide_eq_true_eq, decide_eq_true_eq, decide_eq_true_eq]
    exact ⟨fun q => q.imp_right (·.2), fun q => q.imp_right fun q => ⟨by show K ≠ 0; omega, q⟩⟩
  have hT : TFf δ (1 + s, j, x, 6 + y, 12 + w) := by
    refine ⟨fun q => absurd q (by show ¬ 1 + s = 0; omega), fun q c hc hi => ?_, fun q => ?_, fun q => absurd q (by show ¬ 1 + s = 3; omega)⟩
    · have q' : 1 + s = 1 := q
      have h0 : ¬ s = 1 := by omega
      have hi' := (inG3 (1 + s) c (by omega)).mp hi
      intro e
      have e' : δ c = j := e
      refine h0 (hs1.mpr ?_)
      rcases hi' with u | u | u <;> subst u
      · exact Or.inl e'
      · exact Or.inr (Or.inl e')
      · exact Or.inr (Or.inr e')
    · have q' : 1 + s = 2 := q
      rcases hs1.mp (by omega) with u | u | u
      · exact ⟨x, by omega, (inG3 (1 + s) x (by omega)).mpr (Or.inl rfl), u⟩
      · exact ⟨6 + y, by omega, (inG3 (1 + s) (6 + y) (by omega)).mpr (Or.inr (Or.inl rfl)), u⟩
      · exact ⟨12 + w, by omega, (inG3 (1 + s) (12 + w) (by omega)).mpr (Or.inr (Or.inr rfl)), u⟩
  obtain ⟨gle, gG⟩ := GN_t hwf (wf_add hwf (by omega) hF) hg ht hT
  obtain ⟨to1, ks1, os1, cs1, a1, a2, a3, a4, a5, a6, a7, a8, a9, g1, H1, g2, g3⟩ := gain_c H hj hs hx hy hw z1 z2 sy so sn' son syr snr srd
  obtain ⟨to2, ks2, os2, cs2, b1, b2, b3, b4, b5, b6, b7, b8, b9, g4, H2, g5, g6⟩ := gain_c H1 (s := 1 - s) hj (by omega) hx hy hw g2 g3 a1 a3 a5 a7 a4 a8 a9
  obtain ⟨to3, ks3, os3, cs3, ys3, cy3, oy3, yr3, ns3, cn3, on3, nr3, rd3, ad3, len3, st3, t1, H3⟩ := answers_c H2 hn hj hs hx hy hw yr nr ad st
  obtain ⟨_, k1, k2, k3, _⟩ := count_c H2 tl
  obtain ⟨_, k1', _⟩ := count_c H3 tl
  have hsn : sn (shAdd a (1 + s, j, x, 6 + y, 12 + w)) = sn a + 1 := rfl
  obtain ⟨f0, f1, f2, f3, f4⟩ := ofFact_c H3 (i := sn a) (by rw [hsn]; omega) sa_at (by omega) (by omega) hx hy hw (by omega)
  refine ⟨(1 + s, j, x, 6 + y, 12 + w), to3, ks3, os3, cs3, ys3, cy3, oy3, yr3, ns3, cn3, on3, nr3, rd3, b1, b2, b3, b4, b5, b6, b7, b8, b9, ad3, len3, st3, ?_, H3, g5, g6, tf_add ht hT⟩
  have hmk := mks_lt (shAdd a (1 + s, j, x, 6 + y, 12 + w))
  have eg : gI (GN a (1 + s, j, x, 6 + y, 12 + w)) = nI (mks (shAdd a (1 + s, j, x, 6 + y, 12 + w)) - mks a) := by
    rw [gG]
    unfold gI
    rw [if_neg (by omega), Nat.add_sub_cancel]
  have em : nI (tot (FY a) 6) + nI (tot (FN a) 6) = nI (mks a) := nI_add _ _
  have e1s : (1 : Int32) - nI s = nI (1 - s) := pk_sub (a := 1) (by omega)
  have ok : ∀ (v9 : Int32), v9 = nI (mks a) → f_L_asks_J79 pl ys cy oy yr ns cn on nr rd ad len st tl (nI j) (nI x) (nI y) (nI w) (nI s) (nI (mks (shAdd a (1 + s, j, x, 6 + y, 12 + w)) - mks a)) to2 ks2 os2 cs2 b1 b2 b3 b4 b5 b6 b7 b8 b9 v9 (nI (sn a)) = some (1, to3, ks3, os3, cs3, ys3, cy3, oy3, yr3, ns3, cn3, on3, nr3, rd3, b1, b2, b3, b4, b5, b6, b7, b8, b9, ad3, len3, st3) := by
    rintro v9 rfl
    rw [f_L_asks_J79, ob17_r t1, if_pos (by rw [nI_add, show mks a + (mks (shAdd a (1 + s, j, x, 6 + y, 12 + w)) - mks a) = mks (shAdd a (1 + s, j, x, 6 + y, 12 + w)) by omega]), ob1_r k1', if_pos (by rw [hsn, nI_1]), ob1_r f0, if_pos (by rw [show (1 : Int32) + nI s = nI (1 + s) from nI_add 1 s]), ob1_r f1, if_neg (show ¬ 1 + s = 3 by omega), if_pos rfl, ob1_r f2, if_pos rfl, ob1_r f3, if_pos (show nI (6 + y) = (6 : Int32) + nI y from (nI_add 6 y).symm), ob1_r f4, if_pos (show nI (12 + w) = (12 : Int32) + nI w from (nI_add 12 w).symm)]
  unfold f_L_asks
  rw [ob1_r an, ob14_r g1, e1s, ob14_r g4, ob1_r k2, ob1_r k3, lt_r, em, ob1_r k1, eg, if_neg (nI_pos (by omega))]
  rcases Nat.decEq (GN a (1 + (1 - s), j, x, 6 + y, 12 + w)) 0 with u | u
  · obtain ⟨eh, _⟩ := gI_ne (g := GN a (1 + (1 - s), j, x, 6 + y, 12 + w)) (by have := GN_le a (1 + (1 - s), j, x, 6 + y, 12 + w); omega) u
    rw [eh, if_pos (nI_pos' (by have := GN_le a (1 + (1 - s), j, x, 6 + y, 12 + w); omega))]
    exact ok _ rfl
  · rw [u, gI_0, if_neg (by decide), if_pos rfl]
    exact ok _ rfl
end
