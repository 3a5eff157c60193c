/-! ===== the law's last look: all owners and cards ===== -/
section
variable {a : Sh} {δ : Dl} {pl to : Int32} {ks os cs ys cy oy ns cn on : Nat → Int32} {rd len tl : Int32} {d : Nat → Int32}
theorem dd_s (a : Sh) (k : Nat) : dd a (k + 1) = dd a k + di a k 18 := rfl
theorem di_s (a : Sh) (o k : Nat) : di a o (k + 1) = di a o k + dp a o k := rfl
theorem mrk_z {a : Sh} {o c : Nat} : mrk a o c = 0 ↔ FY a o c = false ∧ FN a o c = false := by
  unfold mrk
  cases FY a o c <;> cases FN a o c <;> simp
theorem mrk_le (a : Sh) (o c : Nat) : mrk a o c ≤ 3 := by
  unfold mrk
  split <;> split <;> omega
abbrev R11 : Type := Int32 → Int32 → (Nat → Int32) → (Nat → Int32) → (Nat → Int32) → Int32 → (Nat → Int32) → (Nat → Int32) → (Nat → Int32) → Int32 → Int32 → Option Int32
theorem look_in (H : CS a pl to ks os cs ys cy oy ns cn on rd len) (hg : GD a δ) (ht : TF a δ) (hd : DR d (sp a) δ) {o : Nat} (ho : o < 6) (rec : R11) (n : Nat) (s : S9) (z1 : Zc s.2.1) (z2 : Zc s.2.2.2.2.2.1) :
    ∃ s' : S9, lo11 (f_L_law_L501 d pl to ks os cs ys oy ns on rec (nI o)) FU (nI n) 0 s.1 s.2.1 s.2.2.1 s.2.2.2.1 s.2.2.2.2.1 s.2.2.2.2.2.1 s.2.2.2.2.2.2.1 s.2.2.2.2.2.2.2.1 s.2.2.2.2.2.2.2.2 = rec (nI (n + di a o 18)) (nI (o + 1)) s'.1 s'.2.1 s'.2.2.1 s'.2.2.2.1 s'.2.2.2.2.1 s'.2.2.2.2.2.1 s'.2.2.2.2.2.2.1 s'.2.2.2.2.2.2.2.1 s'.2.2.2.2.2.2.2.2 ∧ Zc s'.2.1 ∧ Zc s'.2.2.2.2.2.1 := by
  have hw := H.1
  rcases Classical.em (own a o) with w | w
  · obtain ⟨rec', q, e, h⟩ := loopE (S := Int32 × Int32 × S9) (F := fun f q => lo11 (f_L_law_L501 d pl to ks os cs ys oy ns on rec (nI o)) f q.1 q.2.1 q.2.2.1 q.2.2.2.1 q.2.2.2.2.1 q.2.2.2.2.2.1 q.2.2.2.2.2.2.1 q.2.2.2.2.2.2.2.1 q.2.2.2.2.2.2.2.2.1 q.2.2.2.2.2.2.2.2.2.1 q.2.2.2.2.2.2.2.2.2.2) (B := fun rec0 q => f_L_law_L501 d pl to ks os cs ys oy ns on rec (nI o) (fun x y s1 s2 s3 s4 s5 s6 s7 s8 s9 => rec0 (x, y, s1, s2, s3, s4, s5, s6, s7, s8, s9)) q.1 q.2.1 q.2.2.1 q.2.2.2.1 q.2.2.2.2.1 q.2.2.2.2.2.1 q.2.2.2.2.2.2.1 q.2.2.2.2.2.2.2.1 q.2.2.2.2.2.2.2.2.1 q.2.2.2.2.2.2.2.2.2.1 q.2.2.2.2.2.2.2.2.2.2) (fun _ _ => rfl) (fun c q => q.1 = nI (n + di a o c) ∧ q.2.1 = nI c ∧ Zc q.2.2.2.1 ∧ Zc q.2.2.2.2.2.2.2.1) 18 (by
      rintro c ⟨v4, v6, s1, s2, s3, s4, s5, s6, s7, s8, s9⟩ hc ⟨h1, h2, h3, h4⟩ rec0
      replace h1 : v4 = nI (n + di a o c) := h1
      replace h2 : v6 = nI c := h2
      subst h1 h2
      replace h3 : Zc s2 := h3
      replace h4 : Zc s6 := h4
      (try dsimp only)
      rw [f_L_law_L501, if_neg (show ¬ (18 : Int32) ≤ nI c from nle (a := 18) (by decide) (by omega) hc), ob1_r (isOwn_y hd hw w), if_neg one_ne, ob1_r (mark_c H w hc), nI_1]
      have hml := mrk_le a o c
      rcases Nat.decEq (mrk a o c) 0 with u | u
      · have hdp : dp a o c = 0 := by
          unfold dp
          exact ifp_f fun q => u (mrk_z.mpr ⟨q.2.1, q.2.2.1⟩)
        obtain ⟨e1, e2, e3, e4, e5, e6, e7, e8, e9, m1, m2, m3⟩ := musts_ok H hg ht hd w hc h3 h4 s1 s3 s5 s7 s4 s8 s9
        rw [if_neg (show ¬ nI (mrk a o c) = (0 : Int32) from fun q => u ((i_eq (b := 0) (by omega) (by decide)).mp q)), lt_r, ob10_r m1, if_neg one_ne]
        refine ⟨(nI (n + di a o (c + 1)), nI (c + 1), e1, e2, e3, e4, e5, e6, e7, e8, e9), ?_, rfl, rfl, m2, m3⟩
        rw [di_s, hdp, show nI (n + di a o c) + (0 : Int32) = nI (n + di a o c + 0) from nI_add _ 0]
        rfl
      · have hz := mrk_z.mp u
        have hmv := mv_le a o c
        obtain ⟨b1, b2, b3, b4, b5, b6, b7, b8, b9, m4, m5, m6⟩ := must_c H w hc h3 h4 s1 s3 s5 s7 s4 s8 s9
        obtain ⟨e1, e2, e3, e4, e5, e6, e7, e8, e9, m1, m2, m3⟩ := musts_ok H hg ht hd w hc m5 m6 b1 b3 b5 b7 b4 b8 b9
        rw [if_pos (show nI (mrk a o c) = (0 : Int32) from by rw [u]; rfl), ob10_r m4]
        rcases Nat.decEq (mv a o c) 0 with v | v
        · have hdp : dp a o c = 1 := by
            unfold dp
            exact ifp_t ⟨w, hz.1, hz.2, v⟩
          rw [if_neg (show ¬ nI (mv a o c) = (0 : Int32) from fun q => v ((i_eq (b := 0) (by omega) (by decide)).mp q)), lt_r, ob10_r m1, if_neg one_ne]
          refine ⟨(nI (n + di a o (c + 1)), nI (c + 1), e1, e2, e3, e4, e5, e6, e7, e8, e9), ?_, rfl, rfl, m2, m3⟩
          rw [di_s, hdp, nI_1]
          rfl
        · have hdp : dp a o c = 0 := by
            unfold dp
            exact ifp_f fun q => q.2.2.2 v
          rw [if_pos (show nI (mv a o c) = (0 : Int32) from by rw [v]; rfl), lt_r, ob10_r m1, if_neg one_ne]
          refine ⟨(nI (n + di a o (c + 1)), nI (c + 1), e1, e2, e3, e4, e5, e6, e7, e8, e9), ?_, rfl, rfl, m2, m3⟩
          rw [di_s, hdp, show nI (n + di a o c) + (0 : Int32) = nI (n + di a o c + 0) from nI_add _ 0]
          rfl) 18 0 FU (nI n, 0, s) rfl (by decide) ⟨rfl, rfl, z1, z2⟩
    obtain ⟨v4, v6, s1, s2, s3, s4, s5, s6, s7, s8, s9⟩ := q
    obtain ⟨h1, h2, h3, h4⟩ := h
    replace h1 : v4 = nI (n + di a o 18) := h1
    replace h2 : v6 = nI 18 := h2
    subst h1 h2
    refine ⟨(s1, s2, s3, s4, s5, s6, s7, s8, s9), ?_, h3, h4⟩
    refine Eq.trans e ?_
    (try dsimp only)
    rw [f_L_law_L501, if_pos (show (18 : Int32) ≤ nI 18 from by decide), nI_1]
  · refine ⟨s, ?_, z1, z2⟩
    show f_L_law_L501 d pl to ks os cs ys oy ns on rec (nI o) _ (nI n) 0 _ _ _ _ _ _ _ _ _ = _
    rw [f_L_law_L501, if_neg (by decide), ob1_r (isOwn_n hd hw ho w), if_pos rfl, nI_1, di_no w, Nat.add_zero]
    rfl
theorem look_ok (H : CS a pl to ks os cs ys cy oy ns cn on rd len) (hg : GD a δ) (ht : TF a δ) (hd : DR d (sp a) δ) (s : S9) (z1 : Zc s.2.1) (z2 : Zc s.2.2.2.2.2.1) : lo11 (f_L_law_L491 d pl to ks os cs ys oy ns on) FU 0 0 s.1 s.2.1 s.2.2.1 s.2.2.2.1 s.2.2.2.2.1 s.2.2.2.2.2.1 s.2.2.2.2.2.2.1 s.2.2.2.2.2.2.2.1 s.2.2.2.2.2.2.2.2 = some 1 := by
  obtain ⟨r, e, rfl⟩ := loop (S := Int32 × Int32 × S9) (F := fun f q => lo11 (f_L_law_L491 d pl to ks os cs ys oy ns on) f q.1 q.2.1 q.2.2.1 q.2.2.2.1 q.2.2.2.2.1 q.2.2.2.2.2.1 q.2.2.2.2.2.2.1 q.2.2.2.2.2.2.2.1 q.2.2.2.2.2.2.2.2.1 q.2.2.2.2.2.2.2.2.2.1 q.2.2.2.2.2.2.2.2.2.2) (B := fun rec0 q => f_L_law_L491 d pl to ks os cs ys oy ns on (fun x y s1 s2 s3 s4 s5 s6 s7 s8 s9 => rec0 (x, y, s1, s2, s3, s4, s5, s6, s7, s8, s9)) q.1 q.2.1 q.2.2.1 q.2.2.2.1 q.2.2.2.2.1 q.2.2.2.2.2.1 q.2.2.2.2.2.2.1 q.2.2.2.2.2.2.2.1 q.2.2.2.2.2.2.2.2.1 q.2.2.2.2.2.2.2.2.2.1 q.2.2.2.2.2.2.2.2.2.2) (fun _ _ => rfl) (fun k q => q.1 = nI (dd a k) ∧ q.2.1 = nI k ∧ Zc q.2.2.2.1 ∧ Zc q.2.2.2.2.2.2.2.1) (fun r => r = 1) 6 (by
    rintro k ⟨v4, v5, s1, s2, s3, s4, s5, s6, s7, s8, s9⟩ hk ⟨h1, h2, h3, h4⟩ rec0
    replace h1 : v4 = nI (dd a k) := h1
    replace h2 : v5 = nI k := h2
    subst h1 h2
    replace h3 : Zc s2 := h3
    replace h4 : Zc s6 := h4
    (try dsimp only)
    rw [f_L_law_L491, if_neg (show ¬ (6 : Int32) ≤ nI k from nle (a := 6) (by decide) (by omega) hk)]
    obtain ⟨s', e, g1, g2⟩ := look_in H hg ht hd hk (fun x y s1 s2 s3 s4 s5 s6 s7 s8 s9 => rec0 (x, y, s1, s2, s3, s4, s5, s6, s7, s8, s9)) (dd a k) (s1, s2, s3, s4, s5, s6, s7, s8, s9) h3 h4
    exact Or.inr ⟨(nI (dd a (k + 1)), nI (k + 1), s'), e, rfl, rfl, g1, g2⟩) (by
    rintro ⟨v4, v5, s1, s2, s3, s4, s5, s6, s7, s8, s9⟩ ⟨h1, h2, h3, h4⟩ rec0
    replace h1 : v4 = nI (dd a 6) := h1
    replace h2 : v5 = nI 6 := h2
    subst h1 h2
    obtain ⟨e1, e2, e3, e4, e5, e6, e7, e8, e9, m1, _, _⟩ := deeper_c H (sc := s2) (sd := s6) h3 h4 s1 s3 s5 s7 s4 s8 s9
    (try dsimp only)
    rw [f_L_law_L491, if_pos (show (6 : Int32) ≤ nI 6 from by decide), ob10_r m1, if_pos rfl]
    exact ⟨1, rfl, rfl⟩) 6 0 FU (0, 0, s) rfl (by decide) ⟨rfl, rfl, z1, z2⟩
  exact e
end
/-- THE LAW's body answers 1 -/
theorem law_ok {p : Nat} (hp2 : 2 ≤ p) (hp5 : p ≤ 5) {δ : Dl} {d : Nat → Int32} (hg : GD (shNew p) δ) (hd : DR d p δ) {L : Nat} (hL : L ≤ 260) (xs : Nat → Int32) {b : Sh} {pl to : Int32} {ks os cs ys cy oy ns cn on : Nat → Int32} {rd len : Int32} (H0 : CS b pl to ks os cs ys cy oy ns cn on rd len) (hb : sn b = 0) {sc sd : Nat → Int32} (z1 : Zc sc) (z2 : Zc sd) (yr nr : Int32) (sy so sn' son : Nat → Int32) (syr snr srd : Int32) (ad : AdT) (st : Nat → StT) (tl : Int32) :
    f_L_law pl to ks os cs ys cy oy yr ns cn on nr rd sy sc so syr sn' sd son snr srd ad len st tl d L xs (nI p) = some 1 := by
  obtain ⟨ys1, cy1, oy1, yr1, ns1, cn1, on1, nr1, rd1, ad1, len1, st1, b1, H1⟩ := begin_c H0 hp2 hp5 yr nr ad st
  obtain ⟨e1, e2, e3, e4, e5, e6, e7, e8, e9, m1, m2, m3⟩ := deeper_c H1 z1 z2 sy so sn' son syr snr srd
  obtain ⟨c0, _⟩ := count_c H1 tl
  unfold f_L_law
  rw [ob15_r b1, if_pos (show nI (sn b) = (0 : Int32) from by rw [hb]; rfl), ob1_r c0, if_pos (show nI (sp (shNew p)) = nI p from rfl), ob1_r (isTrue_ok H1 hg (tf_new p δ) hd), if_neg one_ne, ob10_r m1, if_pos (show nI (dd (shNew p) 6) = (0 : Int32) from by rw [dd_new hp2 hp5]; rfl)]
  obtain ⟨r, e, rfl⟩ := loop (S := S26) (F := fun f s => lo26 (f_L_law_L68 tl d L xs (nI p) (nI p)) f s.1 s.2.1 s.2.2.1 s.2.2.2.1 s.2.2.2.2.1 s.2.2.2.2.2.1 s.2.2.2.2.2.2.1 s.2.2.2.2.2.2.2.1 s.2.2.2.2.2.2.2.2.1 s.2.2.2.2.2.2.2.2.2.1 s.2.2.2.2.2.2.2.2.2.2.1 s.2.2.2.2.2.2.2.2.2.2.2.1 s.2.2.2.2.2.2.2.2.2.2.2.2.1 s.2.2.2.2.2.2.2.2.2.2.2.2.2.1 s.2.2.2.2.2.2.2.2.2.2.2.2.2.2.1 s.2.2.2.2.2.2.2.2.2.2.2.2.2.2.2.1 s.2.2.2.2.2.2.2.2.2.2.2.2.2.2.2.2.1 s.2.2.2.2.2.2.2.2.2.2.2.2.2.2.2.2.2.1 s.2.2.2.2.2.2.2.2.2.2.2.2.2.2.2.2.2.2.1 s.2.2.2.2.2.2.2.2.2.2.2.2.2.2.2.2.2.2.2.1 s.2.2.2.2.2.2.2.2.2.2.2.2.2.2.2.2.2.2.2.2.1 s.2.2.2.2.2.2.2.2.2.2.2.2.2.2.2.2.2.2.2.2.2.1 s.2.2.2.2.2.2.2.2.2.2.2.2.2.2.2.2.2.2.2.2.2.2.1 s.2.2.2.2.2.2.2.2.2.2.2.2.2.2.2.2.2.2.2.2.2.2.2.1 s.2.2.2.2.2.2.2.2.2.2.2.2.2.2.2.2.2.2.2.2.2.2.2.2.1 s.2.2.2.2.2.2.2.2.2.2.2.2.2.2.2.2.2.2.2.2.2.2.2.2.2) (B := fun rec s => f_L_law_L68 tl d L xs (nI p) (nI p) (fun x1 x2 x3 x4 x5 x6 x7 x8 x9 x10 x11 x12 x13 x14 x15 x16 x17 x18 x19 x20 x21 x22 x23 x24 x25 x26 => rec (x1, x2, x3, x4, x5, x6, x7, x8, x9, x10, x11, x12, x13, x14, x15, x16, x17, x18, x19, x20, x21, x22, x23, x24, x25, x26)) s.1 s.2.1 s.2.2.1 s.2.2.2.1 s.2.2.2.2.1 s.2.2.2.2.2.1 s.2.2.2.2.2.2.1 s.2.2.2.2.2.2.2.1 s.2.2.2.2.2.2.2.2.1 s.2.2.2.2.2.2.2.2.2.1 s.2.2.2.2.2.2.2.2.2.2.1 s.2.2.2.2.2.2.2.2.2.2.2.1 s.2.2.2.2.2.2.2.2.2.2.2.2.1 s.2.2.2.2.2.2.2.2.2.2.2.2.2.1 s.2.2.2.2.2.2.2.2.2.2.2.2.2.2.1 s.2.2.2.2.2.2.2.2.2.2.2.2.2.2.2.1 s.2.2.2.2.2.2.2.2.2.2.2.2.2.2.2.2.1 s.2.2.2.2.2.2.2.2.2.2.2.2.2.2.2.2.2.1 s.2.2.2.2.2.2.2.2.2.2.2.2.2.2.2.2.2.2.1 s.2.2.2.2.2.2.2.2.2.2.2.2.2.2.2.2.2.2.2.1 s.2.2.2.2.2.2.2.2.2.2.2.2.2.2.2.2.2.2.2.2.1 s.2.2.2.2.2.2.2.2.2.2.2.2.2.2.2.2.2.2.2.2.2.1 s.2.2.2.2.2.2.2.2.2.2.2.2.2.2.2.2.2.2.2.2.2.2.1 s.2.2.2.2.2.2.2.2.2.2.2.2.2.2.2.2.2.2.2.2.2.2.2.1 s.2.2.2.2.2.2.2.2.2.2.2.2.2.2.2.2.2.2.2.2.2.2.2.2.1 s.2.2.2.2.2.2.2.2.2.2.2.2.2.2.2.2.2.2.2.2.2.2.2.2.2) (fun _ _ => rfl) (fun k s => ∃ (to : Int32) (ks os cs ys cy oy : Nat → Int32) (yr : Int32) (ns cn on : Nat → Int32) (nr rd : Int32) (x1 x2 x3 : Nat → Int32) (x4 : Int32) (x5 x6 x7 : Nat → Int32) (x8 x9 : Int32) (ad : AdT) (len : Int32) (st : Nat → StT) (a : Sh), s = (nI k, to, ks, os, cs, ys, cy, oy, yr, ns, cn, on, nr, rd, x1, x2, x3, x4, x5, x6, x7, x8, x9, ad, len, st) ∧ CS a (nI p) to ks os cs ys cy oy ns cn on rd len ∧ sp a = p ∧ sn a ≤ k ∧ GD a δ ∧ TF a δ ∧ Zc x2 ∧ Zc x6) (fun r => r = 1) 30 (by
    rintro k s hk ⟨to, ks, os, cs, ys, cy, oy, yr, ns, cn, on, nr, rd, x1, x2, x3, x4, x5, x6, x7, x8, x9, ad, len, st, a, rfl, h1, rfl, h3, h4, h5, h6, h7⟩ rec
    (try dsimp only)
    obtain ⟨a', to', ks', os', cs', ys', cy', oy', yr', ns', cn', on', nr', rd', f1, f2, f3, f4, f5, f6, f7, f8, f9, ad', len', st', q1, q2, q3, q4, q5, q6, q7, q8⟩ := step_ok (tl := tl) h1 h4 h5 hd hL xs hk h3 (fun x1 x2 x3 x4 x5 x6 x7 x8 x9 x10 x11 x12 x13 x14 x15 x16 x17 x18 x19 x20 x21 x22 x23 x24 x25 x26 => rec (x1, x2, x3, x4, x5, x6, x7, x8, x9, x10, x11, x12, x13, x14, x15, x16, x17, x18, x19, x20, x21, x22, x23, x24, x25, x26)) h6 h7 yr nr x1 x3 x5 x7 x4 x8 x9 ad st
    exact Or.inr ⟨_, q1, _, _, _, _, _, _, _, _, _, _, _, _, _, _, _, _, _, _, _, _, _, _, _, _, _, a', rfl, q2, q3, q4, q5, q6, q7, q8⟩) (by
    rintro s ⟨to, ks, os, cs, ys, cy, oy, yr, ns, cn, on, nr, rd, x1, x2, x3, x4, x5, x6, x7, x8, x9, ad, len, st, a, rfl, h1, rfl, h3, h4, h5, h6, h7⟩ rec
    (try dsimp only)
    rw [f_L_law_L68, if_pos (show (30 : Int32) ≤ nI 30 from by decide)]
    exact ⟨1, look_ok h1 h4 h5 hd (x1, x2, x3, x4, x5, x6, x7, x8, x9) h6 h7, rfl⟩) 30 0 FU (0, 0, ks, os, cs, ys1, cy1, oy1, yr1, ns1, cn1, on1, nr1, rd1, e1, e2, e3, e4, e5, e6, e7, e8, e9, ad1, len1, st1) rfl (by decide) ⟨_, _, _, _, _, _, _, _, _, _, _, _, _, _, _, _, _, _, _, _, _, _, _, _, _, _, rfl, H1, rfl, Nat.zero_le _, hg, tf_new p δ, m2, m3⟩
  exact e
