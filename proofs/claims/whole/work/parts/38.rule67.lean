/-! ===== rules 6 and 7, the reference ===== -/
def FT (a : Sh) (t : Nat → Int32) (i c : Nat) : Prop := inF a i c = true ∧ bt (t (ow a i)) c = false ∧ fb_ct (fun c => inF a i c && bt (t (ow a i)) c) 18 = 2
theorem thr2_go {a : Sh} (hw : WF a) {z : Nat → Int32} (hz : RZ z a) {Y N : Mk} {k : Nat} {T1 T2 T3 T4 : Gh} {yt nt : Nat → Int32} :
    ∀ (d i fuel : Nat), i + d = sn a → d < fuel → ∀ (yes no yR yL nR nL : Nat → Int32) (q : Int32) (s1 s2 : Gh), RX Y s1 k T1 T2 yes yR yL → RX N s2 k T3 T4 no nR nL → IM q s1 s2 →
    ∃ yes' no' yR' yL' nR' nL' q', lo8 (f_X6_byThrees_L2 z yt nt (nI k) (2 : Int32)) fuel (nI i) yes no yR yL nR nL q = some (yes', no', yR', yL', nR', nL', q') ∧ RX Y (app s1 Y 6 (fun x c => ∃ j, i ≤ j ∧ j < sn a ∧ kd a j = 2 ∧ x = ow a j ∧ FT a nt j c)) k T1 T2 yes' yR' yL' ∧ RX N s2 k T3 T4 no' nR' nL' ∧ IM q' (app s1 Y 6 (fun x c => ∃ j, i ≤ j ∧ j < sn a ∧ kd a j = 2 ∧ x = ow a j ∧ FT a nt j c)) s2 := by
  have hn := hw.2.2.1
  have hp := hw.2.1
  intro d
  induction d with
  | zero =>
    intro i fuel h1 h2 yes no yR yL nR nL q s1 s2 hY hN hi
    obtain ⟨f, rfl⟩ : ∃ f, fuel = f + 1 := ⟨fuel - 1, by omega⟩
    refine ⟨yes, no, yR, yL, nR, nL, q, ?_, ?_⟩
    · show f_X6_byThrees_L2 z yt nt (nI k) (2 : Int32) (lo8 _ f) (nI i) yes no yR yL nR nL q = _
      rw [f_X6_byThrees_L2, gd1 (by decide), cl1, if_pos (show z 1 ≤ nI i from by rw [hz.2.1]; exact nI_le (by omega) (by omega))]
    · rw [app_no (fun o c ⟨j, h3, h4, _⟩ => by omega)]
      exact ⟨hY, hN, hi⟩
  | succ d ih =>
    intro i fuel h1 h2 yes no yR yL nR nL q s1 s2 hY hN hi
    obtain ⟨f, rfl⟩ : ∃ f, fuel = f + 1 := ⟨fuel - 1, by omega⟩
    have hin : i < sn a := by omega
    obtain ⟨w1, w2, w3, w4, w5⟩ := hw.2.2.2 i hin
    obtain ⟨e0, e1, e1', e2, e3, e4⟩ := hz.2.2 i hin
    have hhead : lo8 (f_X6_byThrees_L2 z yt nt (nI k) (2 : Int32)) (f + 1) (nI i) yes no yR yL nR nL q = f_X6_byThrees_L2 z yt nt (nI k) (2 : Int32) (lo8 (f_X6_byThrees_L2 z yt nt (nI k) (2 : Int32)) f) (nI i) yes no yR yL nR nL q := rfl
    rw [hhead, f_X6_byThrees_L2, gd1 (by decide), cl1, if_neg (show ¬ z 1 ≤ nI i from by rw [hz.2.1]; exact nle (by omega) (by omega) hin), fact_0 (by omega), ob1_r rfl, e0]
    rcases Nat.decEq (kd a i) 2 with k0 | k0
    · rw [if_neg (show ¬ nI (kd a i) = (2 : Int32) from fun h => k0 ((i_eq (b := 2) (by omega) (by decide)).mp h)), nI_1]
      obtain ⟨y', n', a1, a2, a3, a4, q', g4, g5, g6, g7⟩ := ih (i + 1) f (by omega) (by omega) yes no yR yL nR nL q s1 s2 hY hN hi
      have c2 : app s1 Y 6 (fun x c => ∃ j, i + 1 ≤ j ∧ j < sn a ∧ kd a j = 2 ∧ x = ow a j ∧ FT a nt j c) = app s1 Y 6 (fun x c => ∃ j, i ≤ j ∧ j < sn a ∧ kd a j = 2 ∧ x = ow a j ∧ FT a nt j c) := app_c fun x c => ⟨fun ⟨j, h3, h4⟩ => ⟨j, by omega, h4⟩, fun ⟨j, h3, h4, h5, h6⟩ => by
        rcases Nat.lt_or_ge i j with w | w
        · exact ⟨j, w, h4, h5, h6⟩
        · have : j = i := by omega
          subst this
          exact absurd h5 k0⟩
      rw [c2] at g5 g7
      exact ⟨y', n', a1, a2, a3, a4, q', g4, g5, g6, g7⟩
    · rw [if_pos (show nI (kd a i) = (2 : Int32) from by rw [k0]; rfl)]
      have hk0 : kd a i ≠ 0 := by omega
      obtain ⟨m, m1, m2, m3⟩ := three_ok hz hw hin hk0
      have ho : ow a i < 6 := by have := w2 (by omega); omega
      rw [ob1_r m1, if_pos rfl, fact_1 (by omega), ob1_r rfl, e1 (by omega)]
      rw [f_X6_byThrees_J43, if_pos rfl, gd_r (vp_in_nI ho (by decide)), i_cl (by omega)]
      unfold f_X6_byThrees_J68 lt'
      dsimp only
      have hct : cnt (m &&& nt (ow a i)) = fb_ct (fun c => inF a i c && bt (nt (ow a i)) c) 18 := by
        unfold cnt
        exact fb_ct_cong fun c _ => by rw [b_and, m3]
      have hle := cnt_le (m &&& nt (ow a i))
      rw [bits_18 (m18_and m2), ob1_r rfl]
      rcases Nat.decEq (cnt (m &&& nt (ow a i))) 2 with u | u
      · rw [if_neg (show ¬ nI (cnt (m &&& nt (ow a i))) = (2 : Int32) from fun h => u ((i_eq (b := 2) (by omega) (by decide)).mp h)), f_X6_byThrees_J102, bits_18 (m18_and m2), ob1_r rfl, if_neg (show ¬ nI (cnt (m &&& nt (ow a i))) = (2 : Int32) from fun h => u ((i_eq (b := 2) (by omega) (by decide)).mp h)), nI_1]
        obtain ⟨y', n', a1, a2, a3, a4, q', g4, g5, g6, g7⟩ := ih (i + 1) f (by omega) (by omega) yes no yR yL nR nL q s1 s2 hY hN hi
        have c2 : app s1 Y 6 (fun x c => ∃ j, i + 1 ≤ j ∧ j < sn a ∧ kd a j = 2 ∧ x = ow a j ∧ FT a nt j c) = app s1 Y 6 (fun x c => ∃ j, i ≤ j ∧ j < sn a ∧ kd a j = 2 ∧ x = ow a j ∧ FT a nt j c) := app_c fun x c => ⟨fun ⟨j, h3, h4⟩ => ⟨j, by omega, h4⟩, fun ⟨j, h3, h4, h5, h6⟩ => by
          rcases Nat.lt_or_ge i j with w | w
          · exact ⟨j, w, h4, h5, h6⟩
          · have : j = i := by omega
            subst this
            exact absurd h6.2.2.2 (by rw [← hct]; exact u)⟩
        rw [c2] at g5 g7
        exact ⟨y', n', a1, a2, a3, a4, q', g4, g5, g6, g7⟩
      · rw [if_pos (show nI (cnt (m &&& nt (ow a i))) = (2 : Int32) from by rw [u]; rfl), if_pos rfl]
        obtain ⟨n1, b1, b2, q1, g1, g2, g3⟩ := giveY_rx hY hi ho (m := m &&& ((m &&& nt (ow a i)) ^^^ (-1 : Int32))) (m18_and m2) (r := 6) (by decide) (rl := 6) rfl
        rw [ob4_r g1, nI_1]
        obtain ⟨y', n', a1, a2, a3, a4, q', g4, g5, g6, g7⟩ := ih (i + 1) f (by omega) (by omega) n1 no b1 b2 nR nL q1 _ s2 g2 hN g3
        rw [app_or (by decide)] at g5 g7
        have c2 : app s1 Y 6 (fun x c => one (ow a i) (m &&& ((m &&& nt (ow a i)) ^^^ (-1 : Int32))) x c ∨ ∃ j, i + 1 ≤ j ∧ j < sn a ∧ kd a j = 2 ∧ x = ow a j ∧ FT a nt j c) = app s1 Y 6 (fun x c => ∃ j, i ≤ j ∧ j < sn a ∧ kd a j = 2 ∧ x = ow a j ∧ FT a nt j c) := by
          refine app_c fun x c => ⟨fun h => ?_, fun ⟨j, h3, h4, h5, h6, h7⟩ => ?_⟩
          · rcases h with ⟨h3, h4⟩ | ⟨j, h3, h4⟩
            · rw [b_andnot m2, b_and, m3, Bool.and_eq_true, Bool.not_eq_true'] at h4
              refine ⟨i, Nat.le_refl _, hin, k0, h3, h4.1, ?_, by rw [← hct]; exact u⟩
              have := h4.2
              rw [h4.1, Bool.true_and] at this
              exact this
            · exact ⟨j, by omega, h4⟩
          · rcases Nat.lt_or_ge i j with v | v
            · exact Or.inr ⟨j, v, h4, h5, h6, h7⟩
            · have : j = i := by omega
              subst this
              refine Or.inl ⟨h6, ?_⟩
              rw [b_andnot m2, b_and, m3, h7.1, h7.2.1]
              rfl
        rw [c2] at g5 g7
        exact ⟨y', n', a1, a2, a3, a4, q', g4, g5, g6, g7⟩
theorem thr2_ok {a : Sh} (hw : WF a) {z : Nat → Int32} (hz : RZ z a) {Y N : Mk} {k : Nat} {T1 T2 T3 T4 : Gh} {yt nt : Nat → Int32} {yes no yR yL nR nL : Nat → Int32} {q : Int32} {s1 s2 : Gh} (hY : RX Y s1 k T1 T2 yes yR yL) (hN : RX N s2 k T3 T4 no nR nL) (hi : IM q s1 s2) :
    ∃ yes' no' yR' yL' nR' nL' q', f_X6_byThrees z yes no yt nt yR yL nR nL (nI k) q (2 : Int32) = some (yes', no', yR', yL', nR', nL', q') ∧ RX Y (app s1 Y 6 (fun x c => ∃ j, 0 ≤ j ∧ j < sn a ∧ kd a j = 2 ∧ x = ow a j ∧ FT a nt j c)) k T1 T2 yes' yR' yL' ∧ RX N s2 k T3 T4 no' nR' nL' ∧ IM q' (app s1 Y 6 (fun x c => ∃ j, 0 ≤ j ∧ j < sn a ∧ kd a j = 2 ∧ x = ow a j ∧ FT a nt j c)) s2 :=
  thr2_go hw hz (sn a) 0 FU (by omega) (Nat.lt_of_le_of_lt hw.2.2.1 (by decide)) yes no yR yL nR nL q s1 s2 hY hN hi
theorem thr3_go {a : Sh} (hw : WF a) {z : Nat → Int32} (hz : RZ z a) {Y N : Mk} {k : Nat} {T1 T2 T3 T4 : Gh} {yt nt : Nat → Int32} :
    ∀ (d i fuel : Nat), i + d = sn a → d < fuel → ∀ (yes no yR yL nR nL : Nat → Int32) (q : Int32) (s1 s2 : Gh), RX Y s1 k T1 T2 yes yR yL → RX N s2 k T3 T4 no nR nL → IM q s1 s2 →
    ∃ yes' no' yR' yL' nR' nL' q', lo8 (f_X6_byThrees_L2 z yt nt (nI k) (3 : Int32)) fuel (nI i) yes no yR yL nR nL q = some (yes', no', yR', yL', nR', nL', q') ∧ RX Y s1 k T1 T2 yes' yR' yL' ∧ RX N (app s2 N 7 (fun x c => ∃ j, i ≤ j ∧ j < sn a ∧ kd a j = 3 ∧ x = ow a j ∧ FT a yt j c)) k T3 T4 no' nR' nL' ∧ IM q' s1 (app s2 N 7 (fun x c => ∃ j, i ≤ j ∧ j < sn a ∧ kd a j = 3 ∧ x = ow a j ∧ FT a yt j c)) := by
  have hn := hw.2.2.1
  have hp := hw.2.1
  intro d
  induction d with
  | zero =>
    intro i fuel h1 h2 yes no yR yL nR nL q s1 s2 hY hN hi
    obtain ⟨f, rfl⟩ : ∃ f, fuel = f + 1 := ⟨fuel - 1, by omega⟩
    refine ⟨yes, no, yR, yL, nR, nL, q, ?_, ?_⟩
    · show f_X6_byThrees_L2 z yt nt (nI k) (3 : Int32) (lo8 _ f) (nI i) yes no yR yL nR nL q = _
      rw [f_X6_byThrees_L2, gd1 (by decide), cl1, if_pos (show z 1 ≤ nI i from by rw [hz.2.1]; exact nI_le (by omega) (by omega))]
    · rw [app_no (fun o c ⟨j, h3, h4, _⟩ => by omega)]
      exact ⟨hY, hN, hi⟩
  | succ d ih =>
    intro i fuel h1 h2 yes no yR yL nR nL q s1 s2 hY hN hi
    obtain ⟨f, rfl⟩ : ∃ f, fuel = f + 1 := ⟨fuel - 1, by omega⟩
    have hin : i < sn a := by omega
    obtain ⟨w1, w2, w3, w4, w5⟩ := hw.2.2.2 i hin
    obtain ⟨e0, e1, e1', e2, e3, e4⟩ := hz.2.2 i hin
    have hhead : lo8 (f_X6_byThrees_L2 z yt nt (nI k) (3 : Int32)) (f + 1) (nI i) yes no yR yL nR nL q = f_X6_byThrees_L2 z yt nt (nI k) (3 : Int32) (lo8 (f_X6_byThrees_L2 z yt nt (nI k) (3 : Int32)) f) (nI i) yes no yR yL nR nL q := rfl
    rw [hhead, f_X6_byThrees_L2, gd1 (by decide), cl1, if_neg (show ¬ z 1 ≤ nI i from by rw [hz.2.1]; exact nle (by omega) (by omega) hin), fact_0 (by omega), ob1_r rfl, e0]
    rcases Nat.decEq (kd a i) 3 with k0 | k0
    · rw [if_neg (show ¬ nI (kd a i) = (3 : Int32) from fun h => k0 ((i_eq (b := 3) (by omega) (by decide)).mp h)), nI_1]
      obtain ⟨y', n', a1, a2, a3, a4, q', g4, g5, g6, g7⟩ := ih (i + 1) f (by omega) (by omega) yes no yR yL nR nL q s1 s2 hY hN hi
      have c2 : app s2 N 7 (fun x c => ∃ j, i + 1 ≤ j ∧ j < sn a ∧ kd a j = 3 ∧ x = ow a j ∧ FT a yt j c) = app s2 N 7 (fun x c => ∃ j, i ≤ j ∧ j < sn a ∧ kd a j = 3 ∧ x = ow a j ∧ FT a yt j c) := app_c fun x c => ⟨fun ⟨j, h3, h4⟩ => ⟨j, by omega, h4⟩, fun ⟨j, h3, h4, h5, h6⟩ => by
        rcases Nat.lt_or_ge i j with w | w
        · exact ⟨j, w, h4, h5, h6⟩
        · have : j = i := by omega
          subst this
          exact absurd h5 k0⟩
      rw [c2] at g6 g7
      exact ⟨y', n', a1, a2, a3, a4, q', g4, g5, g6, g7⟩
    · rw [if_pos (show nI (kd a i) = (3 : Int32) from by rw [k0]; rfl)]
      have hk0 : kd a i ≠ 0 := by omega
      obtain ⟨m, m1, m2, m3⟩ := three_ok hz hw hin hk0
      have ho : ow a i < 6 := by have := w3 k0; omega
      rw [ob1_r m1, if_neg (by decide)]
      rw [f_X6_byThrees_J43, if_neg (by decide), show (5 : Int32) = nI (ow a i) from by rw [w3 k0]; rfl, gd_r (vp_in_nI ho (by decide)), i_cl (by omega)]
      unfold f_X6_byThrees_J68 lt'
      dsimp only
      have hct : cnt (m &&& yt (ow a i)) = fb_ct (fun c => inF a i c && bt (yt (ow a i)) c) 18 := by
        unfold cnt
        exact fb_ct_cong fun c _ => by rw [b_and, m3]
      have hle := cnt_le (m &&& yt (ow a i))
      rw [bits_18 (m18_and m2), ob1_r rfl]
      rcases Nat.decEq (cnt (m &&& yt (ow a i))) 2 with u | u
      · rw [if_neg (show ¬ nI (cnt (m &&& yt (ow a i))) = (2 : Int32) from fun h => u ((i_eq (b := 2) (by omega) (by decide)).mp h)), f_X6_byThrees_J102, bits_18 (m18_and m2), ob1_r rfl, if_neg (show ¬ nI (cnt (m &&& yt (ow a i))) = (2 : Int32) from fun h => u ((i_eq (b := 2) (by omega) (by decide)).mp h)), nI_1]
        obtain ⟨y', n', a1, a2, a3, a4, q', g4, g5, g6, g7⟩ := ih (i + 1) f (by omega) (by omega) yes no yR yL nR nL q s1 s2 hY hN hi
        have c2 : app s2 N 7 (fun x c => ∃ j, i + 1 ≤ j ∧ j < sn a ∧ kd a j = 3 ∧ x = ow a j ∧ FT a yt j c) = app s2 N 7 (fun x c => ∃ j, i ≤ j ∧ j < sn a ∧ kd a j = 3 ∧ x = ow a j ∧ FT a yt j c) := app_c fun x c => ⟨fun ⟨j, h3, h4⟩ => ⟨j, by omega, h4⟩, fun ⟨j, h3, h4, h5, h6⟩ => by
          rcases Nat.lt_or_ge i j with w | w
          · exact ⟨j, w, h4, h5, h6⟩
          · have : j = i := by omega
            subst this
            exact absurd h6.2.2.2 (by rw [← hct]; exact u)⟩
        rw [c2] at g6 g7
        exact ⟨y', n', a1, a2, a3, a4, q', g4, g5, g6, g7⟩
      · rw [if_pos (show nI (cnt (m &&& yt (ow a i))) = (2 : Int32) from by rw [u]; rfl), if_neg (by decide), f_X6_byThrees_J102, bits_18 (m18_and m2), ob1_r rfl, if_pos (show nI (cnt (m &&& yt (ow a i))) = (2 : Int32) from by rw [u]; rfl)]
        obtain ⟨n1, b1, b2, q1, g1, g2, g3⟩ := giveN_rx hN hi ho (m := m &&& ((m &&& yt (ow a i)) ^^^ (-1 : Int32))) (m18_and m2) (r := 7) (by decide) (rl := 7) rfl
        rw [ob4_r g1, nI_1]
        obtain ⟨y', n', a1, a2, a3, a4, q', g4, g5, g6, g7⟩ := ih (i + 1) f (by omega) (by omega) yes n1 yR yL b1 b2 q1 s1 _ hY g2 g3
        rw [app_or (by decide)] at g6 g7
        have c2 : app s2 N 7 (fun x c => one (ow a i) (m &&& ((m &&& yt (ow a i)) ^^^ (-1 : Int32))) x c ∨ ∃ j, i + 1 ≤ j ∧ j < sn a ∧ kd a j = 3 ∧ x = ow a j ∧ FT a yt j c) = app s2 N 7 (fun x c => ∃ j, i ≤ j ∧ j < sn a ∧ kd a j = 3 ∧ x = ow a j ∧ FT a yt j c) := by
          refine app_c fun x c => ⟨fun h => ?_, fun ⟨j, h3, h4, h5, h6, h7⟩ => ?_⟩
          · rcases h with ⟨h3, h4⟩ | ⟨j, h3, h4⟩
            · rw [b_andnot m2, b_and, m3, Bool.and_eq_true, Bool.not_eq_true'] at h4
              refine ⟨i, Nat.le_refl _, hin, k0, h3, h4.1, ?_, by rw [← hct]; exact u⟩
              have := h4.2
              rw [h4.1, Bool.true_and] at this
              exact this
            · exact ⟨j, by omega, h4⟩
          · rcases Nat.lt_or_ge i j with v | v
            · exact Or.inr ⟨j, v, h4, h5, h6, h7⟩
            · have : j = i := by omega
              subst this
              refine Or.inl ⟨h6, ?_⟩
              rw [b_andnot m2, b_and, m3, h7.1, h7.2.1]
              rfl
        rw [c2] at g6 g7
        exact ⟨y', n', a1, a2, a3, a4, q', g4, g5, g6, g7⟩
theorem thr3_ok {a : Sh} (hw : WF a) {z : Nat → Int32} (hz : RZ z a) {Y N : Mk} {k : Nat} {T1 T2 T3 T4 : Gh} {yt nt : Nat → Int32} {yes no yR yL nR nL : Nat → Int32} {q : Int32} {s1 s2 : Gh} (hY : RX Y s1 k T1 T2 yes yR yL) (hN : RX N s2 k T3 T4 no nR nL) (hi : IM q s1 s2) :
    ∃ yes' no' yR' yL' nR' nL' q', f_X6_byThrees z yes no yt nt yR yL nR nL (nI k) q (3 : Int32) = some (yes', no', yR', yL', nR', nL', q') ∧ RX Y s1 k T1 T2 yes' yR' yL' ∧ RX N (app s2 N 7 (fun x c => ∃ j, 0 ≤ j ∧ j < sn a ∧ kd a j = 3 ∧ x = ow a j ∧ FT a yt j c)) k T3 T4 no' nR' nL' ∧ IM q' s1 (app s2 N 7 (fun x c => ∃ j, 0 ≤ j ∧ j < sn a ∧ kd a j = 3 ∧ x = ow a j ∧ FT a yt j c)) :=
  thr3_go hw hz (sn a) 0 FU (by omega) (Nat.lt_of_le_of_lt hw.2.2.1 (by decide)) yes no yR yL nR nL q s1 s2 hY hN hi
