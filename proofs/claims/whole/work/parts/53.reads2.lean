/-! ===== ofFact, count, envelope ===== -/
theorem low_bit {x : Int32} (hx : M18 x) {c : Nat} (hc : c < 18) (h1 : bt x c = true) (h2 : ∀ i, i < c → bt x i = false) : x &&& (-x) = (1 : Int32) <<< (nI c &&& 31) := by
  refine b_ext fun i hi => ?_
  rw [b_and, b_one' c hc]
  have hn : bt (-x) i = (bt x i ^^ decide (∃ j, j < i ∧ bt x j = true)) := by
    unfold bt
    rw [show (-x).toBitVec = -x.toBitVec from rfl, BitVec.getLsbD_neg]
    rw [decide_eq_true hi, Bool.true_and]
  rw [hn]
  rcases Nat.lt_trichotomy i c with u | u | u
  · rw [h2 i u, Bool.false_and, decide_eq_false (by omega)]
  · subst u
    rw [h1, decide_eq_false (show ¬ ∃ j, j < i ∧ bt x j = true from fun ⟨j, hj, q⟩ => by rw [h2 j hj] at q; exact Bool.noConfusion q), decide_eq_true rfl]
    rfl
  · rw [decide_eq_true (show ∃ j, j < i ∧ bt x j = true from ⟨c, u, h1⟩), decide_eq_false (show ¬ i = c by omega)]
    cases bt x i <;> rfl
theorem m1_bits : ∀ c, c < 18 → ∀ i, i < 32 → bt (((1 : Int32) <<< (nI c &&& 31)) - 1) i = decide (i < c) := by decide +kernel
theorem m1_18 {c : Nat} (hc : c < 18) : M18 (((1 : Int32) <<< (nI c &&& 31)) - 1) := m18_dec fun i hi h => by rw [m1_bits c hc i hi]; exact decide_eq_false (by omega)
theorem ct_under (c : Nat) : ∀ n, fb_ct (fun i => decide (i < c)) n = min c n
  | 0 => by rw [Nat.min_zero]; rfl
  | n + 1 => by
    rw [fb_ct_succ, ct_under c n]
    rcases Nat.lt_or_ge n c with u | u
    · rw [decide_eq_true u, if_pos rfl]; omega
    · rw [decide_eq_false (by omega), if_neg (by decide)]; omega
theorem m1_cnt {c : Nat} (hc : c < 18) : cnt (((1 : Int32) <<< (nI c &&& 31)) - 1) = c := by
  unfold cnt
  rw [fb_ct_cong (q := fun i => decide (i < c)) (fun i hi => m1_bits c hc i (by omega)), ct_under]
  omega
theorem lowest_ok {x : Int32} (hx : M18 x) {c : Nat} (hc : c < 18) (h1 : bt x c = true) (h2 : ∀ i, i < c → bt x i = false) : f_X5_lowestOf x = some (nI c) ∧ f_X6_bits ((x &&& (-x)) - 1) = some (nI c) := by
  have hne : ¬ x = 0 := (m18_nz hx).mpr ⟨c, hc, h1⟩
  unfold f_X5_lowestOf
  rw [if_neg hne, low_bit hx hc h1 h2, ob1_r (count_18 (m1_18 hc)), bits_18 (m1_18 hc), m1_cnt hc]
  exact ⟨rfl, rfl⟩
theorem lowest_or {x : Int32} (hx : M18 x) : x = 0 ∨ ∃ c, c < 18 ∧ bt x c = true ∧ ∀ i, i < c → bt x i = false := by
  rcases Decidable.em (x = 0) with h | h
  · exact Or.inl h
  · obtain ⟨c, hc, q⟩ := (m18_nz hx).mp h
    obtain ⟨k, h1, h2⟩ := pk_least (fun i => bt x i = true) ⟨c, q⟩
    refine Or.inr ⟨k, ?_, h1, fun i hi => by cases e : bt x i; rfl; exact absurd e (h2 i hi)⟩
    apply Nat.lt_of_not_le
    intro hle
    rw [hx k hle] at h1
    exact Bool.noConfusion h1
theorem kind5 {k : Nat} (hk : k < 3) : ∃ m, f_X5_cardsOfKind (nI k) = some m ∧ f_X6_kindSet (nI k) = some m ∧ M18 m ∧ ∀ i, i < 32 → bt m i = decide (i / 6 = k) := by
  have e : ((63 : Int32) <<< ((nI k * (6 : Int32)) &&& 31)) = ((63 : Int32) <<< (((6 : Int32) * nI k) &&& 31)) := b_ext fun i hi => by rw [b_kind k hk i hi, b_kind2 k hk i hi]
  unfold f_X5_cardsOfKind f_X6_kindSet
  rw [e]
  exact ⟨_, rfl, rfl, m18_kind hk, fun i hi => b_kind2 k hk i hi⟩
section
variable {a : Sh} {m : Nat} {L : Nat → Sh} {pl to : Int32} {ks os cs ys cy oy ns cn on : Nat → Int32} {rd len : Int32} {st : Nat → StT} {z past : Nat → Int32} {pm : Int32}
theorem of5 (t : Nat → Int32) : f_X4_of t 5 = some (t 5) := of_ok (o := 5) (by decide)
theorem ofFact_ok (H : FR a pl to ks os cs z) (v1 v2 : Int32) : ∃ r, f_X5_ofFact to ks os cs v1 v2 = some r ∧ f_X6_ofFact z v1 v2 = some r := by
  obtain ⟨hw, h40, hf, hz⟩ := H
  unfold f_X5_ofFact f_X6_ofFact f_X0_has
  rw [gd1 (by decide), cl1, hz.2.1]
  rcases lim (x := v1) (sn a) (by omega) with ⟨j, hj, rfl⟩ | h
  · have g41 : ∀ {α : Type} {k : Option α}, gd (nI j) 41 k = k := gd_r (vp_in_nI (n := j) (by omega) (by decide))
    rw [if_neg (nI_pos (by omega)), if_neg (nI_pos (by omega)), if_pos (nI_lt hj (by omega)), if_neg (show ¬ to ≤ nI j from by rw [hf.2.1]; exact nle (by omega) (by omega) hj), ob1_r rfl, if_neg one_ne, g41, lt_r, g41, lt_r, g41, i_cl (by omega)]
    obtain ⟨k1, k2, k3, k4⟩ := hf.2.2 j hj
    obtain ⟨g1, g2, g3, g4, g5, g6⟩ := hz.2.2 j hj
    obtain ⟨w1, w2, w3, w4, w5⟩ := hw.2.2.2 j hj
    have k4' : ∀ c, c < 18 → bt (cs j) c = (decide (c = ca a j) || (decide (kd a j ≠ 0) && (decide (c = cb a j) || decide (c = cc a j)))) := k4
    have f0 := fact_0 (z := z) (i := j) (by omega)
    have f1 := fact_1 (z := z) (i := j) (by omega)
    have f2 := fact_2 (z := z) (i := j) (by omega)
    have f3 := fact_3 (z := z) (i := j) (by omega)
    have f4 := fact_4 (z := z) (i := j) (by omega)
    rw [k1, k2]
    rcases lim (x := v2) 5 (by decide) with ⟨w, hw5, rfl⟩ | hv
    · rw [ob1_r (show f_X6_in (nI w) 0 4 = some 1 from in_y (m := 4) (by decide) (by omega)), if_neg one_ne]
      rcases (show w = 0 ∨ w = 1 ∨ w = 2 ∨ w = 3 ∨ w = 4 by omega) with rfl | rfl | rfl | rfl | rfl
      · rw [if_pos (show nI 0 = (0 : Int32) from rfl), show f_X6_fact z (nI j) (nI 0) = _ from f0, ob1_r rfl, g1]
        exact ⟨_, rfl, rfl⟩
      · rw [if_neg (show ¬ nI 1 = (0 : Int32) by decide), if_pos (show nI 1 = (1 : Int32) from rfl), show f_X6_fact z (nI j) (nI 1) = _ from f1, ob1_r rfl]
        rcases Nat.decEq (kd a j) 3 with e | e
        · rw [if_neg (show ¬ nI (kd a j) = (3 : Int32) from fun q => e ((i_eq (b := 3) (by omega) (by decide)).mp q)), g2 (by omega)]
          exact ⟨_, rfl, rfl⟩
        · rw [if_pos (show nI (kd a j) = (3 : Int32) from by rw [e]; rfl), g3 e]
          exact ⟨_, rfl, rfl⟩
      · rw [if_neg (show ¬ nI 2 = (0 : Int32) by decide), if_neg (show ¬ nI 2 = (1 : Int32) by decide), if_pos (show nI 2 = (2 : Int32) from rfl), show f_X6_fact z (nI j) (nI 2) = _ from f2, ob1_r rfl, g4]
        have := lowest_ok k3 w4 (by rw [k4' _ w4, decide_eq_true rfl]; rfl) (fun i hi => by
          rw [k4' i (by omega), decide_eq_false (by omega), Bool.false_or]
          rcases Nat.decEq (kd a j) 0 with e | e
          · have := w5 e
            rw [decide_eq_false (show ¬ i = cb a j by omega), decide_eq_false (show ¬ i = cc a j by omega), Bool.or_false, Bool.and_false]
          · rw [decide_eq_false (show ¬ (kd a j ≠ 0) by omega), Bool.false_and])
        rw [ob1_r this.1]
        exact ⟨_, rfl, rfl⟩
      · rw [if_neg (show ¬ nI 3 = (0 : Int32) by decide), if_neg (show ¬ nI 3 = (1 : Int32) by decide), if_neg (show ¬ nI 3 = (2 : Int32) by decide), if_pos (show nI 3 = (3 : Int32) from rfl), show f_X6_fact z (nI j) (nI 3) = _ from f3, ob1_r rfl]
        rcases Nat.decEq (kd a j) 0 with e | e
        · have w6 := w5 e
          rw [if_neg (show ¬ nI (kd a j) = (0 : Int32) from fun q => e ((i_eq (b := 0) (by omega) (by decide)).mp q)), (g6 e).1]
          obtain ⟨m1, m2, _, m4, m5⟩ := kind5 (k := 1) (by decide)
          rw [ob1_r (show f_X5_cardsOfKind 1 = some m1 from m2)]
          have := lowest_ok (x := cs j &&& m1) (c := cb a j) (m18_and k3) (by omega) (by rw [b_and, k4' _ (by omega), m5 _ (by omega), decide_eq_true (show cb a j / 6 = 1 by omega), decide_eq_true e, decide_eq_true (show cb a j = cb a j from rfl)]; simp) (fun i hi => by
            rw [b_and, k4' i (by omega), m5 i (by omega)]
            rcases Nat.decEq (i / 6) 1 with u | u
            · rw [decide_eq_false u, Bool.and_false]
            · rw [decide_eq_false (show ¬ i = ca a j by omega), decide_eq_false (show ¬ i = cb a j by omega), decide_eq_false (show ¬ i = cc a j by omega), Bool.false_or, Bool.or_false, Bool.and_false, Bool.false_and])
          rw [ob1_r this.1]
          exact ⟨_, rfl, rfl⟩
        · rw [if_pos (show nI (kd a j) = (0 : Int32) from by rw [e]; rfl), (g5 e).1]
          exact ⟨_, rfl, rfl⟩
      · rw [if_neg (show ¬ nI 4 = (0 : Int32) by decide), if_neg (show ¬ nI 4 = (1 : Int32) by decide), if_neg (show ¬ nI 4 = (2 : Int32) by decide), if_neg (show ¬ nI 4 = (3 : Int32) by decide), if_pos (show nI 4 = (4 : Int32) from rfl), show f_X6_fact z (nI j) (nI 4) = _ from f4, ob1_r rfl]
        rcases Nat.decEq (kd a j) 0 with e | e
        · have w6 := w5 e
          rw [if_neg (show ¬ nI (kd a j) = (0 : Int32) from fun q => e ((i_eq (b := 0) (by omega) (by decide)).mp q)), (g6 e).2]
          obtain ⟨m1, m2, _, m4, m5⟩ := kind5 (k := 2) (by decide)
          rw [ob1_r (show f_X5_cardsOfKind 2 = some m1 from m2)]
          have := lowest_ok (x := cs j &&& m1) (c := cc a j) (m18_and k3) (by omega) (by rw [b_and, k4' _ (by omega), m5 _ (by omega), decide_eq_true (show cc a j / 6 = 2 by omega), decide_eq_true e, decide_eq_true (show cc a j = cc a j from rfl)]; simp) (fun i hi => by
            rw [b_and, k4' i (by omega), m5 i (by omega)]
            rcases Nat.decEq (i / 6) 2 with u | u
            · rw [decide_eq_false u, Bool.and_false]
            · rw [decide_eq_false (show ¬ i = ca a j by omega), decide_eq_false (show ¬ i = cb a j by omega), decide_eq_false (show ¬ i = cc a j by omega), Bool.false_or, Bool.or_false, Bool.and_false, Bool.false_and])
          rw [ob1_r this.1]
          exact ⟨_, rfl, rfl⟩
        · rw [if_pos (show nI (kd a j) = (0 : Int32) from by rw [e]; rfl), (g5 e).2]
          exact ⟨_, rfl, rfl⟩
    · rw [ob1_r (show f_X6_in v2 0 4 = some 0 from in_n (m := 4) (by decide) hv), if_pos rfl, if_neg (show ¬ v2 = 0 from out_ne hv (k := 0) (by decide) (by decide)), if_neg (show ¬ v2 = 1 from out_ne hv (k := 1) (by decide) (by decide)), if_neg (show ¬ v2 = 2 from out_ne hv (k := 2) (by decide) (by decide)), if_neg (show ¬ v2 = 3 from out_ne hv (k := 3) (by decide) (by decide)), if_neg (show ¬ v2 = 4 from out_ne hv (k := 4) (by decide) (by decide))]
      exact ⟨_, rfl, rfl⟩
  · have ef : ∀ {α : Type} (x y : α), (if v1 < (0 : Int32) then x else if v1 < nI (sn a) then y else x) = x := fun x y => by
      rcases h with h | ⟨h, h2⟩
      · rw [if_pos h]
      · rw [if_neg h, if_neg (fun q => by rw [Int32.lt_iff_toInt_lt] at q; rw [Int32.le_iff_toInt_le] at h2; omega)]
    have ec : (if v1 < (0 : Int32) then some (0 : Int32) else if to ≤ v1 then some 0 else some 1) = some 0 := by
      rcases h with h | ⟨h, h2⟩
      · rw [if_pos h]
      · rw [if_neg h, if_pos (show to ≤ v1 from by rw [hf.2.1]; exact h2)]
    rw [ef, ec, ob1_r rfl, if_pos rfl]
    exact ⟨_, rfl, rfl⟩
noncomputable def um (a : Sh) (Y N : Mk) : Nat → Nat
  | 0 => 0
  | k + 1 => um a Y N k + ifp (own a k) (fb_ct (fun c => !(Y k c || N k c)) 18) 0
noncomputable def kf (Y : Mk) : Nat → Nat
  | 0 => 0
  | k + 1 => kf Y k + ifp (∃ c, c < 18 ∧ c / 6 = k ∧ Y 5 c = true) 1 0
theorem um_class (H : FR a pl to ks os cs z) {Y N : Mk} {y n : Nat → Int32} (my : MB Y y) (mn : MB N n) : f_X5_withoutMark pl y n = some (nI (um a Y N 6)) := by
  obtain ⟨hw, h40, hf, hz⟩ := H
  unfold f_X5_withoutMark
  obtain ⟨r, e, rfl⟩ := loop (S := Int32 × Int32) (F := fun f s => lo2 (f_X5_withoutMark_L4 pl y n) f s.1 s.2) (B := fun rec s => f_X5_withoutMark_L4 pl y n (fun x y => rec (x, y)) s.1 s.2) (fun _ _ => rfl) (fun k s => s = (nI (um a Y N k), nI k)) (fun r => r = nI (um a Y N 6)) 6 (by
    rintro k s hk rfl rec
    (try dsimp only)
    rw [f_X5_withoutMark_L4, if_neg (show ¬ (6 : Int32) ≤ nI k from nle (a := 6) (by decide) (by omega) hk), nI_1, hf.1]
    rcases Classical.em (own a k) with w | w
    · unfold f_X2_without
      rw [ob1_r (hasOw_y hw w), if_neg one_ne, ob1_r (of_ok hk), ob1_r (of_ok hk), ob1_r rfl]
      have h18 : M18 (((262143 : Int32) &&& (y k ^^^ (-1 : Int32))) &&& (n k ^^^ (-1 : Int32))) := m18_and (m18_and m18_all)
      have hc : cnt (((262143 : Int32) &&& (y k ^^^ (-1 : Int32))) &&& (n k ^^^ (-1 : Int32))) = fb_ct (fun c => !(Y k c || N k c)) 18 := fb_ct_cong fun c hc => by
        rw [b_and, b_and, b_not _ (by omega), b_not _ (by omega), b_all c hc, (my k hk).2 c hc, (mn k hk).2 c hc]
        cases Y k c <;> cases N k c <;> rfl
      rw [ob1_r (count_18 h18), hc, lt_r, nI_add]
      refine Or.inr ⟨(nI (um a Y N (k + 1)), nI (k + 1)), ?_, rfl⟩
      show rec _ = rec (nI (um a Y N k + ifp (own a k) _ 0), _)
      rw [ifp_t w]
    · rw [ob1_r (hasOw_n hw (by omega) w), if_pos rfl]
      refine Or.inr ⟨(nI (um a Y N (k + 1)), nI (k + 1)), ?_, rfl⟩
      show rec _ = rec (nI (um a Y N k + ifp (own a k) _ 0), _)
      rw [ifp_f w]
      rfl) (by
    rintro s rfl rec
    (try dsimp only)
    rw [f_X5_withoutMark_L4, if_pos (show (6 : Int32) ≤ nI 6 from by decide)]
    exact ⟨_, rfl, rfl⟩) 6 0 FU (0, 0) rfl (by decide) rfl
  exact e
theorem um_ref (H : FR a pl to ks os cs z) {Y N : Mk} {y n : Nat → Int32} (my : MB Y y) (mn : MB N n) : f_X6_unmarked z y n = some (nI (um a Y N 6)) := by
  obtain ⟨hw, h40, hf, hz⟩ := H
  unfold f_X6_unmarked
  obtain ⟨r, e, rfl⟩ := loop (S := Int32 × Int32) (F := fun f s => lo2 (f_X6_unmarked_L4 z y n) f s.1 s.2) (B := fun rec s => f_X6_unmarked_L4 z y n (fun x y => rec (x, y)) s.1 s.2) (fun _ _ => rfl) (fun k s => s = (nI (um a Y N k), nI k)) (fun r => r = nI (um a Y N 6)) 6 (by
    rintro k s hk rfl rec
    (try dsimp only)
    rw [f_X6_unmarked_L4, if_neg (show ¬ (6 : Int32) ≤ nI k from nle (a := 6) (by decide) (by omega) hk), nI_1]
    rcases Classical.em (own a k) with w | w
    · have g6 : ∀ {α : Type} {k' : Option α}, gd (nI k) 6 k' = k' := gd_r (vp_in_nI (n := k) hk (by decide))
      have hc : cnt (y k ||| n k) = fb_ct (fun c => Y k c || N k c) 18 := fb_ct_cong fun c hc => by rw [b_or, (my k hk).2 c hc, (mn k hk).2 c hc]
      have hnot := fb_ct_not (fun c => Y k c || N k c) 18
      have hle := fb_ct_le (fun c => Y k c || N k c) 18
      rw [ob1_r (isOw_y hz hw w), if_neg one_ne, g6, g6, i_cl (by omega), ob1_r (bits_18 (m18_or (my k hk).1 (mn k hk).1)), hc, lt_r, show (18 : Int32) - nI (fb_ct (fun c => Y k c || N k c) 18) = nI (18 - fb_ct (fun c => Y k c || N k c) 18) from pk_sub (a := 18) hle, nI_add]
      refine Or.inr ⟨(nI (um a Y N (k + 1)), nI (k + 1)), ?_, rfl⟩
      show rec _ = rec (nI (um a Y N k + ifp (own a k) _ 0), _)
      rw [ifp_t w, show 18 - fb_ct (fun c => Y k c || N k c) 18 = fb_ct (fun c => !(Y k c || N k c)) 18 by omega]
    · rw [ob1_r (isOw_n hz hw (by omega) w), if_pos rfl, lt_r]
      refine Or.inr ⟨(nI (um a Y N (k + 1)), nI (k + 1)), ?_, rfl⟩
      show rec _ = rec (nI (um a Y N k + ifp (own a k) _ 0), _)
      rw [ifp_f w, show nI (um a Y N k) + (0 : Int32) = nI (um a Y N k + 0) from nI_add _ 0]) (by
    rintro s rfl rec
    (try dsimp only)
    rw [f_X6_unmarked_L4, if_pos (show (6 : Int32) ≤ nI 6 from by decide)]
    exact ⟨_, rfl, rfl⟩) 6 0 FU (0, 0) rfl (by decide) rfl
  exact e
theorem kf_z {Y : Mk} {y : Nat → Int32} (my : MB Y y) {k : Nat} {q : Int32} (h5 : ∀ i, i < 32 → bt q i = decide (i / 6 = k)) : y 5 &&& q = 0 ↔ ¬ ∃ c, c < 18 ∧ c / 6 = k ∧ Y 5 c = true := by
  rw [m18_z (m18_and (my 5 (by decide)).1)]
  constructor
  · rintro h ⟨c, hc, h1, h2⟩
    have := h c hc
    rw [b_and, (my 5 (by decide)).2 c hc, h5 c (by omega), h2, decide_eq_true h1] at this
    exact Bool.noConfusion this
  · intro h c hc
    rw [b_and, (my 5 (by decide)).2 c hc, h5 c (by omega)]
    cases e : Y 5 c
    · rfl
    · rw [decide_eq_false (fun q => h ⟨c, hc, q, e⟩)]
      rfl
theorem kf_class {Y : Mk} {y : Nat → Int32} (my : MB Y y) : f_X5_kindsFound y = some (nI (kf Y 3)) := by
  unfold f_X5_kindsFound
  obtain ⟨r, e, rfl⟩ := loop (S := Int32 × Int32) (F := fun f s => lo2 (f_X5_kindsFound_L4 y) f s.1 s.2) (B := fun rec s => f_X5_kindsFound_L4 y (fun x y => rec (x, y)) s.1 s.2) (fun _ _ => rfl) (fun k s => s = (nI (kf Y k), nI k)) (fun r => r = nI (kf Y 3)) 3 (by
    rintro k s hk rfl rec
    (try dsimp only)
    obtain ⟨q, h1, h2, _, h5⟩ := kind5 hk
    rw [f_X5_kindsFound_L4, if_neg (show ¬ (3 : Int32) ≤ nI k from nle (a := 3) (by decide) (by omega) hk), nI_1, ob1_r (of5 y), ob1_r h1]
    refine Or.inr ⟨(nI (kf Y (k + 1)), nI (k + 1)), ?_, rfl⟩
    show _ = rec (nI (kf Y k + ifp (∃ c, c < 18 ∧ c / 6 = k ∧ Y 5 c = true) 1 0), _)
    rcases Decidable.em (y 5 &&& q = 0) with u | u
    · rw [if_pos u, ifp_f ((kf_z my h5).mp u)]
      rfl
    · rw [if_neg u, ifp_t (Classical.byContradiction fun w => u ((kf_z my h5).mpr w)), lt_r, nI_1]) (by
    rintro s rfl rec
    (try dsimp only)
    rw [f_X5_kindsFound_L4, if_pos (show (3 : Int32) ≤ nI 3 from by decide)]
    exact ⟨_, rfl, rfl⟩) 3 0 FU (0, 0) rfl (by decide) rfl
  exact e
theorem kf_ref {Y : Mk} {y : Nat → Int32} (my : MB Y y) : f_X6_kindsFound y = some (nI (kf Y 3)) := by
  unfold f_X6_kindsFound
  obtain ⟨r, e, rfl⟩ := loop (S := Int32 × Int32) (F := fun f s => lo2 (f_X6_kindsFound_L4 y) f s.1 s.2) (B := fun rec s => f_X6_kindsFound_L4 y (fun x y => rec (x, y)) s.1 s.2) (fun _ _ => rfl) (fun k s => s = (nI (kf Y k), nI k)) (fun r => r = nI (kf Y 3)) 3 (by
    rintro k s hk rfl rec
    (try dsimp only)
    obtain ⟨q, h1, h2, _, h5⟩ := kind5 hk
    rw [f_X6_kindsFound_L4, if_neg (show ¬ (3 : Int32) ≤ nI k from nle (a := 3) (by decide) (by omega) hk), nI_1, gd_r (show vp_in (5 : Int32) 6 from vp_in_nI (n := 5) (by decide) (by decide)), show (5 : Int32).toNatClampNeg = 5 from rfl, ob1_r h2]
    refine Or.inr ⟨(nI (kf Y (k + 1)), nI (k + 1)), ?_, rfl⟩
    show _ = rec (nI (kf Y k + ifp (∃ c, c < 18 ∧ c / 6 = k ∧ Y 5 c = true) 1 0), _)
    rcases Decidable.em (y 5 &&& q = 0) with u | u
    · rw [if_pos u, ifp_f ((kf_z my h5).mp u), lt_r, show nI (kf Y k) + (0 : Int32) = nI (kf Y k + 0) from nI_add _ 0]
    · rw [if_neg u, ifp_t (Classical.byContradiction fun w => u ((kf_z my h5).mpr w)), lt_r, nI_1]) (by
    rintro s rfl rec
    (try dsimp only)
    rw [f_X6_kindsFound_L4, if_pos (show (3 : Int32) ≤ nI 3 from by decide)]
    exact ⟨_, rfl, rfl⟩) 3 0 FU (0, 0) rfl (by decide) rfl
  exact e
theorem count_ok (H : CHG a m L pl to ks os cs ys cy oy ns cn on rd len st z past pm) {tl ty : Int32} (ht : tl = ty) (b1 b2 b3 b4 b5 b6 b7 b8 : Nat → Int32) (b9 b10 : Int32) (v1 : Int32) :
    ∃ r d1 d2 d3 d4 d5 d6 d7 d8 d9 d10, f_X5_count pl to ks os cs ys ns rd len tl v1 = some r ∧ f_X6_count z pm ty b1 b2 b3 b4 b5 b6 b7 b8 b9 b10 v1 = some (r, d1, d2, d3, d4, d5, d6, d7, d8, d9, d10) := by
  obtain ⟨hFR, hm, hh⟩ := H
  have hFR0 := hFR
  obtain ⟨hw, h40, hf, hz⟩ := hFR
  subst ht
  obtain ⟨y, n, yt, nt, yR, yL, nR, nL, r', q', l1, l2⟩ := lay_ok hw hz b1 b2 b3 b4 b5 b6 b7 b8 b9 b10
  obtain ⟨my, mn, _, _⟩ := hm.y
  obtain ⟨ly, ln⟩ := l2.y
  obtain ⟨rb, e1, q1⟩ := areBroken_ok hw hf my mn
  obtain ⟨rb', e2, q2⟩ := isBroken_ok hw hz ly ln
  have eb : rb = rb' := q1.same q2
  have er : r' = rd := by obtain ⟨k, _, _, h⟩ := hm; rw [h]; exact l2.2.2
  unfold f_X5_count f_X6_count
  rw [ob10_r l1, ob1_r (total_ok my), ob1_r (total_ok mn), ob1_r (um_class hFR0 my mn), ob1_r e1, ob1_r (kf_class my), ob1_r (yesMany_ok ly), ob1_r (noMany_ok ln), ob1_r (um_ref hFR0 ly ln), ob1_r e2, ob1_r (kf_ref ly), er, eb, hh.1, hh.2.1]
  rcases Decidable.em (v1 = 0) with u | u
  · subst u
    rw [if_pos rfl, if_pos rfl, gd0 (by decide), cl0, hf.1, hz.1]
    exact ⟨_, _, _, _, _, _, _, _, _, _, _, rfl, rfl⟩
  rw [if_neg u, if_neg u]
  rcases Decidable.em (v1 = 1) with u | u
  · subst u
    rw [if_pos rfl, if_pos rfl, gd1 (by decide), cl1, hf.2.1, hz.2.1]
    exact ⟨_, _, _, _, _, _, _, _, _, _, _, rfl, rfl⟩
  rw [if_neg u, if_neg u]
  rcases Decidable.em (v1 = 2) with u | u
  · rw [if_pos u, if_pos u]
    exact ⟨_, _, _, _, _, _, _, _, _, _, _, rfl, rfl⟩
  rw [if_neg u, if_neg u]
  rcases Decidable.em (v1 = 3) with u | u
  · rw [if_pos u, if_pos u]
    exact ⟨_, _, _, _, _, _, _, _, _, _, _, rfl, rfl⟩
  rw [if_neg u, if_neg u]
  rcases Decidable.em (v1 = 4) with u | u
  · rw [if_pos u, if_pos u]
    exact ⟨_, _, _, _, _, _, _, _, _, _, _, rfl, rfl⟩
  rw [if_neg u, if_neg u]
  rcases Decidable.em (v1 = 5) with u | u
  · rw [if_pos u, if_pos u]
    exact ⟨_, _, _, _, _, _, _, _, _, _, _, rfl, rfl⟩
  rw [if_neg u, if_neg u]
  rcases Decidable.em (v1 = 6) with u | u
  · rw [if_pos u, if_pos u]
    rcases q2 with ⟨rfl, _⟩ | ⟨rfl, _⟩
    · exact ⟨_, _, _, _, _, _, _, _, _, _, _, rfl, rfl⟩
    · exact ⟨_, _, _, _, _, _, _, _, _, _, _, rfl, rfl⟩
  rw [if_neg u, if_neg u]
  rcases Decidable.em (v1 = 7) with u | u
  · rw [if_pos u, if_pos u]
    exact ⟨_, _, _, _, _, _, _, _, _, _, _, rfl, rfl⟩
  rw [if_neg u, if_neg u]
  rcases Decidable.em (v1 = 8) with u | u
  · rw [if_pos u, if_pos u]
    exact ⟨_, _, _, _, _, _, _, _, _, _, _, rfl, rfl⟩
  rw [if_neg u, if_neg u]
  rcases Decidable.em (v1 = 9) with u | u
  · rw [if_pos u, if_pos u]
    exact ⟨_, _, _, _, _, _, _, _, _, _, _, rfl, rfl⟩
  rw [if_neg u, if_neg u]
  exact ⟨_, _, _, _, _, _, _, _, _, _, _, rfl, rfl⟩
theorem envelope_ok (H : CHG a m L pl to ks os cs ys cy oy ns cn on rd len st z past pm) (b1 b2 b3 b4 b5 b6 b7 b8 : Nat → Int32) (b9 b10 : Int32) (v1 v2 : Int32) :
    ∃ r d1 d2 d3 d4 d5 d6 d7 d8 d9 d10, f_X5_envelope ys ns v1 v2 = some r ∧ f_X6_envelope z b1 b2 b3 b4 b5 b6 b7 b8 b9 b10 v1 v2 = some (r, d1, d2, d3, d4, d5, d6, d7, d8, d9, d10) := by
  obtain ⟨hFR, hm, hh⟩ := H
  obtain ⟨hw, h40, hf, hz⟩ := hFR
  unfold f_X5_envelope f_X6_envelope
  rcases lim (x := v1) 3 (by decide) with ⟨k, hk, rfl⟩ | h
  · rw [if_neg (nI_pos (by omega)), if_pos (show nI k < (3 : Int32) from nI_lt (b := 3) hk (by decide)), ob1_r (show f_X6_in (nI k) 0 2 = some 1 from in_y (m := 2) (by decide) (by omega)), if_neg one_ne]
    obtain ⟨y, n, yt, nt, yR, yL, nR, nL, r', q', l1, l2⟩ := lay_ok hw hz b1 b2 b3 b4 b5 b6 b7 b8 b9 b10
    obtain ⟨my, mn, _, _⟩ := hm.y
    obtain ⟨ly, ln⟩ := l2.y
    have ey : ys 5 = y 5 := mb_eq my ly (by decide)
    have en : ns 5 = n 5 := mb_eq mn ln (by decide)
    obtain ⟨q, h1, h2, h3, h5⟩ := kind5 hk
    have g5 : ∀ {α : Type} {k' : Option α}, gd (5 : Int32) 6 k' = k' := gd_r (show vp_in (5 : Int32) 6 from vp_in_nI (n := 5) (by decide) (by decide))
    rw [ob10_r l1, ob1_r (of5 ys), ob1_r h1, ob1_r h1, ob1_r (of5 ns), g5, show (5 : Int32).toNatClampNeg = 5 from rfl, ob1_r h2, lt_r, ob1_r h2, g5, ey, en]
    rcases lim (x := v2) 2 (by decide) with ⟨s, hs, rfl⟩ | h
    · rw [ob1_r (show f_X6_in (nI s) 0 1 = some 1 from in_y (m := 1) (by decide) (by omega)), if_neg one_ne]
      rcases (show s = 0 ∨ s = 1 by omega) with rfl | rfl
      · rw [if_pos (show nI 0 = (0 : Int32) from rfl), if_neg (show ¬ nI 0 = (1 : Int32) by decide)]
        rcases lowest_or (x := y 5 &&& q) (m18_and (ly 5 (by decide)).1) with u | ⟨c, hc, u1, u2⟩
        · rw [if_pos u, f_X5_lowestOf, if_pos u, ob1_r rfl]
          exact ⟨_, _, _, _, _, _, _, _, _, _, _, rfl, rfl⟩
        · have hlo := lowest_ok (x := y 5 &&& q) (m18_and (ly 5 (by decide)).1) hc u1 u2
          rw [if_neg ((m18_nz (m18_and (ly 5 (by decide)).1)).mpr ⟨c, hc, u1⟩), ob1_r hlo.1, ob1_r hlo.2]
          exact ⟨_, _, _, _, _, _, _, _, _, _, _, rfl, rfl⟩
      · rw [if_neg (show ¬ nI 1 = (0 : Int32) by decide), if_pos (show nI 1 = (1 : Int32) from rfl), if_pos (show nI 1 = (1 : Int32) from rfl)]
        exact ⟨_, _, _, _, _, _, _, _, _, _, _, rfl, rfl⟩
    · rw [ob1_r (show f_X6_in v2 0 1 = some 0 from in_n (m := 1) (by decide) h), if_pos rfl, if_neg (show ¬ v2 = 0 from out_ne h (k := 0) (by decide) (by decide)), if_neg (show ¬ v2 = 1 from out_ne h (k := 1) (by decide) (by decide))]
      exact ⟨_, _, _, _, _, _, _, _, _, _, _, rfl, rfl⟩
  · rw [ob1_r (show f_X6_in v1 0 2 = some 0 from in_n (m := 2) (by decide) h), if_pos rfl]
    have ef : ∀ {α : Type} (x y : α), (if v1 < (0 : Int32) then x else if v1 < 3 then y else x) = x := fun x y => by
      rcases h with h | ⟨h, h2⟩
      · rw [if_pos h]
      · rw [if_neg h, if_neg (fun q => by rw [Int32.lt_iff_toInt_lt] at q; rw [Int32.le_iff_toInt_le] at h2; rw [show (nI 3).toInt = (3 : Int32).toInt from rfl] at h2; omega)]
    rw [ef]
    exact ⟨_, _, _, _, _, _, _, _, _, _, _, rfl, rfl⟩
end
