/-! ===== ofFact, count, envelope ===== -/
theorem low_bit {x : Int32} (hx : M18 x) {c : Nat} (hc : c < 18) (h1 : bt x c = true) (h2 : ∀ i, i < c → bt x i = false) : x &&& (-x) = (1 : Int32) <<< (nI c &&& 31) := by
  refine b_ext fun i hi => ?_
  rw [b_and, b_one' c hc]
  have hn : bt (-x) i = (bt x i ^^ decide (∃ j, j < i ∧ bt x j = true)) := by
    unfold bt
    rw [show (-x).toBitVec = -x.toBitVec from rfl, BitVec.getLsbD_neg]
    rw [decide_eq_true hi, Bool.true_and]
  rw [hn]
  rcases Nat.lt_trichotomy i c with u | u | u
  · rw [h2 i u, Bool.false_and, decide_eq_false (by omega)]
  · subst u
    rw [h1, decide_eq_false (show ¬ ∃ j, j < i ∧ bt x j = true from fun ⟨j, hj, q⟩ => by rw [h2 j hj] at q; exact Bool.noConfusion q), decide_eq_true rfl]
    rfl
  · rw [decide_eq_true (show ∃ j, j < i ∧ bt x j = true from ⟨c, u, h1⟩), decide_eq_false (show ¬ i = c by omega)]
    cases bt x i <;> rfl
theorem m1_bits : ∀ c, c < 18 → ∀ i, i < 32 → bt (((1 : Int32) <<< (nI c &&& 31)) - 1) i = decide (i < c) := by decide +kernel
theorem m1_18 {c : Nat} (hc : c < 18) : M18 (((1 : Int32) <<< (nI c &&& 31)) - 1) := m18_dec fun i hi h => by rw [m1_bits c hc i hi]; exact decide_eq_false (by omega)
theorem ct_under (c : Nat) : ∀ n, fb_ct (fun i => decide (i < c)) n = min c n
  | 0 => by rw [Nat.min_zero]; rfl
  | n + 1 => by
    rw [fb_ct_succ, ct_under c n]
    rcases Nat.lt_or_ge n c with u | u
    · rw [decide_eq_true u, if_pos rfl]; omega
    · rw [decide_eq_false (by omega), if_neg (by decide)]; omega
theorem m1_cnt {c : Nat} (hc : c < 18) : cnt (((1 : Int32) <<< (nI c &&& 31)) - 1) = c := by
  unfold cnt
  rw [fb_ct_cong (q := fun i => decide (i < c)) (fun i hi => m1_bits c hc i (by omega)), ct_under]
  omega
theorem lowest_ok {x : Int32} (hx : M18 x) {c : Nat} (hc : c < 18) (h1 : bt x c = true) (h2 : ∀ i, i < c → bt x i = false) : f_X5_lowestOf x = some (nI c) ∧ True := by
  have hne : ¬ x = 0 := (m18_nz hx).mpr ⟨c, hc, h1⟩
  unfold f_X5_lowestOf
  rw [if_neg hne, low_bit hx hc h1 h2, ob1_r (count_18 (m1_18 hc)), m1_cnt hc]
  exact ⟨rfl, trivial⟩
theorem lowest_or {x : Int32} (hx : M18 x) : x = 0 ∨ ∃ c, c < 18 ∧ bt x c = true ∧ ∀ i, i < c → bt x i = false := by
  rcases Decidable.em (x = 0) with h | h
  · exact Or.inl h
  · obtain ⟨c, hc, q⟩ := (m18_nz hx).mp h
    obtain ⟨k, h1, h2⟩ := pk_least (fun i => bt x i = true) ⟨c, q⟩
    refine Or.inr ⟨k, ?_, h1, fun i hi => by cases e : bt x i; rfl; exact absurd e (h2 i hi)⟩
    apply Nat.lt_of_not_le
    intro hle
    rw [hx k hle] at h1
    exact Bool.noConfusion h1
theorem kind5 {k : Nat} (hk : k < 3) : ∃ m, f_X5_cardsOfKind (nI k) = some m ∧ True ∧ M18 m ∧ ∀ i, i < 32 → bt m i = decide (i / 6 = k) := by
  have e : ((63 : Int32) <<< ((nI k * (6 : Int32)) &&& 31)) = ((63 : Int32) <<< (((6 : Int32) * nI k) &&& 31)) := b_ext fun i hi => by rw [b_kind k hk i hi, b_kind2 k hk i hi]
  unfold f_X5_cardsOfKind
  rw [e]
  exact ⟨_, rfl, trivial, m18_kind hk, fun i hi => b_kind2 k hk i hi⟩
section
variable {a : Sh} {m : Nat} {L : Nat → Sh} {pl to : Int32} {ks os cs ys cy oy ns cn on : Nat → Int32} {rd len : Int32} {st : Nat → StT} {z past : Nat → Int32} {pm : Int32}
theorem of5 (t : Nat → Int32) : f_X4_of t 5 = some (t 5) := of_ok (o := 5) (by decide)
noncomputable def um (a : Sh) (Y N : Mk) : Nat → Nat
  | 0 => 0
  | k + 1 => um a Y N k + ifp (own a k) (fb_ct (fun c => !(Y k c || N k c)) 18) 0
noncomputable def kf (Y : Mk) : Nat → Nat
  | 0 => 0
  | k + 1 => kf Y k + ifp (∃ c, c < 18 ∧ c / 6 = k ∧ Y 5 c = true) 1 0
theorem um_class (hw : WF a) (hf : RF pl to ks os cs a) {Y N : Mk} {y n : Nat → Int32} (my : MB Y y) (mn : MB N n) : f_X5_withoutMark pl y n = some (nI (um a Y N 6)) := by
  unfold f_X5_withoutMark
  obtain ⟨r, e, rfl⟩ := loop (S := Int32 × Int32) (F := fun f s => lo2 (f_X5_withoutMark_L4 pl y n) f s.1 s.2) (B := fun rec s => f_X5_withoutMark_L4 pl y n (fun x y => rec (x, y)) s.1 s.2) (fun _ _ => rfl) (fun k s => s = (nI (um a Y N k), nI k)) (fun r => r = nI (um a Y N 6)) 6 (by
    rintro k s hk rfl rec
    (try dsimp only)
    rw [f_X5_withoutMark_L4, if_neg (show ¬ (6 : Int32) ≤ nI k from nle (a := 6) (by decide) (by omega) hk), nI_1, hf.1]
    rcases Classical.em (own a k) with w | w
    · unfold f_X2_without
      rw [ob1_r (hasOw_y hw w), if_neg one_ne, ob1_r (of_ok hk), ob1_r (of_ok hk), ob1_r rfl]
      have h18 : M18 (((262143 : Int32) &&& (y k ^^^ (-1 : Int32))) &&& (n k ^^^ (-1 : Int32))) := m18_and (m18_and m18_all)
      have hc : cnt (((262143 : Int32) &&& (y k ^^^ (-1 : Int32))) &&& (n k ^^^ (-1 : Int32))) = fb_ct (fun c => !(Y k c || N k c)) 18 := fb_ct_cong fun c hc => by
        rw [b_and, b_and, b_not _ (by omega), b_not _ (by omega), b_all c hc, (my k hk).2 c hc, (mn k hk).2 c hc]
        cases Y k c <;> cases N k c <;> rfl
      rw [ob1_r (count_18 h18), hc, lt_r, nI_add]
      refine Or.inr ⟨(nI (um a Y N (k + 1)), nI (k + 1)), ?_, rfl⟩
      show rec _ = rec (nI (um a Y N k + ifp (own a k) _ 0), _)
      rw [ifp_t w]
    · rw [ob1_r (hasOw_n hw (by omega) w), if_pos rfl]
      refine Or.inr ⟨(nI (um a Y N (k + 1)), nI (k + 1)), ?_, rfl⟩
      show rec _ = rec (nI (um a Y N k + ifp (own a k) _ 0), _)
      rw [ifp_f w]
      rfl) (by
    rintro s rfl rec
    (try dsimp only)
    rw [f_X5_withoutMark_L4, if_pos (show (6 : Int32) ≤ nI 6 from by decide)]
    exact ⟨_, rfl, rfl⟩) 6 0 FU (0, 0) rfl (by decide) rfl
  exact e
theorem kf_z {Y : Mk} {y : Nat → Int32} (my : MB Y y) {k : Nat} {q : Int32} (h5 : ∀ i, i < 32 → bt q i = decide (i / 6 = k)) : y 5 &&& q = 0 ↔ ¬ ∃ c, c < 18 ∧ c / 6 = k ∧ Y 5 c = true := by
  rw [m18_z (m18_and (my 5 (by decide)).1)]
  constructor
  · rintro h ⟨c, hc, h1, h2⟩
    have := h c hc
    rw [b_and, (my 5 (by decide)).2 c hc, h5 c (by omega), h2, decide_eq_true h1] at this
    exact Bool.noConfusion this
  · intro h c hc
    rw [b_and, (my 5 (by decide)).2 c hc, h5 c (by omega)]
    cases e : Y 5 c
    · rfl
    · rw [decide_eq_false (fun q => h ⟨c, hc, q, e⟩)]
      rfl
theorem kf_class {Y : Mk} {y : Nat → Int32} (my : MB Y y) : f_X5_kindsFound y = some (nI (kf Y 3)) := by
  unfold f_X5_kindsFound
  obtain ⟨r, e, rfl⟩ := loop (S := Int32 × Int32) (F := fun f s => lo2 (f_X5_kindsFound_L4 y) f s.1 s.2) (B := fun rec s => f_X5_kindsFound_L4 y (fun x y => rec (x, y)) s.1 s.2) (fun _ _ => rfl) (fun k s => s = (nI (kf Y k), nI k)) (fun r => r = nI (kf Y 3)) 3 (by
    rintro k s hk rfl rec
    (try dsimp only)
    obtain ⟨q, h1, h2, _, h5⟩ := kind5 hk
    rw [f_X5_kindsFound_L4, if_neg (show ¬ (3 : Int32) ≤ nI k from nle (a := 3) (by decide) (by omega) hk), nI_1, ob1_r (of5 y), ob1_r h1]
    refine Or.inr ⟨(nI (kf Y (k + 1)), nI (k + 1)), ?_, rfl⟩
    show _ = rec (nI (kf Y k + ifp (∃ c, c < 18 ∧ c / 6 = k ∧ Y 5 c = true) 1 0), _)
    rcases Decidable.em (y 5 &&& q = 0) with u | u
    · rw [if_pos u, ifp_f ((kf_z my h5).mp u)]
      rfl
    · rw [if_neg u, ifp_t (Classical.byContradiction fun w => u ((kf_z my h5).mpr w)), lt_r, nI_1]) (by
    rintro s rfl rec
    (try dsimp only)
    rw [f_X5_kindsFound_L4, if_pos (show (3 : Int32) ≤ nI 3 from by decide)]
    exact ⟨_, rfl, rfl⟩) 3 0 FU (0, 0) rfl (by decide) rfl
  exact e
end

