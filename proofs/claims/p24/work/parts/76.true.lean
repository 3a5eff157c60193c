/-! ===== isTrue: every mark is true, the counts go together ===== -/
theorem ct_pos_own {a : Sh} {M : Mk} (h : ∀ o c, o < 6 → c < 18 → M o c = true → own a o) {o : Nat} (ho : o < 6) (w : ¬ own a o) : fb_ct (M o) 18 = 0 := fb_ct_zero.mpr fun c hc => by
  cases e : M o c
  · rfl
  · exact absurd (h o c ho hc e) w
theorem tot_s (M : Mk) (k : Nat) : tot M (k + 1) = tot M k + fb_ct (M k) 18 := rfl
theorem um_s (a : Sh) (Y N : Mk) (k : Nat) : um a Y N (k + 1) = um a Y N k + ifp (own a k) (fb_ct (fun c => !(Y k c || N k c)) 18) 0 := rfl
theorem um_le (a : Sh) (Y N : Mk) : ∀ k, um a Y N k ≤ 18 * k
  | 0 => Nat.le_refl 0
  | k + 1 => by
    have h := um_le a Y N k
    have h2 := fb_ct_le (fun c => !(Y k c || N k c)) 18
    rw [um_s]
    rcases Classical.em (own a k) with w | w
    · rw [ifp_t w]; omega
    · rw [ifp_f w]; omega
section
variable {a : Sh} {δ : Dl} {pl to : Int32} {ks os cs ys cy oy ns cn on : Nat → Int32} {rd len tl : Int32} {d : Nat → Int32}
theorem kf_s (Y : Mk) (k : Nat) : kf Y (k + 1) = kf Y k + ifp (∃ c, c < 18 ∧ c / 6 = k ∧ Y 5 c = true) 1 0 := rfl
/-- the end of the loop over kinds -/
theorem true_end (H : CS a pl to ks os cs ys cy oy ns cn on rd len) (hb : ¬ brk a (FY a) (FN a)) (rec : Int32 → Int32 → Option Int32) : f_L_isTrue_L154 pl to ks os cs ys ns rd len tl d (nI (tot (FY a) 6)) (nI (tot (FN a) 6)) (nI (um a (FY a) (FN a) 6)) rec (nI (kf (FY a) 3)) (nI 3) = some 1 := by
  obtain ⟨_, _, c2, c3, c4, _, c6, c7⟩ := count_c H tl
  rw [f_L_isTrue_L154, if_pos (show (3 : Int32) ≤ nI 3 from by decide), ob1_r c2, if_pos rfl, ob1_r c3, if_pos rfl, ob1_r c4, if_pos rfl, ob1_r (c6 hb), if_pos rfl, ob1_r c7, if_pos rfl]
theorem true_kind (H : CS a pl to ks os cs ys cy oy ns cn on rd len) (hg : GD a δ) (ht : TF a δ) (hd : DR d (sp a) δ) {κ : Nat} (hκ : κ < 3) {v2 v3 v4 : Int32} (rec : Int32 → Int32 → Option Int32) : f_L_isTrue_L154 pl to ks os cs ys ns rd len tl d v2 v3 v4 rec (nI (kf (FY a) κ)) (nI κ) = rec (nI (kf (FY a) (κ + 1))) (nI (κ + 1)) := by
  have hw := H.1
  obtain ⟨⟨can, e1, m1, b1⟩, hit⟩ := envelope_c H hκ
  obtain ⟨hl, e2, m2, b2⟩ := held_ok hd (d6 hw hg) (o := 5) (by decide)
  obtain ⟨x, hx, x1, x2, x3⟩ := env_one hg hκ
  have e2' : f_L_held d 5 = some hl := e2
  have bk : ∀ i, i < 32 → bt ((63 : Int32) <<< (((6 : Int32) * nI κ) &&& 31)) i = decide (i / 6 = κ) := fun i hi => b_kind2 κ hκ i hi
  have mt : M18 (hl &&& ((63 : Int32) <<< (((6 : Int32) * nI κ) &&& 31))) := m18_and m2
  have bt' : ∀ c, c < 18 → bt (hl &&& ((63 : Int32) <<< (((6 : Int32) * nI κ) &&& 31))) c = decide (c = x) := fun c hc => by
    rw [b_and, b2 c hc, bk c (by omega), ← Bool.decide_and]
    exact decide_eq_decide.mpr ⟨fun q => x3 c hc q.2 q.1, fun q => by rw [q]; exact ⟨x2, x1⟩⟩
  have hcan : can &&& (hl &&& ((63 : Int32) <<< (((6 : Int32) * nI κ) &&& 31))) = hl &&& ((63 : Int32) <<< (((6 : Int32) * nI κ) &&& 31)) := m18_ext (m18_and m1) mt fun c hc => by
    rw [b_and can, bt' c hc, b1 c hc]
    rcases Nat.decEq c x with u | u
    · rw [decide_eq_false u, Bool.and_false]
    · subst u
      have : FN a 5 c = false := by
        cases e : FN a 5 c
        · rfl
        · exact absurd x2 (FN_t hw hg ht (by decide) hc e).2
      rw [this, decide_eq_true x1]
      rfl
  have i1 : nI κ + (1 : Int32) = nI (κ + 1) := nI_1 κ
  rw [f_L_isTrue_L154, if_neg (show ¬ (3 : Int32) ≤ nI κ from nle (a := 3) (by decide) (by omega) hκ), ob1_r e1]
  rcases hit with ⟨c, hc, c1, c2, c3⟩ | ⟨c1, c2⟩
  · have ecx : c = x := x3 c hc c1 (FY_t hw hg ht (by decide) hc c2)
    have hone : (1 : Int32) <<< (nI c &&& 31) = hl &&& ((63 : Int32) <<< (((6 : Int32) * nI κ) &&& 31)) := m18_ext (m18_one c hc) mt fun i hi => by
      rw [b_one' c hc, bt' i hi, ecx]
    have hge : ¬ nI c < (0 : Int32) := nI_pos (by omega)
    rw [ob1_r c3, ob1_r e2', lt_r, if_pos hcan, if_neg hge, if_pos hone, f_L_isTrue_J218, ob1_r (size_ok m1)]
    have hk : kf (FY a) κ + 1 = kf (FY a) (κ + 1) := by rw [kf_s, ifp_t ⟨c, hc, c1, c2⟩]
    have key : ∀ t0 : Int32, (t0 = 1 ∨ cnt can ≠ 1) → f_L_isTrue_J232 pl to ks os cs ys ns rd len tl rec (nI (kf (FY a) κ)) (nI κ) can (nI c) t0 = rec (nI (kf (FY a) (κ + 1))) (nI (κ + 1)) := by
      intro t0 h
      rw [f_L_isTrue_J232, if_neg hge, f_L_isTrue_J242, if_neg hge, lt_r, nI_1, nI_1, hk, ob1_r (size_ok m1)]
      rcases Decidable.em (t0 = 1) with u | u
      · rw [if_pos u]
      · rw [if_neg u, if_neg (show ¬ nI (cnt can) = (1 : Int32) from fun q => (h.resolve_left u) ((i_eq (b := 1) (by have := cnt_le can; omega) (by decide)).mp q))]
    rcases Nat.decEq (cnt can) 1 with u | u
    · rw [if_neg (show ¬ nI (cnt can) = (1 : Int32) from fun q => u ((i_eq (b := 1) (by have := cnt_le can; omega) (by decide)).mp q))]
      exact key 0 (Or.inr u)
    · rw [if_pos (show nI (cnt can) = (1 : Int32) from by rw [u]; rfl)]
      exact key 1 (Or.inl rfl)
  · have hlt : (-6 : Int32) < 0 := by decide
    have hk : kf (FY a) κ = kf (FY a) (κ + 1) := by
      have hz : ¬ ∃ c, c < 18 ∧ c / 6 = κ ∧ FY a 5 c = true := by
        rintro ⟨c, hc, h1, h2⟩
        rw [c1 c hc h1] at h2
        exact Bool.noConfusion h2
      rw [kf_s, ifp_f hz]
      exact (Nat.add_zero _).symm
    have hn1 : cnt can ≠ 1 := by
      intro q
      have q1 : fb_ct (fun c => hin 5 κ c && !FN a 5 c) 18 = 1 := by
        rw [← q]
        refine fb_ct_cong fun c hc => ?_
        rw [b1 c hc]
        unfold hin
        rw [if_pos rfl]
      obtain ⟨c, hc, q2, _⟩ := ct_one.mp q1
      rw [Bool.and_eq_true, Bool.not_eq_true'] at q2
      have q3 : c / 6 = κ := by
        have := q2.1
        unfold hin at this
        rw [if_pos rfl, decide_eq_true_eq] at this
        exact this
      refine ((gY_iff 5 c).mpr ⟨c1 c hc q3, Or.inr (Or.inr (Or.inl ⟨Or.inr rfl, κ, hκ, q2.1, ?_, q2.2⟩))⟩) (it_fix a e0 E0 5 c (by decide) hc).1
      show fb_ct (fun c => hin 5 κ c && !FN a 5 c) 18 ≤ hs a 5
      rw [q1]
      exact Nat.le_refl 1
    have hne : ¬ nI (cnt can) = (1 : Int32) := fun q => hn1 ((i_eq (b := 1) (by have := cnt_le can; omega) (by decide)).mp q)
    rw [ob1_r c2, ob1_r e2', lt_r, if_pos hcan, if_pos hlt, f_L_isTrue_J218, ob1_r (size_ok m1), if_neg hne, f_L_isTrue_J232, if_pos hlt, f_L_isTrue_J242, if_pos rfl, if_pos hlt, lt_r, nI_1, show nI (kf (FY a) κ) + (0 : Int32) = nI (kf (FY a) κ + 0) from nI_add _ 0, Nat.add_zero, ← hk]
theorem isTrue_ok (H : CS a pl to ks os cs ys cy oy ns cn on rd len) (hg : GD a δ) (ht : TF a δ) (hd : DR d (sp a) δ) : f_L_isTrue pl to ks os cs ys ns rd len tl d = some 1 := by
  have hw := H.1
  have my := H.2.2.2.1.y.1
  have mn := H.2.2.2.1.y.2.1
  have yown : ∀ o c, o < 6 → c < 18 → FY a o c = true → own a o := fun o c ho hc h => FY_own hw o c ho hc h
  have nown : ∀ o c, o < 6 → c < 18 → FN a o c = true → own a o := fun o c ho hc h => (FN_t hw hg ht ho hc h).1
  unfold f_L_isTrue
  obtain ⟨r, e, rfl⟩ := loop (S := Int32 × Int32 × Int32 × Int32) (F := fun f s => lo4 (f_L_isTrue_L10 pl to ks os cs ys ns rd len tl d) f s.1 s.2.1 s.2.2.1 s.2.2.2) (B := fun rec s => f_L_isTrue_L10 pl to ks os cs ys ns rd len tl d (fun x y z w => rec (x, y, z, w)) s.1 s.2.1 s.2.2.1 s.2.2.2) (fun _ _ => rfl) (fun k s => s = (nI (tot (FY a) k), nI (tot (FN a) k), nI (um a (FY a) (FN a) k), nI k)) (fun r => r = 1) 6 (by
    rintro k s hk rfl rec
    (try dsimp only)
    rw [f_L_isTrue_L10, if_neg (show ¬ (6 : Int32) ≤ nI k from nle (a := 6) (by decide) (by omega) hk), nI_1]
    rcases Classical.em (own a k) with w | w
    · obtain ⟨m, e1, m1, b1⟩ := held_ok hd (d6 hw hg) hk
      obtain ⟨o0, o1, o2, o3⟩ := ofOwner_c H w
      have yk := my k hk
      have nk := mn k hk
      have s1 : ys k &&& (m ^^^ (-1 : Int32)) = 0 := (m18_z (m18_and yk.1)).mpr fun c hc => by
        rw [b_and, b_not _ (by omega), b1 c hc, yk.2 c hc]
        cases e : FY a k c
        · rfl
        · rw [decide_eq_true (FY_t hw hg ht hk hc e)]; rfl
      have s2 : ns k &&& m = 0 := (m18_z (m18_and nk.1)).mpr fun c hc => by
        rw [b_and, b1 c hc, nk.2 c hc]
        cases e : FN a k c
        · rfl
        · rw [decide_eq_false (FN_t hw hg ht hk hc e).2]; rfl
      have s3 : cnt m = if k = 5 then 3 else size a k := by
        have h0 : cnt m = fb_ct (fun c => decide (δ c = k)) 18 := fb_ct_cong fun c hc => b1 c hc
        rw [h0]
        rcases Nat.decEq k 5 with u | u
        · rw [if_neg u]
          have := hg.2 k 0 w (by decide)
          rw [show hs a k = size a k from if_neg u] at this
          rw [← this]
          refine fb_ct_cong fun c _ => ?_
          unfold hin
          rw [if_neg u, Bool.and_true]
        · subst u
          rw [if_pos rfl]
          have g0 := hg.2 5 0 w (by decide)
          have g1 := hg.2 5 1 w (by decide)
          have g2 := hg.2 5 2 w (by decide)
          have hs5 : hs a 5 = 1 := if_pos rfl
          rw [hs5] at g0 g1 g2
          have h5 : ∀ κ c, hin 5 κ c = decide (c / 6 = κ) := fun κ c => if_pos rfl
          have t1 := fb_ct_or (p := fun c => decide (δ c = 5) && hin 5 0 c) (q := fun c => decide (δ c = 5) && hin 5 1 c) (n := 18) (fun c _ q => by
            simp only [h5, Bool.and_eq_true, decide_eq_true_eq] at q
            omega)
          have t2 := fb_ct_or (p := fun c => (decide (δ c = 5) && hin 5 0 c) || (decide (δ c = 5) && hin 5 1 c)) (q := fun c => decide (δ c = 5) && hin 5 2 c) (n := 18) (fun c _ q => by
            simp only [h5, Bool.or_eq_true, Bool.and_eq_true, decide_eq_true_eq] at q
            omega)
          have t3 : fb_ct (fun c => decide (δ c = 5)) 18 = fb_ct (fun c => ((decide (δ c = 5) && hin 5 0 c) || (decide (δ c = 5) && hin 5 1 c)) || (decide (δ c = 5) && hin 5 2 c)) 18 := fb_ct_cong fun c hc => by
            rw [h5, h5, h5]
            rcases (show c / 6 = 0 ∨ c / 6 = 1 ∨ c / 6 = 2 by omega) with q | q | q <;> rw [q] <;> cases decide (δ c = 5) <;> rfl
          omega
      have s4 : ((262143 : Int32) &&& (ys k ^^^ (-1 : Int32))) &&& (ns k ^^^ (-1 : Int32)) = 262143 &&& ((ys k ||| ns k) ^^^ (-1 : Int32)) := b_ext fun i hi => by
        rw [b_and, b_and, b_and, b_not _ hi, b_not _ hi, b_not _ hi, b_or]
        cases bt 262143 i <;> cases bt (ys k) i <;> cases bt (ns k) i <;> rfl
      have cy' : cnt (ys k) = fb_ct (FY a k) 18 := mb_cnt my hk
      have cn' : cnt (ns k) = fb_ct (FN a k) 18 := mb_cnt mn hk
      have hdis := fb_ct_or (p := FY a k) (q := FN a k) (n := 18) (fun c hc q => (FN_t hw hg ht hk hc q.2).2 (FY_t hw hg ht hk hc q.1))
      have hnot := fb_ct_not (fun c => FY a k c || FN a k c) 18
      rw [ob1_r (isOwn_y hd hw w), if_neg one_ne, ob1_r e1, ob1_r o1, ob1_r o2, if_pos s1, if_pos s2, ob1_r o0, ob1_r (size_ok m1), s3, if_pos rfl, ob1_r o3, if_pos s4, ob1_r (size_ok yk.1), lt_r, ob1_r (size_ok nk.1), lt_r, ob1_r (size_ok yk.1), ob1_r (size_ok nk.1), lt_r, cy', cn']
      rw [show (18 : Int32) - nI (fb_ct (FY a k) 18) = nI (18 - fb_ct (FY a k) 18) from pk_sub (a := 18) (fb_ct_le _ _), pk_sub (by omega), nI_add, nI_add, nI_add]
      refine Or.inr ⟨_, rfl, ?_⟩
      rw [tot_s, tot_s, um_s, ifp_t w]
      have : 18 - fb_ct (FY a k) 18 - fb_ct (FN a k) 18 = fb_ct (fun c => !(FY a k c || FN a k c)) 18 := by omega
      rw [this]
    · rw [ob1_r (isOwn_n hd hw hk w), if_pos rfl]
      refine Or.inr ⟨_, rfl, ?_⟩
      rw [tot_s, tot_s, um_s, ifp_f w, ct_pos_own yown hk w, ct_pos_own nown hk w]
      rfl) (by
    rintro s rfl rec
    (try dsimp only)
    rw [f_L_isTrue_L10, if_pos (show (6 : Int32) ≤ nI 6 from by decide)]
    obtain ⟨r, e, h⟩ := loop (S := Int32 × Int32) (F := fun f s => lo2 (f_L_isTrue_L154 pl to ks os cs ys ns rd len tl d (nI (tot (FY a) 6)) (nI (tot (FN a) 6)) (nI (um a (FY a) (FN a) 6))) f s.1 s.2) (B := fun rec s => f_L_isTrue_L154 pl to ks os cs ys ns rd len tl d (nI (tot (FY a) 6)) (nI (tot (FN a) 6)) (nI (um a (FY a) (FN a) 6)) (fun x y => rec (x, y)) s.1 s.2) (fun _ _ => rfl) (fun k s => s = (nI (kf (FY a) k), nI k)) (fun r => r = 1) 3 (by
      rintro k s hk rfl rec
      (try dsimp only)
      rw [true_kind H hg ht hd hk]
      exact Or.inr ⟨_, rfl, rfl⟩) (by
      rintro s rfl rec
      (try dsimp only)
      exact ⟨1, true_end H (nb hw hg ht) _, rfl⟩) 3 0 FU (0, 0) rfl (by decide) rfl
    exact ⟨r, e, h⟩) 6 0 FU (0, 0, 0, 0) rfl (by decide) rfl
  exact e
end
