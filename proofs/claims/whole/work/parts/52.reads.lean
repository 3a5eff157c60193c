/-! ===== what there is: mark, ofOwner, ofFact, count, envelope ===== -/
theorem mb_eq {M : Mk} {s t : Nat → Int32} (h1 : MB M s) (h2 : MB M t) {o : Nat} (ho : o < 6) : s o = t o := m18_ext (h1 o ho).1 (h2 o ho).1 fun i hi => by rw [(h1 o ho).2 i hi, (h2 o ho).2 i hi]
theorem out_ne {v : Int32} {L : Nat} (h : v < 0 ∨ ¬ v < 0 ∧ nI L ≤ v) {k : Nat} (hk : k < L) (hL : L < 2 ^ 31) : ¬ v = nI k := by
  rintro rfl
  rcases h with h | ⟨_, h⟩
  · exact nI_pos (by omega) h
  · exact nle hL (by omega) hk h
theorem b_nI {n i : Nat} (hi : i < 32) : bt (nI n) i = n.testBit i := by
  unfold bt
  rw [show (nI n).toBitVec = BitVec.ofNat 32 n from rfl, BitVec.getLsbD_ofNat, decide_eq_true hi, Bool.true_and]
theorem sshr3 {q r : Nat} (hq : q < 1000) (hr : r < 8) : nI (q * 8 + r) >>> ((3 : Int32) &&& 31) = nI q := by
  refine b_ext fun i hi => ?_
  rw [show (nI (q * 8 + r) >>> ((3 : Int32) &&& 31)) = (nI (q * 8 + r) >>> (nI 3 &&& 31)) from rfl, b_sshr 3 (by decide) _ hi]
  rcases Nat.lt_or_ge (3 + i) 32 with u | u
  · rw [if_pos u, b_nI u, b_nI hi, Nat.add_comm 3 i, Nat.testBit_add]
    congr 1
    omega
  · rw [if_neg (by omega), b_nI (by decide), b_nI hi, Nat.testBit_lt_two_pow (show q * 8 + r < 2 ^ 31 by omega), Nat.testBit_lt_two_pow (show q < 2 ^ i from Nat.lt_of_lt_of_le (show q < 2 ^ 29 by omega) (Nat.pow_le_pow_right (by decide) (by omega)))]
theorem and7 {q r : Nat} (hr : r < 8) : nI (q * 8 + r) &&& (7 : Int32) = nI r := by
  rw [show (7 : Int32) = nI 7 from rfl, nx_and, show (7 : Nat) = 2 ^ 3 - 1 from rfl, Nat.and_two_pow_sub_one_eq_mod]
  congr 1
  omega
theorem app_8 {σ : Gh} {M : Mk} {r : Nat} {P : Nat → Nat → Prop} (hr : r < 8) {o c : Nat} (h : σ o c < 8) : app σ M r P o c < 8 := by
  rcases Classical.em (σ o c = 0 ∧ M o c = false ∧ P o c) with u | u
  · rw [show app σ M r P o c = r from ifp_t u]; exact hr
  · rw [show app σ M r P o c = σ o c from ifp_f u]; exact h
theorem hY_8 {a : Sh} {e : Ex} {k : Nat} {Y N : Mk} (o c : Nat) : hY a e k Y N o c < 8 := app_8 (by decide) (app_8 (by decide) (app_8 (by decide) (app_8 (by decide) (app_8 (by decide) (show (0 : Nat) < 8 by decide)))))
theorem hN_8 {a : Sh} {e : Ex} {k : Nat} {Y N : Mk} (o c : Nat) : hN a e k Y N o c < 8 := app_8 (by decide) (app_8 (by decide) (app_8 (by decide) (app_8 (by decide) (app_8 (by decide) (show (0 : Nat) < 8 by decide)))))
theorem it_8 (a : Sh) (e : Ex) : ∀ k o c, ((it a e E0 k).1.1 o c = true → (it a e E0 k).1.2.1 o c ≤ k ∧ (it a e E0 k).1.2.2 o c < 8) ∧ ((it a e E0 k).2.1 o c = true → (it a e E0 k).2.2.1 o c ≤ k ∧ (it a e E0 k).2.2.2 o c < 8)
  | 0, o, c => ⟨fun h => Bool.noConfusion (show false = true from h), fun h => Bool.noConfusion (show false = true from h)⟩
  | k + 1, o, c => by
    obtain ⟨h1, h2⟩ := it_8 a e k o c
    constructor
    · intro _
      show (if (it a e E0 k).1.1 o c = true then (it a e E0 k).1.2.1 o c else k + 1) ≤ k + 1 ∧ (if (it a e E0 k).1.1 o c = true then (it a e E0 k).1.2.2 o c else hY a e k (it a e E0 k).1.1 (it a e E0 k).2.1 o c) < 8
      split
      · have := h1 ‹_›
        omega
      · have := hY_8 (a := a) (e := e) (k := k) (Y := (it a e E0 k).1.1) (N := (it a e E0 k).2.1) o c
        omega
    · intro _
      show (if (it a e E0 k).2.1 o c = true then (it a e E0 k).2.2.1 o c else k + 1) ≤ k + 1 ∧ (if (it a e E0 k).2.1 o c = true then (it a e E0 k).2.2.2 o c else hN a e k (it a e E0 k).1.1 (it a e E0 k).2.1 o c) < 8
      split
      · have := h2 ‹_›
        omega
      · have := hN_8 (a := a) (e := e) (k := k) (Y := (it a e E0 k).1.1) (N := (it a e E0 k).2.1) o c
        omega
theorem has_ok {M : Mk} {t : Nat → Int32} (m : MB M t) {o c : Nat} (ho : o < 6) (hc : c < 18) : f_X4_has t (nI o) (nI c) = some (if M o c = true then 1 else 0) := by
  unfold f_X4_has
  rw [ob1_r (of_ok ho), ob1_r (isIn_ok (m o ho).1 hc), (m o ho).2 c hc]
  cases M o c <;> rfl
theorem ref_has {M : Mk} {t : Nat → Int32} (m : MB M t) {o c : Nat} (ho : o < 6) (hc : c < 18) : ((t o >>> (nI c &&& 31)) &&& 1 = (1 : Int32)) ↔ M o c = true := by
  rw [b_test1 (m o ho).1 hc, (m o ho).2 c hc]
theorem gd108 {o c : Nat} (ho : o < 6) (hc : c < 18) {α : Type} {k : Option α} : gd (nI (18 * o + c)) 108 k = k := gd_r (vp_in_nI (n := 18 * o + c) (by omega) (by decide))
section
variable {a : Sh} {m : Nat} {L : Nat → Sh} {pl to : Int32} {ks os cs ys cy oy ns cn on : Nat → Int32} {rd len : Int32} {st : Nat → StT} {z past : Nat → Int32} {pm : Int32}
theorem row_ok {M : Mk} {k K : Nat} {TR TL : Gh} {st cm og y yR yL : Nat → Int32} (h1 : RC True M g0 k TR TL st cm og) (h2 : RX M g0 K TR TL y yR yL) (h8 : ∀ o c, M o c = true → TR o c < 1000 ∧ TL o c < 8) {o c : Nat} (ho : o < 6) (hc : c < 18) :
    f_X4_roundOf st og (nI o) (nI c) = some (if M o c = true then yR (18 * o + c) else -6) ∧ f_X4_ruleOf st og (nI o) (nI c) = some (if M o c = true then yL (18 * o + c) else -6) := by
  unfold f_X4_roundOf f_X4_ruleOf
  rw [ob1_r (has_ok h1.mb ho hc), ob1_r (has_ok h1.mb ho hc)]
  cases e : M o c
  · have f : ¬ (false = true) := by decide
    rw [if_neg f, if_neg f, if_neg f, if_pos rfl, if_pos rfl]
    exact ⟨rfl, rfl⟩
  · obtain ⟨b1, b2⟩ := h8 o c e
    have q := (((h1 o ho).2.2 c hc).2.2.2 True.intro).1 e
    obtain ⟨q2, q3⟩ := ((h2 o ho).2 c hc).2.1 e
    rw [if_pos rfl, if_neg one_ne, if_neg one_ne, i_at18', gd108 ho hc, gd108 ho hc, i_cl (by omega), q, sshr3 b1 b2, and7 b2, if_pos rfl, if_pos rfl, q2, q3]
    exact ⟨rfl, rfl⟩
theorem mark_ok (H : CHG a m L pl to ks os cs ys cy oy ns cn on rd len st z past pm) (b1 b2 b3 b4 b5 b6 b7 b8 : Nat → Int32) (b9 b10 : Int32) (v1 v2 v3 : Int32) :
    ∃ r d1 d2 d3 d4 d5 d6 d7 d8 d9 d10, f_X5_mark pl ys oy ns on v1 v2 v3 = some r ∧ f_X6_mark z b1 b2 b3 b4 b5 b6 b7 b8 b9 b10 v1 v2 v3 = some (r, d1, d2, d3, d4, d5, d6, d7, d8, d9, d10) := by
  obtain ⟨hFR, hm, _⟩ := H
  have hFR0 := hFR
  obtain ⟨hw, h40, hf, hz⟩ := hFR
  unfold f_X5_mark f_X6_mark
  rcases owner_dec hFR0 v1 with ⟨o, w, rfl, p1, p2⟩ | ⟨p1, p2⟩
  · have ho := own6 hw w
    rw [ob1_r p1, ob1_r p2, if_neg one_ne, if_neg one_ne]
    rcases card_dec v2 with ⟨c, hc, rfl, c1, c2⟩ | ⟨c1, c2⟩
    · rw [ob1_r c1, ob1_r c2, if_neg one_ne, if_neg one_ne]
      obtain ⟨y, n, yt, nt, yR, yL, nR, nL, r', q', l1, l2⟩ := lay_ok hw hz b1 b2 b3 b4 b5 b6 b7 b8 b9 b10
      obtain ⟨k, g1, g2, g3⟩ := hm
      have i8 := it_8 a e0 (rk a e0 E0)
      have hr := rk_le a e0 E0
      obtain ⟨y1, y2⟩ := row_ok g1 l2.1 (fun o c h => by have := (i8 o c).1 h; omega) ho hc
      obtain ⟨n1, n2⟩ := row_ok g2 l2.2.1 (fun o c h => by have := (i8 o c).2 h; omega) ho hc
      rw [ob10_r l1, gd_r (vp_in_nI (n := o) ho (by decide)), i_cl (by omega), i_at18]
      have ry := ref_has l2.y.1 ho hc
      have rn := ref_has l2.y.2 ho hc
      have hy1 := has_ok g1.mb ho hc
      have hn1 := has_ok g2.mb ho hc
      have hJ : ∀ (t : Int32), f_X6_mark_J48 (nI o) (nI c) y n yt nt yR yL nR nL r' q' (nI (18 * o + c)) v3 t = ob1 (f_X6_told yR yL nR nL (nI (18 * o + c)) v3 t (if fN a e0 E0 o c = true then 1 else 0)) (fun r => some (r, y, n, yt, nt, yR, yL, nR, nL, r', q')) := by
        intro t
        rw [f_X6_mark_J48, gd_r (vp_in_nI (n := o) ho (by decide)), i_cl (by omega)]
        cases e : fN a e0 E0 o c
        · rw [if_neg (show ¬ ((n o >>> (nI c &&& 31)) &&& 1 = (1 : Int32)) from fun q => by have := rn.mp q; rw [e] at this; exact Bool.noConfusion this), if_neg (show ¬ (false = true) by decide)]
        · rw [if_pos (rn.mpr e), if_pos rfl]
      have hT : ∀ t : Int32, t = (if fY a e0 E0 o c = true then 1 else 0) → ∃ r, (if v3 = (0 : Int32) then (ob1 (f_X4_has ys (nI o) (nI c)) (fun r_65 : Int32 => if r_65 = (0 : Int32) then (ob1 (f_X4_has ns (nI o) (nI c)) (fun r_85 : Int32 => if r_85 = (0 : Int32) then (some ((0 : Int32) + (0 : Int32))) else (some ((0 : Int32) + (2 : Int32))))) else (ob1 (f_X4_has ns (nI o) (nI c)) (fun r_85 : Int32 => if r_85 = (0 : Int32) then (some ((1 : Int32) + (0 : Int32))) else (some ((1 : Int32) + (2 : Int32))))))) else (if v3 = (1 : Int32) then (ob1 (f_X4_roundOf ys oy (nI o) (nI c)) (fun r_107 : Int32 => some r_107)) else (if v3 = (2 : Int32) then (ob1 (f_X4_ruleOf ys oy (nI o) (nI c)) (fun r_120 : Int32 => some r_120)) else (if v3 = (3 : Int32) then (ob1 (f_X4_roundOf ns on (nI o) (nI c)) (fun r_133 : Int32 => some r_133)) else (if v3 = (4 : Int32) then (ob1 (f_X4_ruleOf ns on (nI o) (nI c)) (fun r_146 : Int32 => some r_146)) else (some (-2 : Int32))))))) = some r ∧ f_X6_told yR yL nR nL (nI (18 * o + c)) v3 t (if fN a e0 E0 o c = true then 1 else 0) = some r := by
        rintro t rfl
        have hy1' : f_X4_has ys (nI o) (nI c) = some (if fY a e0 E0 o c = true then 1 else 0) := hy1
        have hn1' : f_X4_has ns (nI o) (nI c) = some (if fN a e0 E0 o c = true then 1 else 0) := hn1
        have y1' : f_X4_roundOf ys oy (nI o) (nI c) = some (if fY a e0 E0 o c = true then yR (18 * o + c) else -6) := y1
        have y2' : f_X4_ruleOf ys oy (nI o) (nI c) = some (if fY a e0 E0 o c = true then yL (18 * o + c) else -6) := y2
        have n1' : f_X4_roundOf ns on (nI o) (nI c) = some (if fN a e0 E0 o c = true then nR (18 * o + c) else -6) := n1
        have n2' : f_X4_ruleOf ns on (nI o) (nI c) = some (if fN a e0 E0 o c = true then nL (18 * o + c) else -6) := n2
        unfold f_X6_told
        rw [gd108 ho hc, gd108 ho hc, gd108 ho hc, gd108 ho hc, i_cl (by omega)]
        rcases Decidable.em (v3 = 0) with u | u
        · rw [if_pos u, if_pos u, ob1_r hy1', ob1_r hn1', ob1_r hn1']
          cases fY a e0 E0 o c <;> cases fN a e0 E0 o c <;> exact ⟨_, rfl, rfl⟩
        rw [if_neg u, if_neg u]
        rcases Decidable.em (v3 = 1) with u | u
        · rw [if_pos u, if_pos u, ob1_r y1']
          cases fY a e0 E0 o c <;> exact ⟨_, rfl, rfl⟩
        rw [if_neg u, if_neg u]
        rcases Decidable.em (v3 = 2) with u | u
        · rw [if_pos u, if_pos u, ob1_r y2']
          cases fY a e0 E0 o c <;> exact ⟨_, rfl, rfl⟩
        rw [if_neg u, if_neg u]
        rcases Decidable.em (v3 = 3) with u | u
        · rw [if_pos u, if_pos u, ob1_r n1']
          cases fN a e0 E0 o c <;> exact ⟨_, rfl, rfl⟩
        rw [if_neg u, if_neg u]
        rcases Decidable.em (v3 = 4) with u | u
        · rw [if_pos u, if_pos u, ob1_r n2']
          cases fN a e0 E0 o c <;> exact ⟨_, rfl, rfl⟩
        rw [if_neg u, if_neg u]
        exact ⟨_, rfl, rfl⟩
      cases e : fY a e0 E0 o c
      · rw [if_neg (show ¬ ((y o >>> (nI c &&& 31)) &&& 1 = (1 : Int32)) from fun q => by have := ry.mp q; rw [e] at this; exact Bool.noConfusion this), hJ]
        obtain ⟨r, t1, t2⟩ := hT 0 (by rw [e]; rfl)
        rw [ob1_r t2]
        exact ⟨r, _, _, _, _, _, _, _, _, _, _, t1, rfl⟩
      · rw [if_pos (show ((y o >>> (nI c &&& 31)) &&& 1 = (1 : Int32)) from ry.mpr e), hJ]
        obtain ⟨r, t1, t2⟩ := hT 1 (by rw [e]; rfl)
        rw [ob1_r t2]
        exact ⟨r, _, _, _, _, _, _, _, _, _, _, t1, rfl⟩
    · rw [ob1_r c1, ob1_r c2, if_pos rfl, if_pos rfl]
      exact ⟨_, _, _, _, _, _, _, _, _, _, _, rfl, rfl⟩
  · rw [ob1_r p1, ob1_r p2, if_pos rfl, if_pos rfl]
    exact ⟨_, _, _, _, _, _, _, _, _, _, _, rfl, rfl⟩
theorem ofOwner_ok (H : CHG a m L pl to ks os cs ys cy oy ns cn on rd len st z past pm) (b1 b2 b3 b4 b5 b6 b7 b8 : Nat → Int32) (b9 b10 : Int32) (v1 v2 : Int32) :
    ∃ r d1 d2 d3 d4 d5 d6 d7 d8 d9 d10, f_X5_ofOwner pl ys ns v1 v2 = some r ∧ f_X6_ofOwner z b1 b2 b3 b4 b5 b6 b7 b8 b9 b10 v1 v2 = some (r, d1, d2, d3, d4, d5, d6, d7, d8, d9, d10) := by
  obtain ⟨hFR, hm, _⟩ := H
  have hFR0 := hFR
  obtain ⟨hw, h40, hf, hz⟩ := hFR
  unfold f_X5_ofOwner f_X6_ofOwner
  rcases owner_dec hFR0 v1 with ⟨o, w, rfl, p1, p2⟩ | ⟨p1, p2⟩
  · have ho := own6 hw w
    rw [ob1_r p1, ob1_r p2, if_neg one_ne, if_neg one_ne]
    obtain ⟨y, n, yt, nt, yR, yL, nR, nL, r', q', l1, l2⟩ := lay_ok hw hz b1 b2 b3 b4 b5 b6 b7 b8 b9 b10
    obtain ⟨my, mn, _, _⟩ := hm.y
    have ey : ys o = y o := mb_eq my l2.y.1 ho
    have en : ns o = n o := mb_eq mn l2.y.2 ho
    have g6 : ∀ {α : Type} {k : Option α}, gd (nI o) 6 k = k := gd_r (vp_in_nI (n := o) ho (by decide))
    unfold f_X2_without
    rw [ob10_r l1, g6, g6, g6, g6, i_cl (by omega), ob1_r (of_ok ho), ob1_r (of_ok ho), ob1_r (of_ok ho), ob1_r (of_ok ho), ob1_r rfl, ey, en]
    have ew : ((262143 : Int32) &&& (y o ^^^ (-1 : Int32))) &&& (n o ^^^ (-1 : Int32)) = 262143 &&& ((y o ||| n o) ^^^ (-1 : Int32)) := b_ext fun i hi => by
      rw [b_and, b_and, b_and, b_not _ hi, b_not _ hi, b_not _ hi, b_or]
      cases bt 262143 i <;> cases bt (y o) i <;> cases bt (n o) i <;> rfl
    rw [ew]
    have es : ∃ r, (if nI o = (5 : Int32) then (some (3 : Int32)) else (ob1 (f_X0_sizeOfHand pl (nI o)) (fun r_58 : Int32 => some r_58))) = some r ∧ f_X6_sizeOf z (nI o) = some r := by
      rcases Nat.decEq o 5 with e5 | e5
      · have hp : o < sp a := w.resolve_right e5
        have h5 : ¬ nI o = (5 : Int32) := fun q => e5 ((i_eq (b := 5) (by omega) (by decide)).mp q)
        rw [if_neg h5, hf.1, ob1_r (sizeH_ok hw (by omega) (Or.inl hp))]
        refine ⟨_, rfl, ?_⟩
        rw [sizeOf_ok hz hw hp]
        unfold hZ
        rw [if_pos (by omega)]
      · rw [e5, if_pos (show nI 5 = (5 : Int32) from rfl)]
        refine ⟨3, rfl, ?_⟩
        unfold f_X6_sizeOf
        rw [if_pos (show nI 5 = (5 : Int32) from rfl)]
    obtain ⟨sz, s1, s2⟩ := es
    rw [s1, ob1_r s2]
    split
    · exact ⟨_, _, _, _, _, _, _, _, _, _, _, rfl, rfl⟩
    split
    · exact ⟨_, _, _, _, _, _, _, _, _, _, _, rfl, rfl⟩
    split
    · exact ⟨_, _, _, _, _, _, _, _, _, _, _, rfl, rfl⟩
    split
    · exact ⟨_, _, _, _, _, _, _, _, _, _, _, rfl, rfl⟩
    · exact ⟨_, _, _, _, _, _, _, _, _, _, _, rfl, rfl⟩
  · rw [ob1_r p1, ob1_r p2, if_pos rfl, if_pos rfl]
    exact ⟨_, _, _, _, _, _, _, _, _, _, _, rfl, rfl⟩
end
