/-! ===== what there is: mark, ofOwner, ofFact, count, envelope ===== -/
theorem mb_eq {M : Mk} {s t : Nat → Int32} (h1 : MB M s) (h2 : MB M t) {o : Nat} (ho : o < 6) : s o = t o := m18_ext (h1 o ho).1 (h2 o ho).1 fun i hi => by rw [(h1 o ho).2 i hi, (h2 o ho).2 i hi]
theorem out_ne {v : Int32} {L : Nat} (h : v < 0 ∨ ¬ v < 0 ∧ nI L ≤ v) {k : Nat} (hk : k < L) (hL : L < 2 ^ 31) : ¬ v = nI k := by
  rintro rfl
  rcases h with h | ⟨_, h⟩
  · exact nI_pos (by omega) h
  · exact nle hL (by omega) hk h
theorem b_nI {n i : Nat} (hi : i < 32) : bt (nI n) i = n.testBit i := by
  unfold bt
  rw [show (nI n).toBitVec = BitVec.ofNat 32 n from rfl, BitVec.getLsbD_ofNat, decide_eq_true hi, Bool.true_and]
theorem sshr3 {q r : Nat} (hq : q < 1000) (hr : r < 8) : nI (q * 8 + r) >>> ((3 : Int32) &&& 31) = nI q := by
  refine b_ext fun i hi => ?_
  rw [show (nI (q * 8 + r) >>> ((3 : Int32) &&& 31)) = (nI (q * 8 + r) >>> (nI 3 &&& 31)) from rfl, b_sshr 3 (by decide) _ hi]
  rcases Nat.lt_or_ge (3 + i) 32 with u | u
  · rw [if_pos u, b_nI u, b_nI hi, Nat.add_comm 3 i, Nat.testBit_add]
    congr 1
    omega
  · rw [if_neg (by omega), b_nI (by decide), b_nI hi, Nat.testBit_lt_two_pow (show q * 8 + r < 2 ^ 31 by omega), Nat.testBit_lt_two_pow (show q < 2 ^ i from Nat.lt_of_lt_of_le (show q < 2 ^ 29 by omega) (Nat.pow_le_pow_right (by decide) (by omega)))]
theorem and7 {q r : Nat} (hr : r < 8) : nI (q * 8 + r) &&& (7 : Int32) = nI r := by
  rw [show (7 : Int32) = nI 7 from rfl, nx_and, show (7 : Nat) = 2 ^ 3 - 1 from rfl, Nat.and_two_pow_sub_one_eq_mod]
  congr 1
  omega
theorem app_8 {σ : Gh} {M : Mk} {r : Nat} {P : Nat → Nat → Prop} (hr : r < 8) {o c : Nat} (h : σ o c < 8) : app σ M r P o c < 8 := by
  rcases Classical.em (σ o c = 0 ∧ M o c = false ∧ P o c) with u | u
  · rw [show app σ M r P o c = r from ifp_t u]; exact hr
  · rw [show app σ M r P o c = σ o c from ifp_f u]; exact h
theorem hY_8 {a : Sh} {e : Ex} {k : Nat} {Y N : Mk} (o c : Nat) : hY a e k Y N o c < 8 := app_8 (by decide) (app_8 (by decide) (app_8 (by decide) (app_8 (by decide) (app_8 (by decide) (show (0 : Nat) < 8 by decide)))))
theorem hN_8 {a : Sh} {e : Ex} {k : Nat} {Y N : Mk} (o c : Nat) : hN a e k Y N o c < 8 := app_8 (by decide) (app_8 (by decide) (app_8 (by decide) (app_8 (by decide) (app_8 (by decide) (show (0 : Nat) < 8 by decide)))))
theorem it_8 (a : Sh) (e : Ex) : ∀ k o c, ((it a e E0 k).1.1 o c = true → (it a e E0 k).1.2.1 o c ≤ k ∧ (it a e E0 k).1.2.2 o c < 8) ∧ ((it a e E0 k).2.1 o c = true → (it a e E0 k).2.2.1 o c ≤ k ∧ (it a e E0 k).2.2.2 o c < 8)
  | 0, o, c => ⟨fun h => Bool.noConfusion (show false = true from h), fun h => Bool.noConfusion (show false = true from h)⟩
  | k + 1, o, c => by
    obtain ⟨h1, h2⟩ := it_8 a e k o c
    constructor
    · intro _
      show (if (it a e E0 k).1.1 o c = true then (it a e E0 k).1.2.1 o c else k + 1) ≤ k + 1 ∧ (if (it a e E0 k).1.1 o c = true then (it a e E0 k).1.2.2 o c else hY a e k (it a e E0 k).1.1 (it a e E0 k).2.1 o c) < 8
      split
      · have := h1 ‹_›
        omega
      · have := hY_8 (a := a) (e := e) (k := k) (Y := (it a e E0 k).1.1) (N := (it a e E0 k).2.1) o c
        omega
    · intro _
      show (if (it a e E0 k).2.1 o c = true then (it a e E0 k).2.2.1 o c else k + 1) ≤ k + 1 ∧ (if (it a e E0 k).2.1 o c = true then (it a e E0 k).2.2.2 o c else hN a e k (it a e E0 k).1.1 (it a e E0 k).2.1 o c) < 8
      split
      · have := h2 ‹_›
        omega
      · have := hN_8 (a := a) (e := e) (k := k) (Y := (it a e E0 k).1.1) (N := (it a e E0 k).2.1) o c
        omega
theorem has_ok {M : Mk} {t : Nat → Int32} (m : MB M t) {o c : Nat} (ho : o < 6) (hc : c < 18) : f_X4_has t (nI o) (nI c) = some (if M o c = true then 1 else 0) := by
  unfold f_X4_has
  rw [ob1_r (of_ok ho), ob1_r (isIn_ok (m o ho).1 hc), (m o ho).2 c hc]
  cases M o c <;> rfl
theorem ref_has {M : Mk} {t : Nat → Int32} (m : MB M t) {o c : Nat} (ho : o < 6) (hc : c < 18) : ((t o >>> (nI c &&& 31)) &&& 1 = (1 : Int32)) ↔ M o c = true := by
  rw [b_test1 (m o ho).1 hc, (m o ho).2 c hc]
theorem gd108 {o c : Nat} (ho : o < 6) (hc : c < 18) {α : Type} {k : Option α} : gd (nI (18 * o + c)) 108 k = k := gd_r (vp_in_nI (n := 18 * o + c) (by omega) (by decide))
section
variable {a : Sh} {m : Nat} {L : Nat → Sh} {pl to : Int32} {ks os cs ys cy oy ns cn on : Nat → Int32} {rd len : Int32} {st : Nat → StT} {z past : Nat → Int32} {pm : Int32}
theorem row_ok {M : Mk} {k K : Nat} {TR TL : Gh} {st cm og y yR yL : Nat → Int32} (h1 : RC True M g0 k TR TL st cm og) (h2 : RX M g0 K TR TL y yR yL) (h8 : ∀ o c, M o c = true → TR o c < 1000 ∧ TL o c < 8) {o c : Nat} (ho : o < 6) (hc : c < 18) :
    f_X4_roundOf st og (nI o) (nI c) = some (if M o c = true then yR (18 * o + c) else -6) ∧ f_X4_ruleOf st og (nI o) (nI c) = some (if M o c = true then yL (18 * o + c) else -6) := by
  unfold f_X4_roundOf f_X4_ruleOf
  rw [ob1_r (has_ok h1.mb ho hc), ob1_r (has_ok h1.mb ho hc)]
  cases e : M o c
  · have f : ¬ (false = true) := by decide
    rw [if_neg f, if_neg f, if_neg f, if_pos rfl, if_pos rfl]
    exact ⟨rfl, rfl⟩
  · obtain ⟨b1, b2⟩ := h8 o c e
    have q := (((h1 o ho).2.2 c hc).2.2.2 True.intro).1 e
    obtain ⟨q2, q3⟩ := ((h2 o ho).2 c hc).2.1 e
    rw [if_pos rfl, if_neg one_ne, if_neg one_ne, i_at18', gd108 ho hc, gd108 ho hc, i_cl (by omega), q, sshr3 b1 b2, and7 b2, if_pos rfl, if_pos rfl, q2, q3]
    exact ⟨rfl, rfl⟩
end

