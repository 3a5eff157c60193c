/-! ===== Int32 by its bits: bt x i ===== -/
def bt (x : Int32) (i : Nat) : Bool := x.toBitVec.getLsbD i
theorem b_ext {x y : Int32} (h : ∀ i, i < 32 → bt x i = bt y i) : x = y := Int32.toBitVec_inj.mp (BitVec.eq_of_getLsbD_eq (fun i hi => h i hi))
theorem b_or (x y : Int32) (i : Nat) : bt (x ||| y) i = (bt x i || bt y i) := by unfold bt; rw [Int32.toBitVec_or, BitVec.getLsbD_or]
theorem b_and (x y : Int32) (i : Nat) : bt (x &&& y) i = (bt x i && bt y i) := by unfold bt; rw [Int32.toBitVec_and, BitVec.getLsbD_and]
theorem b_xor (x y : Int32) (i : Nat) : bt (x ^^^ y) i = (bt x i ^^ bt y i) := by unfold bt; rw [Int32.toBitVec_xor, BitVec.getLsbD_xor]
theorem b_big {x : Int32} {i : Nat} (h : 32 ≤ i) : bt x i = false := BitVec.getLsbD_of_ge _ _ h
theorem b_255 (i : Nat) : bt 255 i = decide (i < 8) := by
  rcases Nat.lt_or_ge i 32 with h | h
  · exact (by decide +kernel : ∀ i, i < 32 → bt 255 i = decide (i < 8)) i h
  · rw [b_big h, decide_eq_false (by omega)]
theorem b_65535 (i : Nat) : bt 65535 i = decide (i < 16) := by
  rcases Nat.lt_or_ge i 32 with h | h
  · exact (by decide +kernel : ∀ i, i < 32 → bt 65535 i = decide (i < 16)) i h
  · rw [b_big h, decide_eq_false (by omega)]
theorem b_m1 : ∀ i, i < 32 → bt (-1) i = true := by decide +kernel
theorem b_0 (i : Nat) : bt 0 i = false := BitVec.getLsbD_zero
theorem s_l : ∀ n, n < 32 → ((nI n &&& 31).toBitVec.smod 32).toNat = n := by decide +kernel
theorem s_u : ∀ n, n < 32 → (((nI n).toUInt32 &&& Int32.toUInt32 31).toBitVec % 32).toNat = n := by decide +kernel
theorem b_shl (n : Nat) (hn : n < 32) (x : Int32) {i : Nat} (hi : i < 32) : bt (x <<< (nI n &&& 31)) i = (decide (n ≤ i) && bt x (i - n)) := by
  unfold bt
  rw [Int32.toBitVec_shiftLeft]
  show (x.toBitVec <<< ((nI n &&& 31).toBitVec.smod 32).toNat).getLsbD i = _
  rw [s_l n hn, BitVec.getLsbD_shiftLeft]
  rcases Nat.lt_or_ge i n with h | h
  · simp [h, Nat.not_le.mpr h]
  · simp [hi, h, Nat.not_lt.mpr h]
theorem b_ushr (n : Nat) (hn : n < 32) (x : Int32) (i : Nat) : bt ((x.toUInt32 >>> ((nI n).toUInt32 &&& Int32.toUInt32 31)).toInt32) i = bt x (n + i) := by
  show (x.toUInt32 >>> ((nI n).toUInt32 &&& Int32.toUInt32 31)).toBitVec.getLsbD i = x.toUInt32.toBitVec.getLsbD (n + i)
  rw [UInt32.toBitVec_shiftRight]
  show (x.toUInt32.toBitVec >>> (((nI n).toUInt32 &&& Int32.toUInt32 31).toBitVec % 32).toNat).getLsbD i = _
  rw [s_u n hn, BitVec.getLsbD_ushiftRight]
theorem b_sshr (n : Nat) (hn : n < 32) (x : Int32) {i : Nat} (hi : i < 32) : bt (x >>> (nI n &&& 31)) i = if n + i < 32 then bt x (n + i) else bt x 31 := by
  unfold bt
  rw [Int32.toBitVec_shiftRight]
  show (x.toBitVec.sshiftRight ((nI n &&& 31).toBitVec.smod 32).toNat).getLsbD i = _
  rw [s_l n hn, BitVec.getLsbD_sshiftRight, BitVec.msb_eq_getLsbD_last]
  simp [hi]
theorem b_shl8 (x : Int32) {i : Nat} (hi : i < 32) : bt (x <<< ((8 : Int32) &&& 31)) i = (decide (8 ≤ i) && bt x (i - 8)) := b_shl 8 (by omega) x hi
theorem b_shl16 (x : Int32) {i : Nat} (hi : i < 32) : bt (x <<< ((16 : Int32) &&& 31)) i = (decide (16 ≤ i) && bt x (i - 16)) := b_shl 16 (by omega) x hi
theorem b_shl24 (x : Int32) {i : Nat} (hi : i < 32) : bt (x <<< ((24 : Int32) &&& 31)) i = (decide (24 ≤ i) && bt x (i - 24)) := b_shl 24 (by omega) x hi
theorem b_sshr8 (x : Int32) {i : Nat} (hi : i < 32) : bt (x >>> ((8 : Int32) &&& 31)) i = if 8 + i < 32 then bt x (8 + i) else bt x 31 := b_sshr 8 (by omega) x hi
def fb_ct (p : Nat → Bool) : Nat → Nat
  | 0 => 0
  | n + 1 => fb_ct p n + (if p n then 1 else 0)
theorem fb_ct_succ (p : Nat → Bool) (n : Nat) : fb_ct p (n + 1) = fb_ct p n + (if p n then 1 else 0) := rfl
theorem fb_ct_le (p : Nat → Bool) : ∀ n, fb_ct p n ≤ n
  | 0 => Nat.le_refl _
  | n + 1 => by
    have h := fb_ct_le p n
    rw [fb_ct_succ]
    split <;> omega
theorem fb_ct_step (p : Nat → Bool) (m : Nat) : ∀ n, fb_ct p m ≤ fb_ct p (m + n)
  | 0 => Nat.le_refl _
  | n + 1 => by
    have h := fb_ct_step p m n
    show fb_ct p m ≤ fb_ct p (m + n + 1)
    rw [fb_ct_succ]
    omega
theorem fb_ct_mono (p : Nat → Bool) {m n : Nat} (h : m ≤ n) : fb_ct p m ≤ fb_ct p n := by
  have := fb_ct_step p m (n - m)
  rwa [Nat.add_sub_cancel' h] at this
theorem fb_ct_cong {p q : Nat → Bool} : ∀ {n : Nat}, (∀ k, k < n → p k = q k) → fb_ct p n = fb_ct q n
  | 0, _ => rfl
  | n + 1, h => by
    rw [fb_ct_succ, fb_ct_succ, fb_ct_cong (fun k hk => h k (by omega)), h n (by omega)]
/-- one place changed -/
theorem fb_ct_out (p : Nat → Bool) (b : Bool) {i n : Nat} (h : n ≤ i) : fb_ct (fun k => if k = i then b else p k) n = fb_ct p n :=
  fb_ct_cong fun k hk => if_neg (by omega)
theorem fb_ct_upd (p : Nat → Bool) (b : Bool) {i : Nat} : ∀ {n : Nat}, i < n → fb_ct (fun k => if k = i then b else p k) n + (if p i then 1 else 0) = fb_ct p n + (if b then 1 else 0)
  | 0, h => absurd h (Nat.not_lt_zero i)
  | n + 1, h => by
    rw [fb_ct_succ, fb_ct_succ]
    rcases Nat.lt_or_ge i n with q | q
    · have := fb_ct_upd p b q
      have e : (if n = i then b else p n) = p n := if_neg (by omega)
      rw [e]
      omega
    · have e : i = n := by omega
      subst e
      rw [fb_ct_out p b (Nat.le_refl _)]
      simp only [if_true]
      omega
theorem fb_ct_sub {p q : Nat → Bool} : ∀ {n : Nat}, (∀ k, k < n → p k = true → q k = true) → fb_ct p n ≤ fb_ct q n
  | 0, _ => Nat.le_refl _
  | n + 1, h => by
    have h1 := fb_ct_sub (n := n) (p := p) (q := q) (fun k hk => h k (by omega))
    have h2 := h n (by omega)
    rw [fb_ct_succ, fb_ct_succ]
    cases hp : p n <;> cases hq : q n <;> simp_all <;> omega
theorem fb_ct_or {p q : Nat → Bool} : ∀ {n : Nat}, (∀ k, k < n → ¬ (p k = true ∧ q k = true)) → fb_ct (fun k => p k || q k) n = fb_ct p n + fb_ct q n
  | 0, _ => rfl
  | n + 1, h => by
    have h1 := fb_ct_or (n := n) (p := p) (q := q) (fun k hk => h k (by omega))
    have h2 := h n (by omega)
    rw [fb_ct_succ, fb_ct_succ, fb_ct_succ, h1]
    cases hp : p n <;> cases hq : q n <;> simp_all <;> omega
theorem fb_ct_not (p : Nat → Bool) : ∀ n, fb_ct p n + fb_ct (fun k => !p k) n = n
  | 0 => rfl
  | n + 1 => by
    have h := fb_ct_not p n
    rw [fb_ct_succ, fb_ct_succ]
    cases p n <;> simp <;> omega
theorem fb_ct_split (p : Nat → Bool) (m : Nat) : ∀ n, fb_ct p (m + n) = fb_ct p m + fb_ct (fun k => p (m + k)) n
  | 0 => rfl
  | n + 1 => by
    have h := fb_ct_split p m n
    show fb_ct p (m + n + 1) = _
    rw [fb_ct_succ, fb_ct_succ, h, Nat.add_assoc]
theorem fb_ct_zero {p : Nat → Bool} : ∀ {n : Nat}, fb_ct p n = 0 ↔ ∀ k, k < n → p k = false
  | 0 => ⟨fun _ k hk => absurd hk (Nat.not_lt_zero k), fun _ => rfl⟩
  | n + 1 => by
    have h := fb_ct_zero (p := p) (n := n)
    rw [fb_ct_succ]
    constructor
    · intro e k hk
      have e1 : fb_ct p n = 0 := by omega
      rcases Nat.lt_or_ge k n with q | q
      · exact h.mp e1 k q
      · have ek : k = n := by omega
        subst ek
        cases hp : p k
        · rfl
        · simp [hp] at e
    · intro a
      rw [h.mpr (fun k hk => a k (by omega)), a n (by omega)]
      rfl
theorem fb_ct_pos {p : Nat → Bool} {n : Nat} : 0 < fb_ct p n ↔ ∃ k, k < n ∧ p k = true := by
  constructor
  · intro h
    refine Classical.byContradiction fun hx => ?_
    have := fb_ct_zero.mpr (fun k hk => by
      cases hp : p k
      · rfl
      · exact absurd ⟨k, hk, hp⟩ hx : ∀ k, k < n → p k = false)
    omega
  · rintro ⟨k, hk, hp⟩
    rcases Nat.eq_zero_or_pos (fb_ct p n) with e | e
    · have := fb_ct_zero.mp e k hk
      rw [this] at hp
      cases hp
    · exact e
theorem fb_ct_all {p : Nat → Bool} {n : Nat} : fb_ct p n = n ↔ ∀ k, k < n → p k = true := by
  have h := fb_ct_not p n
  constructor
  · intro e k hk
    have z : fb_ct (fun k => !p k) n = 0 := by omega
    have := fb_ct_zero.mp z k hk
    cases hp : p k
    · simp [hp] at this
    · rfl
  · intro a
    have z : fb_ct (fun k => !p k) n = 0 := fb_ct_zero.mpr (fun k hk => by simp [a k hk])
    omega
/-- the k-th place with the property -/
theorem fb_ct_kth {p : Nat → Bool} {k : Nat} : ∀ {n : Nat}, k < fb_ct p n → ∃ i, i < n ∧ p i = true ∧ fb_ct p i = k
  | 0, h => absurd h (Nat.not_lt_zero k)
  | n + 1, h => by
    rcases Nat.lt_or_ge k (fb_ct p n) with q | q
    · obtain ⟨i, h1, h2⟩ := fb_ct_kth q
      exact ⟨i, by omega, h2⟩
    · rw [fb_ct_succ] at h
      cases hp : p n
      · simp [hp] at h; omega
      · simp [hp] at h
        exact ⟨n, by omega, hp, by omega⟩
theorem fb_ct_kth_one {p : Nat → Bool} {i j : Nat} (hi : p i = true) (hj : p j = true) (e : fb_ct p i = fb_ct p j) : i = j := by
  have key : ∀ a b : Nat, a < b → p a = true → fb_ct p a < fb_ct p b := by
    intro a b hab ha
    have h := fb_ct_mono p (show a + 1 ≤ b from hab)
    rw [fb_ct_succ, ha] at h
    simp at h
    omega
  rcases Nat.lt_trichotomy i j with q | q | q
  · have := key i j q hi; omega
  · exact q
  · have := key j i q hj; omega
/-! ===== sets of cards as numbers ===== -/
def M18 (x : Int32) : Prop := ∀ i, 18 ≤ i → bt x i = false
def cnt (x : Int32) : Nat := fb_ct (bt x) 18
def c32 (x : Int32) : Nat := fb_ct (bt x) 32
theorem b_not (x : Int32) {i : Nat} (hi : i < 32) : bt (x ^^^ (-1 : Int32)) i = !bt x i := by rw [b_xor, b_m1 i hi]; cases bt x i <;> rfl
theorem m18_0 : M18 0 := fun i _ => b_0 i
theorem m18_and {x y : Int32} (h : M18 x) : M18 (x &&& y) := fun i hi => by rw [b_and, h i hi]; rfl
theorem m18_and' {x y : Int32} (h : M18 y) : M18 (x &&& y) := fun i hi => by rw [b_and, h i hi, Bool.and_false]
theorem m18_or {x y : Int32} (h : M18 x) (h2 : M18 y) : M18 (x ||| y) := fun i hi => by rw [b_or, h i hi, h2 i hi]; rfl
theorem m18_dec {x : Int32} (h : ∀ i, i < 32 → 18 ≤ i → bt x i = false) : M18 x := fun i hi => by
  rcases Nat.lt_or_ge i 32 with q | q
  · exact h i q hi
  · exact b_big q
theorem m18_all : M18 262143 := m18_dec (by decide +kernel)
theorem b_all : ∀ i, i < 18 → bt 262143 i = true := by decide +kernel
theorem m18_ext {x y : Int32} (hx : M18 x) (hy : M18 y) (h : ∀ i, i < 18 → bt x i = bt y i) : x = y := b_ext fun i _ => by
  rcases Nat.lt_or_ge i 18 with q | q
  · exact h i q
  · rw [hx i q, hy i q]
theorem m18_z {x : Int32} (hx : M18 x) : x = 0 ↔ ∀ i, i < 18 → bt x i = false := ⟨fun e i _ => by rw [e]; exact b_0 i, fun h => m18_ext hx m18_0 fun i hi => by rw [h i hi, b_0]⟩
theorem m18_nz {x : Int32} (hx : M18 x) : ¬ x = 0 ↔ ∃ i, i < 18 ∧ bt x i = true := by
  rw [m18_z hx]
  constructor
  · intro h
    apply Classical.byContradiction
    intro hn
    exact h fun i hi => by
      cases e : bt x i with
      | false => rfl
      | true => exact absurd ⟨i, hi, e⟩ hn
  · rintro ⟨i, hi, e⟩ h
    rw [h i hi] at e
    cases e
theorem c32_18 {x : Int32} (h : M18 x) : c32 x = cnt x := by
  show fb_ct (bt x) (18 + 14) = _
  rw [fb_ct_split, (fb_ct_zero (p := fun k => bt x (18 + k))).mpr (fun k _ => h _ (by omega))]
  rfl
theorem cnt_le (x : Int32) : cnt x ≤ 18 := fb_ct_le _ _
/-- one card -/
theorem b_one (c : Nat) (hc : c < 18) {i : Nat} (hi : i < 32) : bt ((1 : Int32) <<< (nI c &&& 31)) i = decide (i = c) := by
  rw [b_shl c (by omega) 1 hi]
  have h1 : ∀ k, k < 32 → bt 1 k = decide (k = 0) := by decide +kernel
  rw [h1 _ (by omega)]
  rcases Nat.lt_trichotomy i c with q | q | q
  · simp [Nat.not_le.mpr q, show ¬ i = c by omega]
  · subst q; simp
  · simp [show c ≤ i by omega, show ¬ i - c = 0 by omega, show ¬ i = c by omega]
theorem m18_one (c : Nat) (hc : c < 18) : M18 ((1 : Int32) <<< (nI c &&& 31)) := m18_dec fun i hi h => by rw [b_one c hc hi]; exact decide_eq_false (by omega)
/-- the test of a card -/
theorem b_test {x : Int32} (hx : M18 x) {c : Nat} (hc : c < 18) : (x >>> (nI c &&& 31)) &&& 1 = if bt x c then 1 else 0 := by
  apply b_ext
  intro i hi
  rw [b_and, b_sshr c (by omega) x hi]
  have h1 : ∀ k, k < 32 → bt 1 k = decide (k = 0) := by decide +kernel
  rw [h1 i hi]
  rcases Nat.eq_zero_or_pos i with q | q
  · subst q
    rw [if_pos (by omega), Nat.add_zero]
    cases e : bt x c
    · simp [b_0]
    · simp [h1]
  · rw [decide_eq_false (by omega), Bool.and_false]
    cases bt x c
    · exact (b_0 i).symm
    · simp [h1 i hi, show ¬ i = 0 by omega]
theorem b_test0 {x : Int32} (hx : M18 x) {c : Nat} (hc : c < 18) : (x >>> (nI c &&& 31)) &&& 1 = 0 ↔ bt x c = false := by
  rw [b_test hx hc]
  cases bt x c <;> simp
theorem b_test1 {x : Int32} (hx : M18 x) {c : Nat} (hc : c < 18) : (x >>> (nI c &&& 31)) &&& 1 = 1 ↔ bt x c = true := by
  rw [b_test hx hc]
  cases bt x c <;> simp
theorem b_kind : ∀ k, k < 3 → ∀ i, i < 32 → bt ((63 : Int32) <<< ((nI k * 6) &&& 31)) i = decide (i / 6 = k) := by decide +kernel
theorem b_kind2 : ∀ k, k < 3 → ∀ i, i < 32 → bt ((63 : Int32) <<< ((6 * nI k) &&& 31)) i = decide (i / 6 = k) := by decide +kernel
/-! ===== how many: the reference's way ===== -/
theorem low_out : ∀ (w n : Nat), 0 < n → n < 2 ^ w → fb_ct (fun k => (n &&& (n - 1)).testBit k) w + 1 = fb_ct (fun k => n.testBit k) w := by
  intro w
  induction w with
  | zero => intro n h1 h2; omega
  | succ w ih =>
    intro n h1 h2
    rw [Nat.add_comm w 1, fb_ct_split, fb_ct_split]
    have hs : ∀ m : Nat, (fun k => m.testBit (1 + k)) = fun k => (m / 2).testBit k := fun m => by
      funext k
      rw [Nat.add_comm, Nat.testBit_succ]
    rw [hs, hs]
    have e0 : ∀ m : Nat, fb_ct (fun k => m.testBit k) 1 = m % 2 := fun m => by
      rw [show (1 : Nat) = 0 + 1 from rfl, fb_ct_succ]
      show 0 + _ = _
      rw [Nat.testBit_zero]
      rcases Nat.mod_two_eq_zero_or_one m with q | q <;> simp [q]
    rw [e0, e0]
    have ed : (n &&& (n - 1)) / 2 = (n / 2) &&& ((n - 1) / 2) := Nat.and_div_two
    rw [ed]
    have hm : (n &&& (n - 1)) % 2 = 0 := by
      have h : (n &&& (n - 1)).testBit 0 = false := by
        rw [Nat.testBit_and, Nat.testBit_zero, Nat.testBit_zero]
        by_cases q : n % 2 = 1
        · have q2 : ¬ (n - 1) % 2 = 1 := by omega
          rw [decide_eq_false q2, Bool.and_false]
        · rw [decide_eq_false q]
          rfl
      rw [Nat.testBit_zero] at h
      have h2 := of_decide_eq_false h
      rcases Nat.mod_two_eq_zero_or_one (n &&& (n - 1)) with q | q
      · exact q
      · exact absurd q h2
    rw [hm]
    rcases Nat.mod_two_eq_zero_or_one n with q | q
    · have e1 : (n - 1) / 2 = n / 2 - 1 := by omega
      rw [e1, q]
      have := ih (n / 2) (by omega) (by omega)
      omega
    · have e1 : (n - 1) / 2 = n / 2 := by omega
      rw [e1, q, Nat.and_self]
      omega
theorem c32_low {x : Int32} (h : ¬ x = 0) : c32 (x &&& (x - 1)) + 1 = c32 x := by
  have hn : 0 < x.toBitVec.toNat := by
    rcases Nat.eq_zero_or_pos x.toBitVec.toNat with q | q
    · exact absurd (Int32.toBitVec_inj.mp (BitVec.eq_of_toNat_eq (y := (0 : Int32).toBitVec) q)) h
    · exact q
  have hl : x.toBitVec.toNat < 2 ^ 32 := x.toBitVec.isLt
  have e : (x - 1).toBitVec.toNat = x.toBitVec.toNat - 1 := by
    rw [Int32.toBitVec_sub, BitVec.toNat_sub]
    show (2 ^ 32 - 1 + x.toBitVec.toNat) % 2 ^ 32 = _
    omega
  have := low_out 32 x.toBitVec.toNat hn hl
  have e2 : ∀ k, bt (x &&& (x - 1)) k = (x.toBitVec.toNat &&& (x.toBitVec.toNat - 1)).testBit k := fun k => by
    rw [b_and, Nat.testBit_and, ← e]
    rfl
  unfold c32
  rw [fb_ct_cong (fun k _ => e2 k)]
  exact this
theorem fu_big : 1300 < FU := by decide
/-! ===== how many: java.lang.Integer's way ===== -/
theorem nx_and (a b : Nat) : nI a &&& nI b = nI (a &&& b) := by
  apply Int32.toBitVec_inj.1
  show BitVec.ofNat 32 a &&& BitVec.ofNat 32 b = BitVec.ofNat 32 (a &&& b)
  apply BitVec.eq_of_getLsbD_eq
  intro i hi
  simp [hi]
def sw (n : Nat) : Nat :=
  (fun e => (e + e / 65536) &&& 63) ((fun d => d + d / 256) ((fun b => (b + b / 16) &&& 252645135) ((fun a => (a &&& 858993459) + ((a / 4) &&& 858993459)) (n - ((n / 2) &&& 1431655765)))))
def chk : Nat → Nat → Nat → Bool
  | 0, b, k => Nat.beq (sw b) k
  | d + 1, b, k => chk d b k && chk d (b + 2 ^ d) (k + 1)
theorem chk_ok : ∀ (d b k : Nat), chk d b k = true → ∀ m, m < 2 ^ d → sw (b + m) = k + fb_ct (fun i => m.testBit i) d := by
  intro d
  induction d with
  | zero =>
    intro b k h m hm
    have : m = 0 := by omega
    subst this
    exact Nat.eq_of_beq_eq_true h
  | succ d ih =>
    intro b k h m hm
    unfold chk at h
    rw [Bool.and_eq_true] at h
    rw [fb_ct_succ]
    rcases Nat.lt_or_ge m (2 ^ d) with q | q
    · rw [ih b k h.1 m q, Nat.testBit_lt_two_pow q]
      rfl
    · obtain ⟨r, rfl⟩ : ∃ r, m = 2 ^ d + r := ⟨m - 2 ^ d, by omega⟩
      have hr : r < 2 ^ d := by rw [Nat.pow_succ] at hm; omega
      have := ih (b + 2 ^ d) (k + 1) h.2 r hr
      rw [← Nat.add_assoc, this, Nat.testBit_two_pow_add_eq, Nat.testBit_lt_two_pow hr]
      rw [fb_ct_cong (p := fun i => (2 ^ d + r).testBit i) (q := fun i => r.testBit i) (fun i hi => Nat.testBit_two_pow_add_gt hi r)]
      show k + 1 + _ = k + (_ + 1)
      omega

