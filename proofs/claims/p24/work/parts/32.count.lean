theorem sw_ev {n : Nat} (h : n < 2 ^ 18) : f_J6_bitCount_0f7a4 (nI n) = some (nI (sw n)) := by
  unfold f_J6_bitCount_0f7a4 lt' sw
  have h1 : (n / 2) &&& 1431655765 ≤ n / 2 := Nat.and_le_left
  rw [pk_ushrN (n := n) (by omega) 1 1 rfl, show (1431655765 : Int32) = nI 1431655765 from rfl, nx_and, show n / 2 ^ 1 = n / 2 from rfl, pk_sub (by omega)]
  (try dsimp only)
  generalize ha : n - ((n / 2) &&& 1431655765) = a
  have h2 : a < 2 ^ 18 := by omega
  have h3 : a &&& 858993459 ≤ a := Nat.and_le_left
  have h4 : (a / 4) &&& 858993459 ≤ a / 4 := Nat.and_le_left
  rw [pk_ushrN (n := a) (by omega) 2 2 rfl, show (858993459 : Int32) = nI 858993459 from rfl, nx_and, nx_and, nI_add, show a / 2 ^ 2 = a / 4 from rfl]
  (try dsimp only)
  generalize hb : (a &&& 858993459) + ((a / 4) &&& 858993459) = b
  have h5 : b < 2 ^ 19 := by omega
  rw [pk_ushrN (n := b) (by omega) 4 4 rfl, nI_add, show (252645135 : Int32) = nI 252645135 from rfl, nx_and, show b / 2 ^ 4 = b / 16 from rfl]
  have h6 : (b + b / 16) &&& 252645135 ≤ b + b / 16 := Nat.and_le_left
  (try dsimp only)
  generalize hc : (b + b / 16) &&& 252645135 = d
  have h7 : d < 2 ^ 20 := by omega
  rw [pk_ushrN (n := d) (by omega) 8 8 rfl, nI_add, show d / 2 ^ 8 = d / 256 from rfl]
  (try dsimp only)
  generalize he : d + d / 256 = e
  have h8 : e < 2 ^ 21 := by omega
  rw [pk_ushrN (n := e) (by omega) 16 16 rfl, nI_add, show e / 2 ^ 16 = e / 65536 from rfl, show (63 : Int32) = nI 63 from rfl, nx_and]
theorem m18_nat {x : Int32} (h : M18 x) : ∃ n, n < 2 ^ 18 ∧ x = nI n ∧ ∀ i, bt x i = n.testBit i := by
  refine ⟨x.toBitVec.toNat, ?_, ?_, fun i => rfl⟩
  · apply Nat.lt_of_not_le
    intro hle
    obtain ⟨i, hi, e⟩ := Nat.exists_ge_and_testBit_of_ge_two_pow hle
    have := h i hi
    rw [show bt x i = x.toBitVec.toNat.testBit i from rfl, e] at this
    cases this
  · apply Int32.toBitVec_inj.mp
    show x.toBitVec = BitVec.ofNat 32 _
    rw [BitVec.ofNat_toNat, BitVec.setWidth_eq]
theorem count_18 {x : Int32} (h : M18 x) : f_J6_bitCount_0f7a4 x = some (nI (cnt x)) := by
  obtain ⟨n, h1, rfl, h3⟩ := m18_nat h
  rw [sw_ev h1, sw_ok h1]
  unfold cnt
  rw [fb_ct_cong (fun k _ => h3 k)]

