theorem chk_0 : chk 14 0 0 = true := by decide +kernel
theorem chk_1 : chk 14 16384 1 = true := by decide +kernel
theorem chk_2 : chk 14 32768 1 = true := by decide +kernel
theorem chk_3 : chk 14 49152 2 = true := by decide +kernel
theorem chk_4 : chk 14 65536 1 = true := by decide +kernel
theorem chk_5 : chk 14 81920 2 = true := by decide +kernel
theorem chk_6 : chk 14 98304 2 = true := by decide +kernel
theorem chk_7 : chk 14 114688 3 = true := by decide +kernel
theorem chk_8 : chk 14 131072 1 = true := by decide +kernel
theorem chk_9 : chk 14 147456 2 = true := by decide +kernel
theorem chk_10 : chk 14 163840 2 = true := by decide +kernel
theorem chk_11 : chk 14 180224 3 = true := by decide +kernel
theorem chk_12 : chk 14 196608 2 = true := by decide +kernel
theorem chk_13 : chk 14 212992 3 = true := by decide +kernel
theorem chk_14 : chk 14 229376 3 = true := by decide +kernel
theorem chk_15 : chk 14 245760 4 = true := by decide +kernel
theorem sw_ok {n : Nat} (h : n < 2 ^ 18) : sw n = fb_ct (fun i => n.testBit i) 18 := by
  have key : ∀ i, i < 16 → chk 14 (i * 2 ^ 14) (fb_ct (fun k => i.testBit k) 4) = true := by
    intro i hi
    match i, hi with
    | 0, _ => exact chk_0
    | 1, _ => exact chk_1
    | 2, _ => exact chk_2
    | 3, _ => exact chk_3
    | 4, _ => exact chk_4
    | 5, _ => exact chk_5
    | 6, _ => exact chk_6
    | 7, _ => exact chk_7
    | 8, _ => exact chk_8
    | 9, _ => exact chk_9
    | 10, _ => exact chk_10
    | 11, _ => exact chk_11
    | 12, _ => exact chk_12
    | 13, _ => exact chk_13
    | 14, _ => exact chk_14
    | 15, _ => exact chk_15
    | i + 16, hi => exact absurd hi (by omega)
  obtain ⟨i, m, hi, hm, rfl⟩ : ∃ i m, i < 16 ∧ m < 2 ^ 14 ∧ n = i * 2 ^ 14 + m := ⟨n / 2 ^ 14, n % 2 ^ 14, by omega, by omega, by omega⟩
  rw [chk_ok 14 _ _ (key i hi) m hm]
  show _ = fb_ct _ (14 + 4)
  rw [fb_ct_split, Nat.add_comm]
  have e1 : ∀ k, k < 14 → (i * 2 ^ 14 + m).testBit k = m.testBit k := fun k hk => by
    rw [Nat.mul_comm, Nat.testBit_two_pow_mul_add _ hm, if_pos hk]
  have e2 : ∀ k, (i * 2 ^ 14 + m).testBit (14 + k) = i.testBit k := fun k => by
    rw [Nat.mul_comm, Nat.testBit_two_pow_mul_add _ hm, if_neg (by omega), Nat.add_sub_cancel_left]
  rw [fb_ct_cong e1, fb_ct_cong (fun k _ => e2 k)]

