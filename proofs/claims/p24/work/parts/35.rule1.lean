/-! ===== the reference's small reads ===== -/
theorem cl0 : (0 : Int32).toNatClampNeg = 0 := rfl
theorem cl1 : (1 : Int32).toNatClampNeg = 1 := rfl
theorem gd0 {α : Type} {n : Nat} {k : Option α} (h : 0 < n ∧ n < 2 ^ 31) : gd (0 : Int32) n k = k := gd_r (vp_in_nI (n := 0) h.1 h.2)
theorem gd1 {α : Type} {n : Nat} {k : Option α} (h : 1 < n ∧ n < 2 ^ 31) : gd (1 : Int32) n k = k := gd_r (vp_in_nI (n := 1) h.1 h.2)
theorem b_one' (c : Nat) (hc : c < 18) (i : Nat) : bt ((1 : Int32) <<< (nI c &&& 31)) i = decide (i = c) := by
  rcases Nat.lt_or_ge i 32 with h | h
  · exact b_one c hc h
  · rw [b_big h, decide_eq_false (by omega)]
/-! ===== rule 1 ===== -/
def r1y (a : Sh) (i : Nat) : Nat → Nat → Prop := fun o c => ∃ j, i ≤ j ∧ j < sn a ∧ kd a j = 0 ∧ ow a j = o ∧ c = ca a j
def r1n (a : Sh) (i : Nat) : Nat → Nat → Prop := fun o c => ∃ j, i ≤ j ∧ j < sn a ∧ kd a j = 1 ∧ ow a j = o ∧ inF a j c = true
