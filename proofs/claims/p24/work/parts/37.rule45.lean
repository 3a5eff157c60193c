/-! ===== rules 4 and 5, the reference ===== -/
def size (a : Sh) (o : Nat) : Nat := 15 / sp a + (if o < 15 % sp a then 1 else 0)
def hm (o κ : Nat) : Int32 := if o = 5 then (63 : Int32) <<< (((6 : Int32) * nI κ) &&& 31) else 262143
def hs (a : Sh) (o : Nat) : Nat := if o = 5 then 1 else size a o
theorem m18_kind {κ : Nat} (h : κ < 3) : M18 ((63 : Int32) <<< (((6 : Int32) * nI κ) &&& 31)) := m18_dec fun i hi h2 => by rw [b_kind2 κ h i hi]; exact decide_eq_false (by omega)
theorem hm_18 {o κ : Nat} (h : κ < 3) : M18 (hm o κ) := by
  unfold hm
  split
  · exact m18_kind h
  · exact m18_all
theorem size_le {a : Sh} (hw : WF a) (o : Nat) : size a o ≤ 16 := by
  unfold size
  have := Nat.div_le_self 15 (sp a)
  split <;> omega
def F4 (a : Sh) (yt : Nat → Int32) (o κ c : Nat) : Prop := bt (hm o κ) c = true ∧ hs a o ≤ cnt (yt o &&& hm o κ) ∧ bt (yt o) c = false
def F5 (a : Sh) (nt : Nat → Int32) (o κ c : Nat) : Prop := bt (hm o κ) c = true ∧ cnt (hm o κ &&& (nt o ^^^ (-1 : Int32))) ≤ hs a o ∧ bt (nt o) c = false
theorem b_andnot {m y : Int32} (hm : M18 m) (c : Nat) : bt (m &&& (y ^^^ (-1 : Int32))) c = (bt m c && !bt y c) := by
  rcases Nat.lt_or_ge c 18 with h | h
  · rw [b_and, b_not _ (by omega)]
  · rw [b_and, hm c h]
    rfl
