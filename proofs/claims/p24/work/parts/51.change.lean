/-! ===== the changes: tell (holds, answers, wrong), takeBack, begin, undo ===== -/
def CHG (a : Sh) (m : Nat) (L : Nat → Sh) (pl to : Int32) (ks os cs ys cy oy ns cn on : Nat → Int32) (rd len : Int32) (st : Nat → StT) (z past : Nat → Int32) (pm : Int32) : Prop := FR a pl to ks os cs z ∧ MR a ys cy oy ns cn on rd ∧ HR len st past pm m L
abbrev AdT : Type := Nat → Nat × Nat × Nat × Nat
theorem one_ne : ¬ (1 : Int32) = 0 := by decide
section
variable {a : Sh} {m : Nat} {L : Nat → Sh} {pl to : Int32} {ks os cs ys cy oy ns cn on : Nat → Int32} {rd len : Int32} {st : Nat → StT} {z past : Nat → Int32} {pm : Int32}
theorem tell_full (H : FR a pl to ks os cs z) (hn : ¬ sn a < 40) (k o c : Int32) (yr nr : Int32) (ad : AdT) : f_X5_tell pl to ks os cs ys cy oy yr ns cn on nr rd ad len st k o c = some (-4, to, ks, os, cs, ys, cy, oy, yr, ns, cn, on, nr, rd, ad, len, st) := by
  unfold f_X5_tell
  rw [if_neg (show ¬ to < (40 : Int32) from by rw [H.2.2.1.2.1]; exact nI_nlt (b := 40) (by omega) (by have := H.2.1; omega))]
theorem z1_40 (H : FR a pl to ks os cs z) : (z 1 = (40 : Int32)) ↔ ¬ sn a < 40 := by
  have h := H.2.1
  rw [H.2.2.2.2.1, show (40 : Int32) = nI 40 from rfl, i_eq (by omega) (by decide)]
  omega
theorem fw_h {p j c : Nat} (hj : j < p) (hc : c < 18) : FW p (0, j, c, 0, 0) := ⟨show (0 : Nat) < 4 by decide, fun _ => hj, fun h => absurd (show (0 : Nat) = 3 from h) (by decide), hc, fun h => absurd rfl h⟩
theorem fa_h {j c : Nat} (hc : c < 18) : FAt 0 (nI j) ((1 : Int32) <<< (nI c &&& 31)) (0, j, c, 0, 0) := ⟨rfl, rfl, m18_one c hc, fun x hx => by
  rw [b_one' c hc]
  unfold inG
  rw [show decide ((0 : Nat) ≠ 0) = false from rfl, Bool.false_and, Bool.or_false]⟩
theorem fw_3 {p k j x y w : Nat} (hk : 0 < k) (hk4 : k < 4) (hj : k < 3 → j < p) (hj5 : k = 3 → j = 5) (hx : x < 6) (hy : y < 6) (hw : w < 6) : FW p (k, j, x, 6 + y, 12 + w) := ⟨hk4, hj, hj5, by show x < 18; omega, fun _ => ⟨hx, by show 6 ≤ 6 + y; omega, by show 6 + y < 12; omega, by show 12 ≤ 12 + w; omega, by show 12 + w < 18; omega⟩⟩
noncomputable def th3 (x y w : Nat) : Int32 := (((1 : Int32) <<< (nI x &&& 31)) ||| ((1 : Int32) <<< (nI (6 + y) &&& 31))) ||| ((1 : Int32) <<< (nI (12 + w) &&& 31))
theorem th3_ok {x y w : Nat} : f_X5_three (nI x) (nI y) (nI w) = some (th3 x y w) := by
  unfold f_X5_three th3
  rw [show (6 : Int32) + nI y = nI (6 + y) from nI_add 6 y, show (12 : Int32) + nI w = nI (12 + w) from nI_add 12 w]
theorem th3_18 {x y w : Nat} (hx : x < 6) (hy : y < 6) (hw : w < 6) : M18 (th3 x y w) := m18_or (m18_or (m18_one _ (by omega)) (m18_one _ (by omega))) (m18_one _ (by omega))
theorem fa_3 {k j x y w : Nat} (hk : 0 < k) (hx : x < 6) (hy : y < 6) (hw : w < 6) : FAt (nI k) (nI j) (th3 x y w) (k, j, x, 6 + y, 12 + w) := ⟨rfl, rfl, th3_18 hx hy hw, fun i hi => by
  unfold th3
  rw [b_or, b_or, b_one' _ (by omega), b_one' _ (by omega), b_one' _ (by omega)]
  unfold inG
  rw [show decide (k ≠ 0) = true from decide_eq_true (by omega), Bool.true_and, Bool.or_assoc]⟩
end

