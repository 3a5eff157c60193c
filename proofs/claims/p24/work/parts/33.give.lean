/-! ===== choice of a proposition; places of rows ===== -/
noncomputable def ifp {α : Type} (P : Prop) (a b : α) : α := @ite _ P (Classical.propDecidable P) a b
theorem ifp_t {α : Type} {P : Prop} {a b : α} (h : P) : ifp P a b = a := by unfold ifp; exact if_pos h
theorem ifp_f {α : Type} {P : Prop} {a b : α} (h : ¬ P) : ifp P a b = b := by unfold ifp; exact if_neg h
theorem ifp_c {α : Type} {P P' : Prop} {a b : α} (h : P ↔ P') : ifp P a b = ifp P' a b := by rw [propext h]
noncomputable def pd (P : Prop) : Bool := ifp P true false
theorem pd_t {P : Prop} : pd P = true ↔ P := by
  unfold pd
  rcases Classical.em P with h | h
  · rw [ifp_t h]; exact ⟨fun _ => h, fun _ => rfl⟩
  · rw [ifp_f h]; exact ⟨fun e => Bool.noConfusion e, fun q => absurd q h⟩
theorem pd_f {P : Prop} : pd P = false ↔ ¬ P := by
  rw [← Bool.not_eq_true, pd_t]
theorem i_le {a b : Nat} (ha : a < 2 ^ 31) (hb : b < 2 ^ 31) : nI a ≤ nI b ↔ a ≤ b := nI_leI ha hb
theorem nle {a c : Nat} (ha : a < 2 ^ 31) (hc : c < 2 ^ 31) (h : c < a) : ¬ nI a ≤ nI c := fun q => by have := (nI_leI ha hc).mp q; omega
theorem i_lt {a b : Nat} (ha : a < 2 ^ 31) (hb : b < 2 ^ 31) : nI a < nI b ↔ a < b := nI_ltI ha hb
theorem i_eq {a b : Nat} (ha : a < 2 ^ 31) (hb : b < 2 ^ 31) : nI a = nI b ↔ a = b := nI_eq ha hb
theorem i_cl {a : Nat} (ha : a < 2 ^ 31) : (nI a).toNatClampNeg = a := nI_clamp ha
theorem i_at18 (o c : Nat) : (18 : Int32) * nI o + nI c = nI (18 * o + c) := by
  show nI 18 * nI o + nI c = _
  rw [pk_mul, nI_add]
theorem i_at18' (o c : Nat) : nI o * (18 : Int32) + nI c = nI (18 * o + c) := by
  show nI o * nI 18 + nI c = _
  rw [pk_mul, nI_add, Nat.mul_comm]
/-- a row of numbers, with v at the places of o for the cards of a set from c on -/
noncomputable def tab (f : Nat → Int32) (o : Nat) (x v : Int32) (c : Nat) : Nat → Int32 := fun j => ifp (18 * o + c ≤ j ∧ j < 18 * o + 18 ∧ bt x (j - 18 * o) = true) v (f j)
theorem tab_end {f : Nat → Int32} {o : Nat} {x v : Int32} : tab f o x v 18 = f := by
  funext j
  exact ifp_f (fun h => by omega)
theorem tab_none {f : Nat → Int32} {o c : Nat} {x v : Int32} (h : ∀ i, c ≤ i → i < 18 → bt x i = false) : tab f o x v c = f := by
  funext j
  refine ifp_f (fun q => ?_)
  have := h (j - 18 * o) (by omega) (by omega)
  rw [q.2.2] at this
  cases this
theorem tab_skip {f : Nat → Int32} {o c : Nat} {x v : Int32} (h : bt x c = false) : tab f o x v (c + 1) = tab f o x v c := by
  funext j
  refine ifp_c ⟨fun q => ⟨by omega, q.2⟩, fun q => ⟨?_, q.2⟩⟩
  rcases Nat.lt_or_ge (18 * o + c) j with z | z
  · omega
  · have e : j - 18 * o = c := by omega
    have := q.2.2
    rw [e, h] at this
    cases this
theorem tab_put {f : Nat → Int32} {o c : Nat} {x v : Int32} (hc : c < 18) (h : bt x c = true) : tab (upd f (18 * o + c) v) o x v (c + 1) = tab f o x v c := by
  funext j
  unfold tab
  rcases Nat.lt_trichotomy j (18 * o + c) with z | z | z
  · rw [ifp_f (by omega), ifp_f (by omega), pk_un (by omega)]
  · subst z
    rw [ifp_f (by omega), ifp_t ⟨by omega, by omega, by rw [Nat.add_sub_cancel_left]; exact h⟩, pk_us]
  · rw [pk_un (by omega)]
    exact ifp_c ⟨fun q => ⟨by omega, q.2⟩, fun q => ⟨by omega, q.2⟩⟩
theorem isIn_ok {x : Int32} (hx : M18 x) {c : Nat} (hc : c < 18) : f_X5_isIn x (nI c) = some (if bt x c = true then 1 else 0) := by
  unfold f_X5_isIn
  cases e : bt x c
  · rw [if_pos ((b_test0 hx hc).mpr e)]; rfl
  · rw [if_neg (fun q => by rw [(b_test0 hx hc).mp q] at e; cases e)]; rfl
theorem upd_or0 (f : Nat → Int32) (o : Nat) : upd f o (f o ||| 0) = f := by
  funext j
  rcases Nat.decEq j o with h | h
  · exact pk_un h
  · subst h
    rw [pk_us]
    exact b_ext fun i _ => by rw [b_or, b_0, Bool.or_false]
/-! ===== a set of marks is given: the reference ===== -/
/-! ===== a set of marks is given: the class ===== -/
theorem i_or8 {q r : Nat} (hq : q < 1000) (hr : r < 8) : (nI q <<< ((3 : Int32) &&& 31)) ||| nI r = nI (q * 8 + r) := by
  rw [pk_shlN (n := q) _ 3 rfl (by omega)]
  apply Int32.toBitVec_inj.1
  show BitVec.ofNat 32 (q * 2 ^ 3) ||| BitVec.ofNat 32 r = BitVec.ofNat 32 (q * 8 + r)
  rw [show q * 8 + r = q * 2 ^ 3 ||| r from by rw [Nat.mul_comm q (2 ^ 3), ← Nat.two_pow_add_eq_or_of_lt (show r < 2 ^ 3 from hr)]; omega]
  apply BitVec.eq_of_getLsbD_eq
  intro i hi
  simp [hi]
theorem add_go {k o r : Nat} {x : Int32} {cm : Nat → Int32} (ho : o < 6) (hx : M18 x) (hk : k < 1000) (hr : r < 8) : ∀ (d c fuel : Nat), c + d = 18 → d < fuel → ∀ (og : Nat → Int32),
    lo2 (f_X4_add_L52 (nI k) (nI o) (nI r) x cm) fuel (nI c) og = some (cm, tab og o x (nI (k * 8 + r)) c) := by
  intro d
  induction d with
  | zero =>
    intro c fuel h1 h2 og
    obtain ⟨f, rfl⟩ : ∃ f, fuel = f + 1 := ⟨fuel - 1, by omega⟩
    have hc : c = 18 := by omega
    subst hc
    show f_X4_add_L52 (nI k) (nI o) (nI r) x cm (lo2 _ f) (nI 18) og = _
    rw [f_X4_add_L52, if_pos (show (18 : Int32) ≤ nI 18 from by decide), tab_end]
  | succ d ih =>
    intro c fuel h1 h2 og
    obtain ⟨f, rfl⟩ : ∃ f, fuel = f + 1 := ⟨fuel - 1, by omega⟩
    have hc : c < 18 := by omega
    show f_X4_add_L52 (nI k) (nI o) (nI r) x cm (lo2 _ f) (nI c) og = _
    rw [f_X4_add_L52, if_neg (show ¬ (18 : Int32) ≤ nI c from nle (a := 18) (by decide) (by omega) hc), ob1_r (isIn_ok hx hc)]
    cases e : bt x c
    · rw [if_pos (by decide), nI_1, ih (c + 1) f (by omega) (by omega), tab_skip e]
    · rw [if_neg (by decide), i_at18', gd_r (vp_in_nI (by omega) (by decide)), i_cl (by omega)]
      show lo2 _ f (nI c + 1) (upd og (18 * o + c) _) = _
      rw [nI_1, ih (c + 1) f (by omega) (by omega), i_or8 hk hr, tab_put hc e]
theorem add_ok {st cm og : Nat → Int32} {k o r : Nat} {m : Int32} (ho : o < 6) (hm : M18 m) (hk : k < 1000) (hr : r < 8) : f_X4_add st cm og (nI k) (nI o) m (nI r) = some (upd cm o (cm o ||| ((m &&& (st o ^^^ (-1 : Int32))) &&& (cm o ^^^ (-1 : Int32)))), tab og o ((m &&& (st o ^^^ (-1 : Int32))) &&& (cm o ^^^ (-1 : Int32))) (nI (k * 8 + r)) 0) := by
  unfold f_X4_add
  rw [if_neg (nI_pos (by omega)), if_pos (show nI o < (6 : Int32) from (i_lt (b := 6) (by omega) (by decide)).mpr ho), gd_r (vp_in_nI ho (by decide)), gd_r (vp_in_nI ho (by decide)), i_cl (by omega)]
  unfold lt'
  dsimp only
  rcases Decidable.em (((m &&& (st o ^^^ (-1 : Int32))) &&& (cm o ^^^ (-1 : Int32))) = 0) with h0 | h0
  · rw [if_pos h0, h0, upd_or0, tab_none (fun i _ _ => b_0 i)]
  · rw [if_neg h0, gd_r (vp_in_nI ho (by decide)), gd_r (vp_in_nI ho (by decide))]
    exact add_go ho (m18_and (m18_and hm)) hk hr 18 0 FU rfl (by decide) og

