/-! ===== sheets that change: facts added, dropped, copied, recorded, taken back ===== -/
abbrev F5t : Type := Nat × Nat × Nat × Nat × Nat
def inG (f : F5t) (c : Nat) : Bool := decide (c = f.2.2.1) || (decide (f.1 ≠ 0) && (decide (c = f.2.2.2.1) || decide (c = f.2.2.2.2)))
def FAt (k o c : Int32) (f : F5t) : Prop := k = nI f.1 ∧ o = nI f.2.1 ∧ M18 c ∧ ∀ x, x < 18 → bt c x = inG f x
def ZAt (g : Nat → Int32) (f : F5t) : Prop := g 0 = nI f.1 ∧ (f.1 < 3 → g 1 = nI f.2.1) ∧ (f.1 = 3 → g 1 = -6) ∧ g 2 = nI f.2.2.1 ∧ (f.1 = 0 → g 3 = -6 ∧ g 4 = -6) ∧ (f.1 ≠ 0 → g 3 = nI f.2.2.2.1 ∧ g 4 = nI f.2.2.2.2)
theorem ZAt.cong {g g' : Nat → Int32} {f : F5t} (e : ∀ w, w < 5 → g w = g' w) (h : ZAt g f) : ZAt g' f := by
  unfold ZAt at h ⊢
  rw [← e 0 (by decide), ← e 1 (by decide), ← e 2 (by decide), ← e 3 (by decide), ← e 4 (by decide)]
  exact h
def FW (p : Nat) (f : F5t) : Prop := FOk p f.1 f.2.1 f.2.2.1 f.2.2.2.1 f.2.2.2.2
theorem rf_iff {pl to : Int32} {ks os cs : Nat → Int32} {a : Sh} : RF pl to ks os cs a ↔ (pl = nI (sp a) ∧ to = nI (sn a) ∧ ∀ i, i < sn a → FAt (ks i) (os i) (cs i) (a.2.2 i)) := Iff.rfl
theorem rz_iff {z : Nat → Int32} {a : Sh} : RZ z a ↔ (z 0 = nI (sp a) ∧ z 1 = nI (sn a) ∧ ∀ i, i < sn a → ZAt (fun w => z (2 + 5 * i + w)) (a.2.2 i)) := Iff.rfl
theorem wf_iff {a : Sh} : WF a ↔ (2 ≤ sp a ∧ sp a ≤ 5 ∧ sn a ≤ 41 ∧ ∀ i, i < sn a → FW (sp a) (a.2.2 i)) := Iff.rfl
def shAdd (a : Sh) (f : F5t) : Sh := (a.1, a.2.1 + 1, fun i => if i = a.2.1 then f else a.2.2 i)
def shDrop (a : Sh) (j : Nat) : Sh := (a.1, a.2.1 - 1, fun i => if i < j then a.2.2 i else a.2.2 (i + 1))
def shNew (p : Nat) : Sh := (p, 0, fun _ => (0, 0, 0, 0, 0))
theorem sa_lt {a : Sh} {f : F5t} {i : Nat} (h : i < sn a) : (shAdd a f).2.2 i = a.2.2 i := if_neg (Nat.ne_of_lt h)
theorem sa_at {a : Sh} {f : F5t} : (shAdd a f).2.2 (sn a) = f := if_pos rfl
theorem wf_add {a : Sh} (hw : WF a) (h : sn a ≤ 40) {f : F5t} (hf : FW (sp a) f) : WF (shAdd a f) := by
  refine wf_iff.mpr ⟨hw.1, hw.2.1, by show sn a + 1 ≤ 41; omega, fun i hi => ?_⟩
  show FW (sp a) _
  rcases Nat.lt_or_ge i (sn a) with u | u
  · rw [sa_lt u]; exact (wf_iff.mp hw).2.2.2 i u
  · have : i = sn a := Nat.le_antisymm (Nat.le_of_lt_succ hi) u
    rw [this, sa_at]; exact hf
theorem wf_drop {a : Sh} (hw : WF a) (j : Nat) : WF (shDrop a j) := by
  refine wf_iff.mpr ⟨hw.1, hw.2.1, by have := hw.2.2.1; show sn a - 1 ≤ 41; omega, fun i hi => ?_⟩
  have hi' : i < sn a - 1 := hi
  show FW (sp a) (if i < j then a.2.2 i else a.2.2 (i + 1))
  split
  · exact (wf_iff.mp hw).2.2.2 i (by omega)
  · exact (wf_iff.mp hw).2.2.2 (i + 1) (by omega)
theorem le_add (a : Sh) (f : F5t) : le a (shAdd a f) := ⟨rfl, fun j h => ⟨j, Nat.lt_succ_of_lt h, (sa_lt h).symm⟩⟩
theorem rf_add {a : Sh} {pl to : Int32} {ks os cs : Nat → Int32} (hf : RF pl to ks os cs a) (h : sn a ≤ 40) {f : F5t} {k o c : Int32} (q : FAt k o c f) : ∃ to' ks' os' cs', f_X0_add to ks os cs k o c = some (to', ks', os', cs') ∧ RF pl to' ks' os' cs' (shAdd a f) := by
  obtain ⟨h1, h2, h3⟩ := rf_iff.mp hf
  unfold f_X0_add
  rw [h2, if_neg (show ¬ (41 : Int32) ≤ nI (sn a) from nle (a := 41) (by decide) (by omega) (by omega))]
  have g : ∀ {α : Type} {k : Option α}, gd (nI (sn a)) 41 k = k := gd_r (vp_in_nI (n := sn a) (by omega) (by decide))
  unfold lt'
  dsimp only
  rw [g, g, g, i_cl (by omega), nI_1]
  refine ⟨_, _, _, _, rfl, rf_iff.mpr ⟨h1, rfl, fun i hi => ?_⟩⟩
  rcases Nat.lt_or_ge i (sn a) with u | u
  · rw [sa_lt u, pk_un (by omega), pk_un (by omega), pk_un (by omega)]
    exact h3 i u
  · have : i = sn a := Nat.le_antisymm (Nat.le_of_lt_succ hi) u
    rw [this, sa_at, pk_us, pk_us, pk_us]
    exact q
/-- a row in which the places from b to k have what is d places further on -/
def shf {α : Type} (d b k : Nat) (z : Nat → α) : Nat → α := fun i => if b ≤ i ∧ i < k then z (i + d) else z i
theorem shf_0 {α : Type} (d b : Nat) (z : Nat → α) : shf d b b z = z := funext fun i => if_neg (by omega)
theorem shf_step {d b k : Nat} (hd : 0 < d) (h : b ≤ k) (z : Nat → Int32) : upd (shf d b k z) k (shf d b k z (k + d)) = shf d b (k + 1) z := by
  funext i
  rcases Nat.decEq i k with e | e
  · rw [pk_un e]
    unfold shf
    rcases Classical.em (b ≤ i ∧ i < k) with u | u
    · rw [if_pos u, if_pos ⟨u.1, by omega⟩]
    · rw [if_neg u, if_neg (by omega)]
  · rw [e, pk_us]
    unfold shf
    rw [if_neg (by omega), if_pos ⟨h, by omega⟩]
/-- a row in which the places b to b + k have the first k of z -/
def cp (b k : Nat) (z p : Nat → Int32) : Nat → Int32 := fun i => if b ≤ i ∧ i < b + k then z (i - b) else p i
theorem cp_0 (b : Nat) (z p : Nat → Int32) : cp b 0 z p = p := funext fun i => if_neg (by omega)
theorem cp_step {b k : Nat} (z p : Nat → Int32) : upd (cp b k z p) (b + k) (z k) = cp b (k + 1) z p := by
  funext i
  rcases Nat.decEq i (b + k) with e | e
  · rw [pk_un e]
    unfold cp
    rcases Classical.em (b ≤ i ∧ i < b + k) with u | u
    · rw [if_pos u, if_pos ⟨u.1, by omega⟩]
    · rw [if_neg u, if_neg (by omega)]
  · rw [e, pk_us]
    unfold cp
    rw [if_pos ⟨by omega, by omega⟩, Nat.add_sub_cancel_left]
theorem cp_in {b k i : Nat} (z p : Nat → Int32) (h : i < k) : cp b k z p (b + i) = z i := by
  unfold cp
  rw [if_pos ⟨by omega, by omega⟩, Nat.add_sub_cancel_left]
theorem cp_out {b k i : Nat} (z p : Nat → Int32) (h : i < b ∨ b + k ≤ i) : cp b k z p i = p i := if_neg (by omega)
theorem cpy_in {f g : Nat → Int32} {n k : Nat} (h : k < n) : va_cpy f g 0 0 n k = f k := by
  unfold va_cpy
  rw [if_pos ⟨Nat.zero_le _, by omega⟩, Nat.zero_add, Nat.sub_zero]
theorem rf_remove {a : Sh} {pl to : Int32} {ks os cs : Nat → Int32} (hf : RF pl to ks os cs a) (h : sn a ≤ 41) {j : Nat} (hj : j < sn a) : ∃ to' ks' os' cs', f_X0_remove to ks os cs (nI j) = some (to', ks', os', cs') ∧ RF pl to' ks' os' cs' (shDrop a j) := by
  obtain ⟨h1, h2, h3⟩ := rf_iff.mp hf
  have hh : f_X0_has to (nI j) = some 1 := by
    unfold f_X0_has
    rw [h2, if_neg (nI_pos (by omega)), if_neg (nle (by omega) (by omega) hj)]
  unfold f_X0_remove
  rw [ob1_r hh, if_neg (by decide)]
  unfold lt'
  dsimp only
  rw [h2, show nI (sn a) - (1 : Int32) = nI (sn a - 1) from pk_sub (b := 1) (by omega)]
  have hl := loop (S := Int32 × (Nat → Int32) × (Nat → Int32) × (Nat → Int32)) (F := fun f s => lo4 (f_X0_remove_L21 (nI (sn a - 1))) f s.1 s.2.1 s.2.2.1 s.2.2.2) (B := fun rec s => f_X0_remove_L21 (nI (sn a - 1)) (fun x y u v => rec (x, y, u, v)) s.1 s.2.1 s.2.2.1 s.2.2.2) (fun _ _ => rfl) (fun k s => s = (nI k, shf 1 j k ks, shf 1 j k os, shf 1 j k cs) ∧ j ≤ k) (fun r => r = (nI (sn a - 1), shf 1 j (sn a - 1) ks, shf 1 j (sn a - 1) os, shf 1 j (sn a - 1) cs)) (sn a - 1) (by
    rintro k s hk ⟨rfl, hjk⟩ rec
    have g : ∀ {α : Type} {k' : Option α}, gd (nI k) 41 k' = k' := gd_r (vp_in_nI (n := k) (by omega) (by decide))
    have g' : ∀ {α : Type} {k' : Option α}, gd (nI (k + 1)) 41 k' = k' := gd_r (vp_in_nI (n := k + 1) (by omega) (by decide))
    (try dsimp only)
    rw [f_X0_remove_L21, if_neg (nle (by omega) (by omega) hk), nI_1]
    unfold lt'
    dsimp only
    rw [g', g, g', g, g', g, i_cl (by omega), i_cl (by omega), shf_step (by omega) hjk, shf_step (by omega) hjk, shf_step (by omega) hjk]
    exact Or.inr ⟨(nI (k + 1), shf 1 j (k + 1) ks, shf 1 j (k + 1) os, shf 1 j (k + 1) cs), rfl, rfl, by omega⟩) (by
    rintro s ⟨rfl, hjk⟩ rec
    (try dsimp only)
    rw [f_X0_remove_L21, if_pos (nI_le (Nat.le_refl _) (by omega))]
    exact ⟨_, rfl, rfl⟩) (sn a - 1 - j) j FU (nI j, ks, os, cs) (by omega) (by have := fu_big; omega) ⟨by rw [shf_0, shf_0, shf_0], Nat.le_refl _⟩
  obtain ⟨r, e, rfl⟩ := hl
  refine ⟨_, _, _, _, e, rf_iff.mpr ⟨h1, rfl, fun i hi => ?_⟩⟩
  have hi' : i < sn a - 1 := hi
  show FAt _ _ _ (if i < j then a.2.2 i else a.2.2 (i + 1))
  unfold shf
  rcases Nat.lt_or_ge i j with u | u
  · rw [if_pos u, if_neg (by omega), if_neg (by omega), if_neg (by omega)]
    exact h3 i (by omega)
  · rw [if_neg (show ¬ i < j by omega), if_pos ⟨u, hi'⟩, if_pos ⟨u, hi'⟩, if_pos ⟨u, hi'⟩]
    exact h3 (i + 1) (by omega)
theorem rf_copy {a : Sh} {pl to pl0 to0 : Int32} {ks os cs ks0 os0 cs0 : Nat → Int32} (hf : RF pl to ks os cs a) (h : sn a ≤ 41) : ∃ ks' os' cs', f_X0_copy pl0 to0 ks0 os0 cs0 pl to ks os cs = some (pl, to, ks', os', cs') ∧ RF pl to ks' os' cs' a := by
  obtain ⟨h1, h2, h3⟩ := rf_iff.mp hf
  refine ⟨_, _, _, rfl, rf_iff.mpr ⟨h1, h2, fun i hi => ?_⟩⟩
  rw [cpy_in (by omega), cpy_in (by omega), cpy_in (by omega)]
  exact h3 i hi
/-! the reference's row -/
theorem rz_cong {a : Sh} {z z' : Nat → Int32} (h : sn a ≤ 41) (e : ∀ i, i < 207 → z i = z' i) (hz : RZ z a) : RZ z' a := by
  obtain ⟨h1, h2, h3⟩ := rz_iff.mp hz
  exact rz_iff.mpr ⟨by rw [← e 0 (by decide)]; exact h1, by rw [← e 1 (by decide)]; exact h2, fun i hi => ZAt.cong (fun w hw => e (2 + 5 * i + w) (by omega)) (h3 i hi)⟩
/-! ===== the sheets before, the saved ones ===== -/
abbrev StT : Type := Int32 × Int32 × (Nat → Int32) × (Nat → Int32) × (Nat → Int32)
def RFt (t : StT) (a : Sh) : Prop := RF t.1 t.2.1 t.2.2.1 t.2.2.2.1 t.2.2.2.2 a
def HR (len : Int32) (st : Nat → StT) (past : Nat → Int32) (pm : Int32) (n : Nat) (L : Nat → Sh) : Prop := len = nI n ∧ pm = nI n ∧ n ≤ 6 ∧ ∀ i, i < n → WF (L i) ∧ sn (L i) ≤ 40 ∧ RFt (st i) (L i) ∧ RZ (fun k => past (207 * i + k)) (L i)
theorem i207 (n i : Nat) : (nI n * (207 : Int32)) + nI i = nI (207 * n + i) := by rw [show nI n * (207 : Int32) = nI (n * 207) from pk_mul n 207, nI_add, Nat.mul_comm]
def hisL (n : Nat) (L : Nat → Sh) (a : Sh) : Nat → Sh := if n = 6 then (fun i => if i = 5 then a else L (i + 1)) else (fun i => if i = n then a else L i)
def hisN (n : Nat) : Nat := if n = 6 then 6 else n + 1
theorem rec_st {a : Sh} {ad : Nat → Nat × Nat × Nat × Nat} {st : Nat → StT} {n : Nat} (hn : n < 6) {pl to : Int32} {ks os cs : Nat → Int32} (hf : RF pl to ks os cs a) (h : sn a ≤ 41) : ∃ t, f_X1_record_J13 pl to ks os cs ad (nI n) st = some (ad, nI (n + 1), va_up st n t) ∧ RFt t a := by
  unfold f_X1_record_J13
  rw [gd_r (vp_in_nI (n := n) hn (by decide)), i_cl (by omega)]
  obtain ⟨k', o', c', e, q⟩ := rf_copy (pl0 := (st n).1) (to0 := (st n).2.1) (ks0 := (st n).2.2.1) (os0 := (st n).2.2.2.1) (cs0 := (st n).2.2.2.2) hf h
  rw [ob5_r e, nI_1]
  exact ⟨_, rfl, q⟩
theorem lt_r {α β : Type} {x : α} {k : α → β} : lt' x k = k x := rfl
