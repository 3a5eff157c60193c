/-! ===== sheets that change: facts added, dropped, copied, recorded, taken back ===== -/
abbrev F5t : Type := Nat × Nat × Nat × Nat × Nat
def inG (f : F5t) (c : Nat) : Bool := decide (c = f.2.2.1) || (decide (f.1 ≠ 0) && (decide (c = f.2.2.2.1) || decide (c = f.2.2.2.2)))
def FAt (k o c : Int32) (f : F5t) : Prop := k = nI f.1 ∧ o = nI f.2.1 ∧ M18 c ∧ ∀ x, x < 18 → bt c x = inG f x
def ZAt (g : Nat → Int32) (f : F5t) : Prop := g 0 = nI f.1 ∧ (f.1 < 3 → g 1 = nI f.2.1) ∧ (f.1 = 3 → g 1 = -6) ∧ g 2 = nI f.2.2.1 ∧ (f.1 = 0 → g 3 = -6 ∧ g 4 = -6) ∧ (f.1 ≠ 0 → g 3 = nI f.2.2.2.1 ∧ g 4 = nI f.2.2.2.2)
theorem ZAt.cong {g g' : Nat → Int32} {f : F5t} (e : ∀ w, w < 5 → g w = g' w) (h : ZAt g f) : ZAt g' f := by
  unfold ZAt at h ⊢
  rw [← e 0 (by decide), ← e 1 (by decide), ← e 2 (by decide), ← e 3 (by decide), ← e 4 (by decide)]
  exact h
def FW (p : Nat) (f : F5t) : Prop := FOk p f.1 f.2.1 f.2.2.1 f.2.2.2.1 f.2.2.2.2
theorem rf_iff {pl to : Int32} {ks os cs : Nat → Int32} {a : Sh} : RF pl to ks os cs a ↔ (pl = nI (sp a) ∧ to = nI (sn a) ∧ ∀ i, i < sn a → FAt (ks i) (os i) (cs i) (a.2.2 i)) := Iff.rfl
theorem rz_iff {z : Nat → Int32} {a : Sh} : RZ z a ↔ (z 0 = nI (sp a) ∧ z 1 = nI (sn a) ∧ ∀ i, i < sn a → ZAt (fun w => z (2 + 5 * i + w)) (a.2.2 i)) := Iff.rfl
theorem wf_iff {a : Sh} : WF a ↔ (2 ≤ sp a ∧ sp a ≤ 5 ∧ sn a ≤ 41 ∧ ∀ i, i < sn a → FW (sp a) (a.2.2 i)) := Iff.rfl
def shAdd (a : Sh) (f : F5t) : Sh := (a.1, a.2.1 + 1, fun i => if i = a.2.1 then f else a.2.2 i)
def shDrop (a : Sh) (j : Nat) : Sh := (a.1, a.2.1 - 1, fun i => if i < j then a.2.2 i else a.2.2 (i + 1))
def shNew (p : Nat) : Sh := (p, 0, fun _ => (0, 0, 0, 0, 0))
theorem sa_lt {a : Sh} {f : F5t} {i : Nat} (h : i < sn a) : (shAdd a f).2.2 i = a.2.2 i := if_neg (Nat.ne_of_lt h)
theorem sa_at {a : Sh} {f : F5t} : (shAdd a f).2.2 (sn a) = f := if_pos rfl
theorem wf_add {a : Sh} (hw : WF a) (h : sn a ≤ 40) {f : F5t} (hf : FW (sp a) f) : WF (shAdd a f) := by
  refine wf_iff.mpr ⟨hw.1, hw.2.1, by show sn a + 1 ≤ 41; omega, fun i hi => ?_⟩
  show FW (sp a) _
  rcases Nat.lt_or_ge i (sn a) with u | u
  · rw [sa_lt u]; exact (wf_iff.mp hw).2.2.2 i u
  · have : i = sn a := Nat.le_antisymm (Nat.le_of_lt_succ hi) u
    rw [this, sa_at]; exact hf
theorem wf_drop {a : Sh} (hw : WF a) (j : Nat) : WF (shDrop a j) := by
  refine wf_iff.mpr ⟨hw.1, hw.2.1, by have := hw.2.2.1; show sn a - 1 ≤ 41; omega, fun i hi => ?_⟩
  have hi' : i < sn a - 1 := hi
  show FW (sp a) (if i < j then a.2.2 i else a.2.2 (i + 1))
  split
  · exact (wf_iff.mp hw).2.2.2 i (by omega)
  · exact (wf_iff.mp hw).2.2.2 (i + 1) (by omega)
theorem le_add (a : Sh) (f : F5t) : le a (shAdd a f) := ⟨rfl, fun j h => ⟨j, Nat.lt_succ_of_lt h, (sa_lt h).symm⟩⟩
theorem rf_add {a : Sh} {pl to : Int32} {ks os cs : Nat → Int32} (hf : RF pl to ks os cs a) (h : sn a ≤ 40) {f : F5t} {k o c : Int32} (q : FAt k o c f) : ∃ to' ks' os' cs', f_X0_add to ks os cs k o c = some (to', ks', os', cs') ∧ RF pl to' ks' os' cs' (shAdd a f) := by
  obtain ⟨h1, h2, h3⟩ := rf_iff.mp hf
  unfold f_X0_add
  rw [h2, if_neg (show ¬ (41 : Int32) ≤ nI (sn a) from nle (a := 41) (by decide) (by omega) (by omega))]
  have g : ∀ {α : Type} {k : Option α}, gd (nI (sn a)) 41 k = k := gd_r (vp_in_nI (n := sn a) (by omega) (by decide))
  unfold lt'
  dsimp only
  rw [g, g, g, i_cl (by omega), nI_1]
  refine ⟨_, _, _, _, rfl, rf_iff.mpr ⟨h1, rfl, fun i hi => ?_⟩⟩
  rcases Nat.lt_or_ge i (sn a) with u | u
  · rw [sa_lt u, pk_un (by omega), pk_un (by omega), pk_un (by omega)]
    exact h3 i u
  · have : i = sn a := Nat.le_antisymm (Nat.le_of_lt_succ hi) u
    rw [this, sa_at, pk_us, pk_us, pk_us]
    exact q
/-- a row in which the places from b to k have what is d places further on -/
def shf {α : Type} (d b k : Nat) (z : Nat → α) : Nat → α := fun i => if b ≤ i ∧ i < k then z (i + d) else z i
theorem shf_0 {α : Type} (d b : Nat) (z : Nat → α) : shf d b b z = z := funext fun i => if_neg (by omega)
theorem shf_step {d b k : Nat} (hd : 0 < d) (h : b ≤ k) (z : Nat → Int32) : upd (shf d b k z) k (shf d b k z (k + d)) = shf d b (k + 1) z := by
  funext i
  rcases Nat.decEq i k with e | e
  · rw [pk_un e]
    unfold shf
    rcases Classical.em (b ≤ i ∧ i < k) with u | u
    · rw [if_pos u, if_pos ⟨u.1, by omega⟩]
    · rw [if_neg u, if_neg (by omega)]
  · rw [e, pk_us]
    unfold shf
    rw [if_neg (by omega), if_pos ⟨h, by omega⟩]
/-- a row in which the places b to b + k have the first k of z -/
def cp (b k : Nat) (z p : Nat → Int32) : Nat → Int32 := fun i => if b ≤ i ∧ i < b + k then z (i - b) else p i
theorem cp_0 (b : Nat) (z p : Nat → Int32) : cp b 0 z p = p := funext fun i => if_neg (by omega)
theorem cp_step {b k : Nat} (z p : Nat → Int32) : upd (cp b k z p) (b + k) (z k) = cp b (k + 1) z p := by
  funext i
  rcases Nat.decEq i (b + k) with e | e
  · rw [pk_un e]
    unfold cp
    rcases Classical.em (b ≤ i ∧ i < b + k) with u | u
    · rw [if_pos u, if_pos ⟨u.1, by omega⟩]
    · rw [if_neg u, if_neg (by omega)]
  · rw [e, pk_us]
    unfold cp
    rw [if_pos ⟨by omega, by omega⟩, Nat.add_sub_cancel_left]
theorem cp_in {b k i : Nat} (z p : Nat → Int32) (h : i < k) : cp b k z p (b + i) = z i := by
  unfold cp
  rw [if_pos ⟨by omega, by omega⟩, Nat.add_sub_cancel_left]
theorem cp_out {b k i : Nat} (z p : Nat → Int32) (h : i < b ∨ b + k ≤ i) : cp b k z p i = p i := if_neg (by omega)
theorem cpy_in {f g : Nat → Int32} {n k : Nat} (h : k < n) : va_cpy f g 0 0 n k = f k := by
  unfold va_cpy
  rw [if_pos ⟨Nat.zero_le _, by omega⟩, Nat.zero_add, Nat.sub_zero]
theorem rf_remove {a : Sh} {pl to : Int32} {ks os cs : Nat → Int32} (hf : RF pl to ks os cs a) (h : sn a ≤ 41) {j : Nat} (hj : j < sn a) : ∃ to' ks' os' cs', f_X0_remove to ks os cs (nI j) = some (to', ks', os', cs') ∧ RF pl to' ks' os' cs' (shDrop a j) := by
  obtain ⟨h1, h2, h3⟩ := rf_iff.mp hf
  have hh : f_X0_has to (nI j) = some 1 := by
    unfold f_X0_has
    rw [h2, if_neg (nI_pos (by omega)), if_neg (nle (by omega) (by omega) hj)]
  unfold f_X0_remove
  rw [ob1_r hh, if_neg (by decide)]
  unfold lt'
  dsimp only
  rw [h2, show nI (sn a) - (1 : Int32) = nI (sn a - 1) from pk_sub (b := 1) (by omega)]
  have hl := loop (S := Int32 × (Nat → Int32) × (Nat → Int32) × (Nat → Int32)) (F := fun f s => lo4 (f_X0_remove_L21 (nI (sn a - 1))) f s.1 s.2.1 s.2.2.1 s.2.2.2) (B := fun rec s => f_X0_remove_L21 (nI (sn a - 1)) (fun x y u v => rec (x, y, u, v)) s.1 s.2.1 s.2.2.1 s.2.2.2) (fun _ _ => rfl) (fun k s => s = (nI k, shf 1 j k ks, shf 1 j k os, shf 1 j k cs) ∧ j ≤ k) (fun r => r = (nI (sn a - 1), shf 1 j (sn a - 1) ks, shf 1 j (sn a - 1) os, shf 1 j (sn a - 1) cs)) (sn a - 1) (by
    rintro k s hk ⟨rfl, hjk⟩ rec
    have g : ∀ {α : Type} {k' : Option α}, gd (nI k) 41 k' = k' := gd_r (vp_in_nI (n := k) (by omega) (by decide))
    have g' : ∀ {α : Type} {k' : Option α}, gd (nI (k + 1)) 41 k' = k' := gd_r (vp_in_nI (n := k + 1) (by omega) (by decide))
    (try dsimp only)
    rw [f_X0_remove_L21, if_neg (nle (by omega) (by omega) hk), nI_1]
    unfold lt'
    dsimp only
    rw [g', g, g', g, g', g, i_cl (by omega), i_cl (by omega), shf_step (by omega) hjk, shf_step (by omega) hjk, shf_step (by omega) hjk]
    exact Or.inr ⟨(nI (k + 1), shf 1 j (k + 1) ks, shf 1 j (k + 1) os, shf 1 j (k + 1) cs), rfl, rfl, by omega⟩) (by
    rintro s ⟨rfl, hjk⟩ rec
    (try dsimp only)
    rw [f_X0_remove_L21, if_pos (nI_le (Nat.le_refl _) (by omega))]
    exact ⟨_, rfl, rfl⟩) (sn a - 1 - j) j FU (nI j, ks, os, cs) (by omega) (by have := fu_big; omega) ⟨by rw [shf_0, shf_0, shf_0], Nat.le_refl _⟩
  obtain ⟨r, e, rfl⟩ := hl
  refine ⟨_, _, _, _, e, rf_iff.mpr ⟨h1, rfl, fun i hi => ?_⟩⟩
  have hi' : i < sn a - 1 := hi
  show FAt _ _ _ (if i < j then a.2.2 i else a.2.2 (i + 1))
  unfold shf
  rcases Nat.lt_or_ge i j with u | u
  · rw [if_pos u, if_neg (by omega), if_neg (by omega), if_neg (by omega)]
    exact h3 i (by omega)
  · rw [if_neg (show ¬ i < j by omega), if_pos ⟨u, hi'⟩, if_pos ⟨u, hi'⟩, if_pos ⟨u, hi'⟩]
    exact h3 (i + 1) (by omega)
theorem rf_copy {a : Sh} {pl to pl0 to0 : Int32} {ks os cs ks0 os0 cs0 : Nat → Int32} (hf : RF pl to ks os cs a) (h : sn a ≤ 41) : ∃ ks' os' cs', f_X0_copy pl0 to0 ks0 os0 cs0 pl to ks os cs = some (pl, to, ks', os', cs') ∧ RF pl to ks' os' cs' a := by
  obtain ⟨h1, h2, h3⟩ := rf_iff.mp hf
  refine ⟨_, _, _, rfl, rf_iff.mpr ⟨h1, h2, fun i hi => ?_⟩⟩
  rw [cpy_in (by omega), cpy_in (by omega), cpy_in (by omega)]
  exact h3 i hi
/-! the reference's row -/
theorem rz_add {a : Sh} {z : Nat → Int32} (hz : RZ z a) (h : sn a ≤ 40) {f : F5t} {k o x y w : Int32} (q : k = nI f.1 ∧ (f.1 < 3 → o = nI f.2.1) ∧ (f.1 = 3 → o = -6) ∧ x = nI f.2.2.1 ∧ (f.1 = 0 → y = -6 ∧ w = -6) ∧ (f.1 ≠ 0 → y = nI f.2.2.2.1 ∧ w = nI f.2.2.2.2)) : ∃ z', f_X6_add z k o x y w = some z' ∧ RZ z' (shAdd a f) := by
  obtain ⟨h1, h2, h3⟩ := rz_iff.mp hz
  have e : (2 : Int32) + (5 : Int32) * nI (sn a) = nI (2 + 5 * sn a) := by rw [show (5 : Int32) * nI (sn a) = nI (5 * sn a) from pk_mul 5 _]; exact nI_add 2 _
  have a1 : ∀ n, nI n + (2 : Int32) = nI (n + 2) := fun n => nI_add n 2
  have a2 : ∀ n, nI n + (3 : Int32) = nI (n + 3) := fun n => nI_add n 3
  have a3 : ∀ n, nI n + (4 : Int32) = nI (n + 4) := fun n => nI_add n 4
  have g : ∀ n, n < 207 → ∀ {α : Type} {k' : Option α}, gd (nI n) 207 k' = k' := fun n hn {_ _} => gd_r (vp_in_nI (n := n) hn (by decide))
  have hb : 2 + 5 * sn a + 4 < 207 := by omega
  unfold f_X6_add
  rw [gd1 (by decide), cl1, h2, e]
  unfold lt'
  dsimp only
  rw [nI_1, a1, a2, a3, g _ (by omega), g _ (by omega), g _ (by omega), g _ (by omega), g _ (by omega), gd1 (by decide), gd1 (by decide), i_cl (by omega), i_cl (by omega), i_cl (by omega), i_cl (by omega), i_cl (by omega)]
  rw [pk_un (j := 1) (by omega), pk_un (j := 1) (by omega), pk_un (j := 1) (by omega), pk_un (j := 1) (by omega), pk_un (j := 1) (by omega), h2, nI_1]
  generalize hZ : upd (upd (upd (upd (upd (upd z (2 + 5 * sn a) k) (2 + 5 * sn a + 1) o) (2 + 5 * sn a + 2) x) (2 + 5 * sn a + 3) y) (2 + 5 * sn a + 4) w) 1 (nI (sn a + 1)) = Z
  have s0 : ∀ i, (i < 2 + 5 * sn a) → i ≠ 1 → Z i = z i := fun i hi h1 => by
    rw [← hZ, pk_un h1, pk_un (by omega), pk_un (by omega), pk_un (by omega), pk_un (by omega), pk_un (by omega)]
  refine ⟨Z, rfl, rz_iff.mpr ⟨?_, by rw [← hZ]; exact pk_us, fun i hi => ?_⟩⟩
  · rw [s0 0 (by omega) (by decide)]
    exact h1
  · rcases Nat.lt_or_ge i (sn a) with u | u
    · rw [sa_lt u]
      exact ZAt.cong (fun w hw => (s0 (2 + 5 * i + w) (by omega) (by omega)).symm) (h3 i u)
    · have : i = sn a := Nat.le_antisymm (Nat.le_of_lt_succ hi) u
      subst this
      rw [sa_at]
      have c0 : Z (2 + 5 * sn a) = k := by rw [← hZ, pk_un (by omega), pk_un (by omega), pk_un (by omega), pk_un (by omega), pk_un (by omega), pk_us]
      have c1 : Z (2 + 5 * sn a + 1) = o := by rw [← hZ, pk_un (by omega), pk_un (by omega), pk_un (by omega), pk_un (by omega), pk_us]
      have c2 : Z (2 + 5 * sn a + 2) = x := by rw [← hZ, pk_un (by omega), pk_un (by omega), pk_un (by omega), pk_us]
      have c3 : Z (2 + 5 * sn a + 3) = y := by rw [← hZ, pk_un (by omega), pk_un (by omega), pk_us]
      have c4 : Z (2 + 5 * sn a + 4) = w := by rw [← hZ, pk_un (by omega), pk_us]
      show Z (2 + 5 * sn a) = _ ∧ (_ → Z (2 + 5 * sn a + 1) = _) ∧ (_ → Z (2 + 5 * sn a + 1) = _) ∧ Z (2 + 5 * sn a + 2) = _ ∧ (_ → Z (2 + 5 * sn a + 3) = _ ∧ Z (2 + 5 * sn a + 4) = _) ∧ (_ → Z (2 + 5 * sn a + 3) = _ ∧ Z (2 + 5 * sn a + 4) = _)
      rw [c0, c1, c2, c3, c4]
      exact q
theorem rz_cong {a : Sh} {z z' : Nat → Int32} (h : sn a ≤ 41) (e : ∀ i, i < 207 → z i = z' i) (hz : RZ z a) : RZ z' a := by
  obtain ⟨h1, h2, h3⟩ := rz_iff.mp hz
  exact rz_iff.mpr ⟨by rw [← e 0 (by decide)]; exact h1, by rw [← e 1 (by decide)]; exact h2, fun i hi => ZAt.cong (fun w hw => e (2 + 5 * i + w) (by omega)) (h3 i hi)⟩
theorem rz_drop {a : Sh} {z : Nat → Int32} (hz : RZ z a) (h : sn a ≤ 41) {j : Nat} (hj : j < sn a) : ∃ z', f_X6_drop z (nI j) = some z' ∧ RZ z' (shDrop a j) := by
  obtain ⟨h1, h2, h3⟩ := rz_iff.mp hz
  have e5 : ∀ n, (2 : Int32) + (5 : Int32) * nI n = nI (2 + 5 * n) := fun n => by rw [show (5 : Int32) * nI n = nI (5 * n) from pk_mul 5 _]; exact nI_add 2 _
  have a5 : ∀ n, nI n + (5 : Int32) = nI (n + 5) := fun n => nI_add n 5
  unfold f_X6_drop
  rw [gd1 (by decide), gd1 (by decide), cl1, h2, show nI (sn a) - (1 : Int32) = nI (sn a - 1) from pk_sub (b := 1) (by omega)]
  unfold lt'
  dsimp only
  rw [gd1 (by decide), pk_us, e5, e5]
  generalize hE : 2 + 5 * (sn a - 1) = E
  generalize hZ : upd z 1 (nI (sn a - 1)) = z1
  have hfin : ∀ z2 : Nat → Int32, (∀ i, i < E → z2 i = shf 5 (2 + 5 * j) E z1 i) → RZ z2 (shDrop a j) := by
    intro z2 hz2
    refine rz_iff.mpr ⟨?_, ?_, fun i hi => ?_⟩
    · rw [hz2 0 (by omega)]
      unfold shf
      rw [if_neg (by omega), ← hZ, pk_un (by decide)]
      exact h1
    · rw [hz2 1 (by omega)]
      unfold shf
      rw [if_neg (by omega), ← hZ, pk_us]
      rfl
    · have hi' : i < sn a - 1 := hi
      show ZAt _ (if i < j then a.2.2 i else a.2.2 (i + 1))
      rcases Nat.lt_or_ge i j with u | u
      · rw [if_pos u]
        refine ZAt.cong (fun w hw => ?_) (h3 i (by omega))
        rw [hz2 _ (by omega)]
        unfold shf
        rw [if_neg (by omega), ← hZ, pk_un (by omega)]
      · rw [if_neg (by omega)]
        refine ZAt.cong (fun w hw => ?_) (h3 (i + 1) (by omega))
        rw [hz2 _ (by omega)]
        unfold shf
        rw [if_pos ⟨by omega, by omega⟩, ← hZ, pk_un (by omega)]
        congr 1
        omega
  have z0 : ∀ zz : Nat → Int32, (∀ i, i < E → zz i = shf 5 (2 + 5 * j) E z1 i) → ∃ z', lo2 (f_X6_drop_L54 (nI E)) FU (nI E) zz = some z' ∧ RZ z' (shDrop a j) := by
    intro zz hzz
    refine loop (S := Int32 × (Nat → Int32)) (F := fun f s => lo2 (f_X6_drop_L54 (nI E)) f s.1 s.2) (B := fun rec s => f_X6_drop_L54 (nI E) (fun x y => rec (x, y)) s.1 s.2) (fun _ _ => rfl) (fun k s => s.1 = nI k ∧ E ≤ k ∧ ∀ i, i < E → s.2 i = shf 5 (2 + 5 * j) E z1 i) (fun r => RZ r (shDrop a j)) (E + 5) ?_ ?_ 5 E FU (nI E, zz) (by omega) (by decide) ⟨rfl, Nat.le_refl _, hzz⟩
    · rintro k ⟨i, zq⟩ hk ⟨e, hE2, hq⟩ rec
      replace e : i = nI k := e
      subst e
      replace hq : ∀ i, i < E → zq i = shf 5 (2 + 5 * j) E z1 i := hq
      (try dsimp only)
      rw [f_X6_drop_L54, a5, if_neg (nle (by omega) (by omega) hk), gd_r (vp_in_nI (n := k) (by omega) (by decide)), i_cl (by omega), nI_1]
      unfold lt'
      dsimp only
      refine Or.inr ⟨(nI (k + 1), upd zq k 0), rfl, rfl, by omega, fun i hi => ?_⟩
      show upd zq k 0 i = _
      rw [pk_un (by omega)]
      exact hq i hi
    · rintro ⟨i, zq⟩ ⟨e, hE2, hq⟩ rec
      replace e : i = nI (E + 5) := e
      subst e
      (try dsimp only)
      rw [f_X6_drop_L54, a5, if_pos (nI_le (Nat.le_refl _) (by omega))]
      exact ⟨zq, rfl, hfin zq hq⟩
  refine loop (S := Int32 × (Nat → Int32)) (F := fun f s => lo2 (f_X6_drop_L27 (nI E)) f s.1 s.2) (B := fun rec s => f_X6_drop_L27 (nI E) (fun x y => rec (x, y)) s.1 s.2) (fun _ _ => rfl) (fun k s => s = (nI k, shf 5 (2 + 5 * j) k z1) ∧ 2 + 5 * j ≤ k) (fun r => RZ r (shDrop a j)) E ?_ ?_ (E - (2 + 5 * j)) (2 + 5 * j) FU (nI (2 + 5 * j), z1) (by omega) (by have := fu_big; omega) ⟨by rw [shf_0], Nat.le_refl _⟩
  · rintro k s hk ⟨rfl, hjk⟩ rec
    (try dsimp only)
    rw [f_X6_drop_L27, if_neg (nle (by omega) (by omega) hk), a5, gd_r (vp_in_nI (n := k + 5) (by omega) (by decide)), gd_r (vp_in_nI (n := k) (by omega) (by decide)), i_cl (by omega), i_cl (by omega), nI_1]
    unfold lt'
    dsimp only
    rw [shf_step (by omega) hjk]
    exact Or.inr ⟨(nI (k + 1), shf 5 (2 + 5 * j) (k + 1) z1), rfl, rfl, by omega⟩
  · rintro s ⟨rfl, hjk⟩ rec
    (try dsimp only)
    rw [f_X6_drop_L27, if_pos (nI_le (Nat.le_refl _) (by omega))]
    exact z0 _ (fun i hi => rfl)
/-! ===== the sheets before, the saved ones ===== -/
abbrev StT : Type := Int32 × Int32 × (Nat → Int32) × (Nat → Int32) × (Nat → Int32)
def RFt (t : StT) (a : Sh) : Prop := RF t.1 t.2.1 t.2.2.1 t.2.2.2.1 t.2.2.2.2 a
def HR (len : Int32) (st : Nat → StT) (past : Nat → Int32) (pm : Int32) (n : Nat) (L : Nat → Sh) : Prop := len = nI n ∧ pm = nI n ∧ n ≤ 6 ∧ ∀ i, i < n → WF (L i) ∧ sn (L i) ≤ 40 ∧ RFt (st i) (L i) ∧ RZ (fun k => past (207 * i + k)) (L i)
theorem i207 (n i : Nat) : (nI n * (207 : Int32)) + nI i = nI (207 * n + i) := by rw [show nI n * (207 : Int32) = nI (n * 207) from pk_mul n 207, nI_add, Nat.mul_comm]
theorem rec_z {z past : Nat → Int32} {n : Nat} (hn : n < 6) : f_X6_record_J50 z past (nI n) = some (cp (207 * n) 207 z past, nI (n + 1)) := by
  unfold f_X6_record_J50
  obtain ⟨r, e, rfl⟩ := loop (S := Int32 × (Nat → Int32)) (F := fun f s => lo2 (f_X6_record_L52 z (nI n)) f s.1 s.2) (B := fun rec s => f_X6_record_L52 z (nI n) (fun x y => rec (x, y)) s.1 s.2) (fun _ _ => rfl) (fun k s => s = (nI k, cp (207 * n) k z past)) (fun r => r = (cp (207 * n) 207 z past, nI (n + 1))) 207 (by
    rintro k s hk rfl rec
    (try dsimp only)
    rw [f_X6_record_L52, if_neg (show ¬ (207 : Int32) ≤ nI k from nle (a := 207) (by decide) (by omega) hk), i207, gd_r (vp_in_nI (n := k) (by omega) (by decide)), gd_r (vp_in_nI (n := 207 * n + k) (by omega) (by decide)), i_cl (by omega), i_cl (by omega), nI_1]
    unfold lt'
    dsimp only
    rw [cp_step]
    exact Or.inr ⟨(nI (k + 1), cp (207 * n) (k + 1) z past), rfl, rfl⟩) (by
    rintro s rfl rec
    (try dsimp only)
    rw [f_X6_record_L52, if_pos (show (207 : Int32) ≤ nI 207 from by decide), nI_1]
    exact ⟨_, rfl, rfl⟩) 207 0 FU (0, past) rfl (by decide) (by rw [cp_0]; rfl)
  exact e
def hisL (n : Nat) (L : Nat → Sh) (a : Sh) : Nat → Sh := if n = 6 then (fun i => if i = 5 then a else L (i + 1)) else (fun i => if i = n then a else L i)
def hisN (n : Nat) : Nat := if n = 6 then 6 else n + 1
theorem rec_st {a : Sh} {ad : Nat → Nat × Nat × Nat × Nat} {st : Nat → StT} {n : Nat} (hn : n < 6) {pl to : Int32} {ks os cs : Nat → Int32} (hf : RF pl to ks os cs a) (h : sn a ≤ 41) : ∃ t, f_X1_record_J13 pl to ks os cs ad (nI n) st = some (ad, nI (n + 1), va_up st n t) ∧ RFt t a := by
  unfold f_X1_record_J13
  rw [gd_r (vp_in_nI (n := n) hn (by decide)), i_cl (by omega)]
  obtain ⟨k', o', c', e, q⟩ := rf_copy (pl0 := (st n).1) (to0 := (st n).2.1) (ks0 := (st n).2.2.1) (os0 := (st n).2.2.2.1) (cs0 := (st n).2.2.2.2) hf h
  rw [ob5_r e, nI_1]
  exact ⟨_, rfl, q⟩
theorem rec_z6s {z past : Nat → Int32} {k : Nat} (hk : k < 1035) {rec : Int32 → (Nat → Int32) → Option ((Nat → Int32) × Int32)} : f_X6_record_L11 z (nI 6) rec (nI k) (shf 207 0 k past) = rec (nI (k + 1)) (shf 207 0 (k + 1) past) := by
  rw [f_X6_record_L11, if_neg (show ¬ (1035 : Int32) ≤ nI k from nle (a := 1035) (by decide) (by omega) hk), show nI k + (207 : Int32) = nI (k + 207) from nI_add k 207, gd_r (vp_in_nI (n := k + 207) (by omega) (by decide)), gd_r (vp_in_nI (n := k) (by omega) (by decide)), i_cl (by omega), i_cl (by omega), nI_1]
  unfold lt'
  dsimp only
  rw [shf_step (by omega) (Nat.zero_le _)]
theorem lt_r {α β : Type} {x : α} {k : α → β} : lt' x k = k x := rfl
theorem rec_z6q {v : Int32} (h : (1035 : Int32) ≤ v) {z p : Nat → Int32} {rec : Int32 → (Nat → Int32) → Option ((Nat → Int32) × Int32)} : f_X6_record_L11 z (nI 6) rec v p = f_X6_record_J50 z p (nI 5) := by
  rw [f_X6_record_L11, if_pos h, show nI 6 - (1 : Int32) = nI 5 from rfl, lt_r]
theorem rec_z6l {z p : Nat → Int32} {rec : Int32 → (Nat → Int32) → Option ((Nat → Int32) × Int32)} : f_X6_record_L11 z (nI 6) rec (nI 1035) p = some (cp (207 * 5) 207 z p, nI 6) :=
  (rec_z6q (nI_le (a := 1035) (b := 1035) (Nat.le_refl _) (by omega))).trans (rec_z (n := 5) (by decide))
theorem rec_z6g {z past : Nat → Int32} (M : Nat) (hM : M = 1035) : ∀ (d k fuel : Nat), k + d = M → d < fuel → lo2 (f_X6_record_L11 z (nI 6)) fuel (nI k) (shf 207 0 k past) = some (cp (207 * 5) 207 z (shf 207 0 M past), nI 6)
  | 0, k, fuel, h, hf => by
    obtain ⟨f, rfl⟩ : ∃ f, fuel = f + 1 := ⟨fuel - 1, by omega⟩
    have hk : k = M := by omega
    rw [hk]
    show f_X6_record_L11 z (nI 6) (lo2 (f_X6_record_L11 z (nI 6)) f) (nI M) (shf 207 0 M past) = _
    generalize shf 207 0 M past = p
    rw [hM]
    exact rec_z6l
  | d + 1, k, fuel, h, hf => by
    obtain ⟨f, rfl⟩ : ∃ f, fuel = f + 1 := ⟨fuel - 1, by omega⟩
    show f_X6_record_L11 z (nI 6) (lo2 (f_X6_record_L11 z (nI 6)) f) (nI k) (shf 207 0 k past) = _
    rw [rec_z6s (by omega)]
    exact rec_z6g M hM d (k + 1) f (by omega) (by omega)
theorem rec_z6 {z past : Nat → Int32} : lo2 (f_X6_record_L11 z (nI 6)) FU (0 : Int32) past = some (cp (207 * 5) 207 z (shf 207 0 1035 past), nI 6) := by
  have h := rec_z6g (z := z) (past := past) 1035 rfl 1035 0 FU (Nat.zero_add _) (by have := fu_big; omega)
  rw [shf_0] at h
  exact h
theorem record_ok {a : Sh} (hw : WF a) (h40 : sn a ≤ 40) {len pm : Int32} {st : Nat → StT} {past : Nat → Int32} {n : Nat} {L : Nat → Sh} (H : HR len st past pm n L) {pl to : Int32} {ks os cs z : Nat → Int32} (hf : RF pl to ks os cs a) (hz : RZ z a) (ad : Nat → Nat × Nat × Nat × Nat) :
    ∃ ad' len' st' past' pm', f_X1_record ad len st pl to ks os cs = some (ad', len', st') ∧ f_X6_record z past pm = some (past', pm') ∧ HR len' st' past' pm' (hisN n) (hisL n L a) := by
  obtain ⟨rfl, rfl, hn, H⟩ := H
  have fin : ∀ (m : Nat) (L1 : Nat → Sh) (st1 : Nat → StT) (past1 : Nat → Int32) (t : StT), m < 6 → (∀ i, i < m → WF (L1 i) ∧ sn (L1 i) ≤ 40 ∧ RFt (st1 i) (L1 i) ∧ RZ (fun k => past1 (207 * i + k)) (L1 i)) → RFt t a → HR (nI (m + 1)) (va_up st1 m t) (cp (207 * m) 207 z past1) (nI (m + 1)) (m + 1) (fun i => if i = m then a else L1 i) := by
    intro m L1 st1 past1 t hm H1 ht
    refine ⟨rfl, rfl, by omega, fun i hi => ?_⟩
    rcases Nat.decEq i m with e | e
    · obtain ⟨g1, g2, g3, g4⟩ := H1 i (by omega)
      dsimp only
      rw [if_neg e, va_up_ne _ _ e]
      exact ⟨g1, g2, g3, rz_cong (by omega) (fun k hk => (cp_out z past1 (Or.inl (by omega))).symm) g4⟩
    · subst e
      dsimp only
      rw [if_pos rfl, va_up_self]
      exact ⟨hw, h40, ht, rz_cong (by omega) (fun k hk => (cp_in z past1 hk).symm) hz⟩
  unfold f_X1_record f_X6_record
  rcases Nat.decEq n 6 with n6 | n6
  · have hlt : n < 6 := by omega
    obtain ⟨t, e, q⟩ := rec_st (ad := ad) (st := st) hlt hf (by omega)
    rw [if_pos (show nI n < (6 : Int32) from nI_lt (b := 6) hlt (by decide)), e, if_neg (show ¬ nI n = (6 : Int32) from fun q => n6 ((i_eq (b := 6) (by omega) (by decide)).mp q)), rec_z hlt]
    unfold hisN hisL
    rw [if_neg n6, if_neg n6]
    exact ⟨_, _, _, _, _, rfl, rfl, fin n L st past t hlt H q⟩
  · subst n6
    rw [if_neg (show ¬ nI 6 < (6 : Int32) from by decide), f_X1_dropOldest, ob3_r rfl, show nI 6 - 1 = nI 5 from rfl, if_pos (show nI 6 = (6 : Int32) from rfl)]
    obtain ⟨t, e, q⟩ := rec_st (ad := rot ad) (st := rot st) (n := 5) (by decide) hf (by omega)
    rw [e]
    rw [rec_z6]
    refine ⟨_, _, _, _, _, rfl, rfl, ?_⟩
    have := fin 5 (fun i => L (i + 1)) (rot st) (shf 207 0 1035 past) t (by decide) (fun i hi => by
      obtain ⟨g1, g2, g3, g4⟩ := H (i + 1) (by omega)
      refine ⟨g1, g2, ?_, rz_cong (by omega) (fun k hk => ?_) g4⟩
      · have : rot st i = st (i + 1) := by
          rcases (show i = 0 ∨ i = 1 ∨ i = 2 ∨ i = 3 ∨ i = 4 by omega) with rfl | rfl | rfl | rfl | rfl <;> rfl
        rw [this]
        exact g3
      · unfold shf
        rw [if_pos ⟨Nat.zero_le _, by omega⟩, show 207 * i + k + 207 = 207 * (i + 1) + k by omega]) q
    exact this
theorem undo_ok {len pm : Int32} {st : Nat → StT} {past : Nat → Int32} {n : Nat} {L : Nat → Sh} (H : HR len st past pm (n + 1) L) (ad : Nat → Nat × Nat × Nat × Nat) (pl to : Int32) (ks os cs z : Nat → Int32) :
    ∃ pl' to' ks' os' cs' z', f_X1_takeLatest ad len st pl to ks os cs = some (nI n, pl', to', ks', os', cs') ∧ f_X6_undo z past pm = some (nI n, z', nI n) ∧ HR (nI n) st past (nI n) n L ∧ WF (L n) ∧ sn (L n) ≤ 40 ∧ RF pl' to' ks' os' cs' (L n) ∧ RZ z' (L n) := by
  obtain ⟨rfl, rfl, hn, H⟩ := H
  obtain ⟨g1, g2, g3, g4⟩ := H n (by omega)
  unfold f_X1_takeLatest f_X6_undo
  have e1 : nI (n + 1) - (1 : Int32) = nI n := pk_sub (b := 1) (a := n + 1) (by omega)
  rw [if_neg (show ¬ nI (n + 1) ≤ (0 : Int32) from nle (c := 0) (by omega) (by decide) (by omega)), if_neg (show ¬ nI (n + 1) = (0 : Int32) from fun q => by have := (i_eq (b := 0) (by omega) (by decide)).mp q; omega), e1]
  unfold lt'
  dsimp only
  rw [gd_r (vp_in_nI (n := n) (by omega) (by decide)), i_cl (by omega)]
  obtain ⟨k', o', c', e, q⟩ := rf_copy (pl0 := pl) (to0 := to) (ks0 := ks) (os0 := os) (cs0 := cs) g3 (by omega)
  rw [ob5_r e]
  obtain ⟨r, e2, rfl⟩ := loop (S := Int32 × (Nat → Int32)) (F := fun f s => lo2 (f_X6_undo_L22 past (nI n)) f s.1 s.2) (B := fun rec s => f_X6_undo_L22 past (nI n) (fun x y => rec (x, y)) s.1 s.2) (fun _ _ => rfl) (fun k s => s = (nI k, cp 0 k (fun i => past (207 * n + i)) z)) (fun r => r = (nI n, cp 0 207 (fun i => past (207 * n + i)) z, nI n)) 207 (by
    rintro k s hk rfl rec
    (try dsimp only)
    rw [f_X6_undo_L22, if_neg (show ¬ (207 : Int32) ≤ nI k from nle (a := 207) (by decide) (by omega) hk), i207, gd_r (vp_in_nI (n := 207 * n + k) (by omega) (by decide)), gd_r (vp_in_nI (n := k) (by omega) (by decide)), i_cl (by omega), i_cl (by omega), nI_1]
    unfold lt'
    dsimp only
    have cs' := cp_step (b := 0) (k := k) (fun i => past (207 * n + i)) z
    rw [Nat.zero_add] at cs'
    rw [cs']
    exact Or.inr ⟨(nI (k + 1), cp 0 (k + 1) (fun i => past (207 * n + i)) z), rfl, rfl⟩) (by
    rintro s rfl rec
    (try dsimp only)
    rw [f_X6_undo_L22, if_pos (show (207 : Int32) ≤ nI 207 from by decide)]
    exact ⟨_, rfl, rfl⟩) 207 0 FU (0, z) rfl (by decide) (by rw [cp_0]; rfl)
  have e2' : lo2 (f_X6_undo_L22 past (nI n)) FU (0 : Int32) z = some (nI n, cp 0 207 (fun i => past (207 * n + i)) z, nI n) := e2
  rw [e2']
  refine ⟨_, _, _, _, _, _, rfl, rfl, ⟨rfl, rfl, by omega, fun i hi => H i (by omega)⟩, g1, g2, q, rz_cong (by omega) (fun k hk => ?_) g4⟩
  have := cp_in (b := 0) (fun i => past (207 * n + i)) z hk
  rw [Nat.zero_add] at this
  exact this.symm
