/-! ===== a deal, and facts that are true of it ===== -/
abbrev Dl : Type := Nat → Nat
/-- a deal: each card has an owner, each hand its size -/
def GD (a : Sh) (δ : Dl) : Prop := (∀ c, c < 18 → own a (δ c)) ∧ ∀ o κ, own a o → κ < 3 → fb_ct (fun c => decide (δ c = o) && hin o κ c) 18 = hs a o
def TF (a : Sh) (δ : Dl) : Prop := ∀ j, j < sn a → (kd a j = 0 → δ (ca a j) = ow a j) ∧ (kd a j = 1 → ∀ c, c < 18 → inF a j c = true → δ c ≠ ow a j) ∧ (kd a j = 2 → ∃ c, c < 18 ∧ inF a j c = true ∧ δ c = ow a j) ∧ (kd a j = 3 → ∃ c, c < 18 ∧ inF a j c = true ∧ δ c ≠ ow a j)
def DY (δ : Dl) : Mk := fun o c => decide (δ c = o)
noncomputable def DN (a : Sh) (δ : Dl) : Mk := fun o c => pd (own a o) && !decide (δ c = o)
theorem DY_t {δ : Dl} {o c : Nat} : DY δ o c = true ↔ δ c = o := decide_eq_true_iff
theorem DN_t {a : Sh} {δ : Dl} {o c : Nat} : DN a δ o c = true ↔ own a o ∧ δ c ≠ o := by
  unfold DN
  rw [Bool.and_eq_true, pd_t, Bool.not_eq_true', decide_eq_false_iff_not]
theorem DN_f {a : Sh} {δ : Dl} {o c : Nat} (w : own a o) (h : DN a δ o c = false) : δ c = o := by
  apply Classical.byContradiction
  intro q
  rw [DN_t.mpr ⟨w, q⟩] at h
  exact Bool.noConfusion h
theorem ow_own {a : Sh} (hw : WF a) {j : Nat} (hj : j < sn a) : own a (ow a j) := by
  obtain ⟨w1, w2, w3, _⟩ := hw.2.2.2 j hj
  rcases Nat.lt_or_ge (kd a j) 3 with h | h
  · exact Or.inl (w2 h)
  · exact Or.inr (w3 (by omega))
theorem true_fixd {a : Sh} (hw : WF a) {δ : Dl} (ht : TF a δ) : fixd a (DY δ) (DN a δ) := by
  intro o c ho hc
  constructor
  · apply Classical.byContradiction
    intro q
    obtain ⟨q1, q2⟩ := (gY_iff o c).mp q
    have hn : ¬ δ c = o := fun e => by rw [DY_t.mpr e] at q1; exact Bool.noConfusion q1
    rcases q2 with ⟨j, _, hj, h1, h2, h3⟩ | ⟨h1, h2, _⟩ | ⟨h1, κ, _, _, _, h2⟩ | ⟨j, hj, h1, h2, _, h3, _⟩
    · exact hn (by rw [h3, (ht j hj).1 h1]; exact h2)
    · exact hn (DN_f h1 h2)
    · exact hn (DN_f h1 h2)
    · exact hn (by rw [h2]; exact DN_f (ow_own hw hj) h3)
  · apply Classical.byContradiction
    intro q
    obtain ⟨q1, q2⟩ := (gN_iff o c).mp q
    have key : own a o → δ c ≠ o → False := fun w e => by rw [DN_t.mpr ⟨w, e⟩] at q1; exact Bool.noConfusion q1
    rcases q2 with ⟨j, _, hj, h1, h2, h3⟩ | ⟨h1, x, _, h2, _, h3⟩ | ⟨h1, κ, _, _, _, h2⟩ | ⟨j, hj, h1, h2, _, h3, _⟩
    · exact key (by rw [← h2]; exact ow_own hw hj) (by rw [← h2]; exact (ht j hj).2.1 h1 c hc h3)
    · exact key h1 (by rw [DY_t.mp h3]; exact h2)
    · exact key h1 (fun e => by rw [DY_t.mpr e] at h2; exact Bool.noConfusion h2)
    · exact key (by rw [h2]; exact ow_own hw hj) (fun e => by rw [h2] at e; rw [DY_t.mpr e] at h3; exact Bool.noConfusion h3)
theorem true_nbrk {a : Sh} (hw : WF a) {δ : Dl} (hd : GD a δ) (ht : TF a δ) : ¬ brk a (DY δ) (DN a δ) := by
  rintro (⟨o, c, _, _, _, h1, h2⟩ | ⟨o, κ, w, hκ, h⟩ | ⟨c, hc, h⟩ | ⟨j, hj, k2, h⟩ | ⟨j, hj, k3, h⟩)
  · exact (DN_t.mp h2).2 (DY_t.mp h1)
  · have e1 : fb_ct (fun c => DY δ o c && hin o κ c) 18 = hs a o := hd.2 o κ w hκ
    have e2 : fb_ct (fun c => hin o κ c && !DN a δ o c) 18 = hs a o := by
      rw [← hd.2 o κ w hκ]
      refine fb_ct_cong fun c _ => ?_
      rw [Bool.and_comm]
      congr 1
      cases e : DN a δ o c
      · rw [decide_eq_true (DN_f w e)]; rfl
      · rw [decide_eq_false (DN_t.mp e).2]; rfl
    omega
  · exact (DN_t.mp (h (δ c) (hd.1 c hc))).2 rfl
  · obtain ⟨c, hc, h1, h2⟩ := (ht j hj).2.2.1 k2
    exact (DN_t.mp (h c hc h1)).2 h2
  · obtain ⟨c, hc, h1, h2⟩ := (ht j hj).2.2.2 k3
    exact h2 (DY_t.mp (h c hc h1))
/-- a mark more that is true -/
def TE (a : Sh) (δ : Dl) (e : Ex) : Prop := (e.1 = 1 → δ e.2.2 = e.2.1) ∧ (e.1 = 2 → own a e.2.1 ∧ δ e.2.2 ≠ e.2.1)
/-- all marks are true -/
theorem sound {a : Sh} (hw : WF a) {δ : Dl} (hd : GD a δ) (ht : TF a δ) {e : Ex} (he : TE a δ e) : sub (fY a e E0) (DY δ) ∧ sub (fN a e E0) (DN a δ) :=
  it_in hw hw (le.rf a) (e := e) (S := E0) (true_nbrk hw hd ht) (true_fixd hw ht) (fun o c _ _ h => Bool.noConfusion h) (fun o c _ _ h => Bool.noConfusion h) (fun o c _ _ h => DY_t.mpr (by rw [h.2.2.1, h.2.2.2]; exact he.1 h.2.1)) (fun o c _ _ h => DN_t.mpr (by rw [h.2.2.1, h.2.2.2]; exact he.2 h.2.1)) (rk a e E0)
theorem sound_nb {a : Sh} (hw : WF a) {δ : Dl} (hd : GD a δ) (ht : TF a δ) {e : Ex} (he : TE a δ e) : ¬ brk a (fY a e E0) (fN a e E0) := fun h =>
  true_nbrk hw hd ht (brk_up hw (sound hw hd ht he).1 (sound hw hd ht he).2 h)
theorem te0 {a : Sh} {δ : Dl} : TE a δ e0 := ⟨fun h => absurd (show (0 : Nat) = 1 from h) (by decide), fun h => absurd (show (0 : Nat) = 2 from h) (by decide)⟩
section
variable {a : Sh} {δ : Dl}
theorem FY_t (hw : WF a) (hd : GD a δ) (ht : TF a δ) {o c : Nat} (ho : o < 6) (hc : c < 18) (h : FY a o c = true) : δ c = o := DY_t.mp ((sound hw hd ht te0).1 o c ho hc h)
theorem FN_t (hw : WF a) (hd : GD a δ) (ht : TF a δ) {o c : Nat} (ho : o < 6) (hc : c < 18) (h : FN a o c = true) : own a o ∧ δ c ≠ o := DN_t.mp ((sound hw hd ht te0).2 o c ho hc h)
theorem nb (hw : WF a) (hd : GD a δ) (ht : TF a δ) : ¬ brk a (FY a) (FN a) := sound_nb hw hd ht te0
/-- must() is 1 or 0 of a card that the owner has, 2 or 0 of another -/
theorem mv_t (hw : WF a) (hd : GD a δ) (ht : TF a δ) {o c : Nat} (w : own a o) : mv a o c = 0 ∨ mv a o c = if δ c = o then 1 else 2 := by
  unfold mv
  rcases Nat.decEq (δ c) o with e | e
  · have h2 : ¬ BE a (2, o, c) := sound_nb hw hd ht ⟨fun h => absurd (show (2 : Nat) = 1 from h) (by decide), fun _ => ⟨w, e⟩⟩
    rw [if_neg e, ifp_f h2]
    rcases Classical.em (BE a (1, o, c)) with h | h
    · rw [ifp_t h]; exact Or.inr rfl
    · rw [ifp_f h]; exact Or.inl rfl
  · have h1 : ¬ BE a (1, o, c) := sound_nb hw hd ht ⟨fun _ => e, fun h => absurd (show (1 : Nat) = 2 from h) (by decide)⟩
    rw [if_pos e, ifp_f h1]
    rcases Classical.em (BE a (2, o, c)) with h | h
    · rw [ifp_t h]; exact Or.inr rfl
    · rw [ifp_f h]; exact Or.inl rfl
theorem mrk_t (hw : WF a) (hd : GD a δ) (ht : TF a δ) {o c : Nat} (w : own a o) (hc : c < 18) : mrk a o c = 0 ∨ mrk a o c = if δ c = o then 1 else 2 := by
  have ho := own6 hw w
  unfold mrk
  rcases Nat.decEq (δ c) o with e | e
  · rw [if_neg e]
    cases u : FY a o c
    · cases v : FN a o c
      · exact Or.inl rfl
      · exact Or.inr rfl
    · exact absurd (FY_t hw hd ht ho hc u) e
  · rw [if_pos e]
    cases v : FN a o c
    · cases u : FY a o c
      · exact Or.inl rfl
      · exact Or.inr rfl
    · exact absurd e (FN_t hw hd ht ho hc v).2
theorem gd_same {b : Sh} (e : sp a = sp b) (hd : GD a δ) : GD b δ := by
  have e1 : ∀ o, own a o ↔ own b o := fun o => by unfold own; rw [e]
  have e2 : ∀ o, hs a o = hs b o := fun o => by unfold hs size; rw [e]
  exact ⟨fun c hc => (e1 _).mp (hd.1 c hc), fun o κ w hκ => by rw [← e2]; exact hd.2 o κ ((e1 o).mpr w) hκ⟩
/-- a fact of its own is true -/
def TFf (δ : Dl) (f : F5t) : Prop := (f.1 = 0 → δ f.2.2.1 = f.2.1) ∧ (f.1 = 1 → ∀ c, c < 18 → inG f c = true → δ c ≠ f.2.1) ∧ (f.1 = 2 → ∃ c, c < 18 ∧ inG f c = true ∧ δ c = f.2.1) ∧ (f.1 = 3 → ∃ c, c < 18 ∧ inG f c = true ∧ δ c ≠ f.2.1)
theorem tf_iff : TF a δ ↔ ∀ j, j < sn a → TFf δ (a.2.2 j) := Iff.rfl
theorem tf_add (ht : TF a δ) {f : F5t} (h : TFf δ f) : TF (shAdd a f) δ := tf_iff.mpr fun j hj => by
  have hj' : j < sn a + 1 := hj
  rcases Nat.decEq j (sn a) with e | e
  · rw [sa_lt (by omega)]
    exact tf_iff.mp ht j (by omega)
  · rw [e, sa_at]
    exact h
theorem tf_drop (ht : TF a δ) {k : Nat} (hk : k < sn a) : TF (shDrop a k) δ := tf_iff.mpr fun j hj => by
  have hj' : j < sn a - 1 := hj
  show TFf δ (if j < k then a.2.2 j else a.2.2 (j + 1))
  split
  · exact tf_iff.mp ht j (by omega)
  · exact tf_iff.mp ht (j + 1) (by omega)
/-- marks grow with a true fact -/
theorem mks_le {f : F5t} (hw : WF a) (hw' : WF (shAdd a f)) (hb : ¬ brk (shAdd a f) (FY (shAdd a f)) (FN (shAdd a f))) : mks a ≤ mks (shAdd a f) := by
  have ne : ∀ o c, ¬ eY e0 0 o c := fun o c h => absurd h.2.1 (by decide)
  have ne2 : ∀ o c, ¬ eN e0 0 o c := fun o c h => absurd h.2.1 (by decide)
  obtain ⟨c1, c2⟩ := cont hw hw' (le_add a f) (e := e0) (S := ((FY a, g0, g0), (FN a, g0, g0))) (fun o c _ _ => ⟨Or.inl, fun h => h.resolve_right (ne o c)⟩) (fun o c _ _ => ⟨Or.inl, fun h => h.resolve_right (ne2 o c)⟩)
  have s0 := it_0 (a := shAdd a f) (e := e0) (S := ((FY a, g0, g0), (FN a, g0, g0))) (rk (shAdd a f) e0 ((FY a, g0, g0), (FN a, g0, g0)))
  have t1 : tot (FY a) 6 ≤ tot (fY (shAdd a f) e0 ((FY a, g0, g0), (FN a, g0, g0))) 6 := tot_sub s0.1 6 (Nat.le_refl _)
  have t2 : tot (FN a) 6 ≤ tot (fN (shAdd a f) e0 ((FY a, g0, g0), (FN a, g0, g0))) 6 := tot_sub s0.2 6 (Nat.le_refl _)
  rw [tot_cong (fun o c ho hc => ((c2 hb o c ho hc).1).symm) 6 (Nat.le_refl _)] at t1
  rw [tot_cong (fun o c ho hc => ((c2 hb o c ho hc).2).symm) 6 (Nat.le_refl _)] at t2
  exact Nat.add_le_add t1 t2
theorem GN_t {f : F5t} (hw : WF a) (hw' : WF (shAdd a f)) (hd : GD a δ) (ht : TF a δ) (hf : TFf δ f) : mks a ≤ mks (shAdd a f) ∧ GN a f = mks (shAdd a f) - mks a + 1 := by
  have hb := nb hw' (gd_same (b := shAdd a f) rfl hd) (tf_add ht hf)
  exact ⟨mks_le hw hw' hb, ifp_f hb⟩
theorem mks_lt (a : Sh) : mks a < 1000 := by
  have h1 := tot_le (FY a) 6
  have h2 := tot_le (FN a) 6
  unfold mks
  omega
end
