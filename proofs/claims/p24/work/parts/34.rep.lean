/-! ===== what a sheet's facts are, as numbers that no machine knows: players, how many, kind owner card card card ===== -/
abbrev Sh : Type := Nat × Nat × (Nat → Nat × Nat × Nat × Nat × Nat)
abbrev sp (a : Sh) : Nat := a.1
abbrev sn (a : Sh) : Nat := a.2.1
abbrev kd (a : Sh) (i : Nat) : Nat := (a.2.2 i).1
abbrev ow (a : Sh) (i : Nat) : Nat := (a.2.2 i).2.1
abbrev ca (a : Sh) (i : Nat) : Nat := (a.2.2 i).2.2.1
abbrev cb (a : Sh) (i : Nat) : Nat := (a.2.2 i).2.2.2.1
abbrev cc (a : Sh) (i : Nat) : Nat := (a.2.2 i).2.2.2.2
def inF (a : Sh) (i c : Nat) : Bool := decide (c = ca a i) || (decide (kd a i ≠ 0) && (decide (c = cb a i) || decide (c = cc a i)))
def own (a : Sh) (o : Nat) : Prop := o < sp a ∨ o = 5
def FOk (p k o x y z : Nat) : Prop := k < 4 ∧ (k < 3 → o < p) ∧ (k = 3 → o = 5) ∧ x < 18 ∧ (k ≠ 0 → x < 6 ∧ 6 ≤ y ∧ y < 12 ∧ 12 ≤ z ∧ z < 18)
def WF (a : Sh) : Prop := 2 ≤ sp a ∧ sp a ≤ 5 ∧ sn a ≤ 41 ∧ ∀ i, i < sn a → FOk (sp a) (kd a i) (ow a i) (ca a i) (cb a i) (cc a i)
/-- the reference's row holds the facts -/
def RZ (z : Nat → Int32) (a : Sh) : Prop := z 0 = nI (sp a) ∧ z 1 = nI (sn a) ∧ ∀ i, i < sn a → z (2 + 5 * i) = nI (kd a i) ∧ (kd a i < 3 → z (2 + 5 * i + 1) = nI (ow a i)) ∧ (kd a i = 3 → z (2 + 5 * i + 1) = -6) ∧ z (2 + 5 * i + 2) = nI (ca a i) ∧ (kd a i = 0 → z (2 + 5 * i + 3) = -6 ∧ z (2 + 5 * i + 4) = -6) ∧ (kd a i ≠ 0 → z (2 + 5 * i + 3) = nI (cb a i) ∧ z (2 + 5 * i + 4) = nI (cc a i))
/-- the class' rows hold the facts -/
def RF (pl to : Int32) (ks os cs : Nat → Int32) (a : Sh) : Prop := pl = nI (sp a) ∧ to = nI (sn a) ∧ ∀ i, i < sn a → ks i = nI (kd a i) ∧ os i = nI (ow a i) ∧ M18 (cs i) ∧ ∀ c, c < 18 → bt (cs i) c = inF a i c
/-! ===== what is given in a round: by which rule (0: not) ===== -/
abbrev Gh : Type := Nat → Nat → Nat
abbrev Mk : Type := Nat → Nat → Bool
noncomputable def app (σ : Gh) (M : Mk) (r : Nat) (P : Nat → Nat → Prop) : Gh := fun o c => ifp (σ o c = 0 ∧ M o c = false ∧ P o c) r (σ o c)
theorem app_or {σ : Gh} {M : Mk} {r : Nat} {P Q : Nat → Nat → Prop} (hr : r ≠ 0) : app (app σ M r P) M r Q = app σ M r (fun o c => P o c ∨ Q o c) := by
  funext o c
  unfold app
  rcases Classical.em (σ o c = 0 ∧ M o c = false ∧ P o c) with h | h
  · rw [ifp_t h, ifp_f (fun q => hr q.1), ifp_t ⟨h.1, h.2.1, Or.inl h.2.2⟩]
  · rw [ifp_f h]
    refine ifp_c ⟨fun q => ⟨q.1, q.2.1, Or.inr q.2.2⟩, fun q => ⟨q.1, q.2.1, ?_⟩⟩
    rcases q.2.2 with z | z
    · exact absurd ⟨q.1, q.2.1, z⟩ h
    · exact z
theorem app_c {σ : Gh} {M : Mk} {r : Nat} {P Q : Nat → Nat → Prop} (h : ∀ o c, P o c ↔ Q o c) : app σ M r P = app σ M r Q := by
  have : P = Q := funext fun o => funext fun c => propext (h o c)
  rw [this]
theorem app_no {σ : Gh} {M : Mk} {r : Nat} {P : Nat → Nat → Prop} (h : ∀ o c, ¬ P o c) : app σ M r P = σ := by
  funext o c
  exact ifp_f (fun q => h o c q.2.2)
def one (o : Nat) (m : Int32) : Nat → Nat → Prop := fun o' c => o' = o ∧ bt m c = true
/-- the reference's rows in a round: M the marks at its beginning, σ what was given since, k the rounds before -/
def RX (M : Mk) (σ : Gh) (k : Nat) (TR TL : Gh) (x xR xL : Nat → Int32) : Prop := ∀ o, o < 6 → M18 (x o) ∧ ∀ c, c < 18 → bt (x o) c = (M o c || decide (σ o c ≠ 0)) ∧ (M o c = true → xR (18 * o + c) = nI (TR o c) ∧ xL (18 * o + c) = nI (TL o c)) ∧ (M o c = false → σ o c ≠ 0 → xR (18 * o + c) = nI (k + 1) ∧ xL (18 * o + c) = nI (σ o c))
def IM (q : Int32) (s1 s2 : Gh) : Prop := (q = 1 ∧ ∃ o c, o < 6 ∧ c < 18 ∧ (s1 o c ≠ 0 ∨ s2 o c ≠ 0)) ∨ (q = 0 ∧ ∀ o c, o < 6 → c < 18 → s1 o c = 0 ∧ s2 o c = 0)
theorem IM.swap {q : Int32} {s1 s2 : Gh} (h : IM q s1 s2) : IM q s2 s1 := by
  rcases h with ⟨e, o, c, h1, h2, h3⟩ | ⟨e, h⟩
  · exact Or.inl ⟨e, o, c, h1, h2, h3.symm⟩
  · exact Or.inr ⟨e, fun o c h1 h2 => (h o c h1 h2).symm⟩
theorem rx_give {M : Mk} {σ : Gh} {k : Nat} {TR TL : Gh} {x xR xL : Nat → Int32} {o r : Nat} {m q : Int32} {σ2 : Gh} (h : RX M σ k TR TL x xR xL) (hi : IM q σ σ2) (ho : o < 6) (hm : M18 m) (hr : r ≠ 0) :
    RX M (app σ M r (one o m)) k TR TL (upd x o (x o ||| (m &&& (x o ^^^ (-1 : Int32))))) (tab xR o (m &&& (x o ^^^ (-1 : Int32))) (nI (k + 1)) 0) (tab xL o (m &&& (x o ^^^ (-1 : Int32))) (nI r) 0) ∧ IM (ifp (∃ i, i < 18 ∧ bt (m &&& (x o ^^^ (-1 : Int32))) i = true) 1 q) (app σ M r (one o m)) σ2 := by
  have hmore : ∀ c, c < 18 → (bt (m &&& (x o ^^^ (-1 : Int32))) c = true ↔ (σ o c = 0 ∧ M o c = false ∧ bt m c = true)) := by
    intro c hc
    rw [b_and, b_not _ (by omega), ((h o ho).2 c hc).1]
    cases M o c <;> cases bt m c <;> simp
  constructor
  · intro o' ho'
    rcases Nat.decEq o' o with e | e
    · rw [pk_un e]
      refine ⟨(h o' ho').1, fun c hc => ?_⟩
      have ha : app σ M r (one o m) o' c = σ o' c := ifp_f (fun z => e z.2.2.1)
      have ht : ∀ (f : Nat → Int32) (v : Int32), tab f o (m &&& (x o ^^^ (-1 : Int32))) v 0 (18 * o' + c) = f (18 * o' + c) := fun f v => ifp_f (fun z => by omega)
      rw [ha, ht, ht]
      exact (h o' ho').2 c hc
    · subst e
      rw [pk_us]
      refine ⟨m18_or (h o' ho').1 (m18_and hm), fun c hc => ?_⟩
      have h1 := (h o' ho').2 c hc
      rcases Classical.em (σ o' c = 0 ∧ M o' c = false ∧ bt m c = true) with z | z
      · have ha : app σ M r (one o' m) o' c = r := ifp_t ⟨z.1, z.2.1, rfl, z.2.2⟩
        have ht : ∀ (f : Nat → Int32) (v : Int32), tab f o' (m &&& (x o' ^^^ (-1 : Int32))) v 0 (18 * o' + c) = v := fun f v => ifp_t ⟨by omega, by omega, by rw [Nat.add_sub_cancel_left]; exact (hmore c hc).mpr z⟩
        rw [ha, ht, ht, b_or, (hmore c hc).mpr z, Bool.or_true]
        refine ⟨by simp [hr], fun q => ?_, fun _ _ => ⟨rfl, rfl⟩⟩
        rw [z.2.1] at q
        cases q
      · have ha : app σ M r (one o' m) o' c = σ o' c := ifp_f (fun q => z ⟨q.1, q.2.1, q.2.2.2⟩)
        have hb : bt (m &&& (x o' ^^^ (-1 : Int32))) c = false := by
          cases e : bt (m &&& (x o' ^^^ (-1 : Int32))) c
          · rfl
          · exact absurd ((hmore c hc).mp e) z
        have ht : ∀ (f : Nat → Int32) (v : Int32), tab f o' (m &&& (x o' ^^^ (-1 : Int32))) v 0 (18 * o' + c) = f (18 * o' + c) := fun f v => ifp_f (fun q => by
          have := q.2.2
          rw [Nat.add_sub_cancel_left, hb] at this
          cases this)
        rw [ha, ht, ht, b_or, hb, Bool.or_false]
        exact h1
  · rcases Classical.em (∃ i, i < 18 ∧ bt (m &&& (x o ^^^ (-1 : Int32))) i = true) with z | z
    · rw [ifp_t z]
      obtain ⟨c, hc, z⟩ := z
      have w := (hmore c hc).mp z
      exact Or.inl ⟨rfl, o, c, ho, hc, Or.inl (by rw [show app σ M r (one o m) o c = r from ifp_t ⟨w.1, w.2.1, rfl, w.2.2⟩]; exact hr)⟩
    · rw [ifp_f z]
      have ha : ∀ o' c, c < 18 → app σ M r (one o m) o' c = σ o' c := fun o' c hc => ifp_f (fun w => z ⟨c, hc, by
        have := w.2.2.1
        subst this
        exact (hmore c hc).mpr ⟨w.1, w.2.1, w.2.2.2⟩⟩)
      rcases hi with ⟨e, o', c, h1, h2, h3⟩ | ⟨e, h3⟩
      · exact Or.inl ⟨e, o', c, h1, h2, by rw [ha o' c h2]; exact h3⟩
      · exact Or.inr ⟨e, fun o' c h1 h2 => by rw [ha o' c h2]; exact h3 o' c h1 h2⟩
/-- the class' rows in a round (t: its origins count) -/
def RC (t : Prop) (M : Mk) (σ : Gh) (k : Nat) (TR TL : Gh) (st cm og : Nat → Int32) : Prop := ∀ o, o < 6 → M18 (st o) ∧ M18 (cm o) ∧ ∀ c, c < 18 → bt (st o) c = M o c ∧ bt (cm o) c = decide (σ o c ≠ 0) ∧ (σ o c ≠ 0 → M o c = false) ∧ (t → (M o c = true → og (18 * o + c) = nI (TR o c * 8 + TL o c)) ∧ (σ o c ≠ 0 → og (18 * o + c) = nI ((k + 1) * 8 + σ o c)))
theorem add_rc {t : Prop} {M : Mk} {σ : Gh} {k : Nat} {TR TL : Gh} {st cm og : Nat → Int32} (h : RC t M σ k TR TL st cm og) {o r : Nat} {m : Int32} (ho : o < 6) (hm : M18 m) (hk : k + 1 < 1000) (hr : r ≠ 0) (hr8 : r < 8) {rl : Int32} (hl : rl = nI r) : ∃ cm' og', f_X4_add st cm og (nI (k + 1)) (nI o) m rl = some (cm', og') ∧ RC t M (app σ M r (one o m)) k TR TL st cm' og' := by
  refine ⟨_, _, by rw [hl]; exact add_ok ho hm hk hr8, ?_⟩
  have hmore : ∀ c, c < 18 → (bt ((m &&& (st o ^^^ (-1 : Int32))) &&& (cm o ^^^ (-1 : Int32))) c = true ↔ (σ o c = 0 ∧ M o c = false ∧ bt m c = true)) := by
    intro c hc
    rw [b_and, b_and, b_not _ (by omega), b_not _ (by omega), ((h o ho).2.2 c hc).1, ((h o ho).2.2 c hc).2.1]
    cases M o c <;> cases bt m c <;> simp
  intro o' ho'
  rcases Nat.decEq o' o with e | e
  · rw [pk_un e]
    refine ⟨(h o' ho').1, (h o' ho').2.1, fun c hc => ?_⟩
    have ha : app σ M r (one o m) o' c = σ o' c := ifp_f (fun z => e z.2.2.1)
    have ht : ∀ (f : Nat → Int32) (v : Int32), tab f o ((m &&& (st o ^^^ (-1 : Int32))) &&& (cm o ^^^ (-1 : Int32))) v 0 (18 * o' + c) = f (18 * o' + c) := fun f v => ifp_f (fun z => by omega)
    rw [ha, ht]
    exact (h o' ho').2.2 c hc
  · subst e
    rw [pk_us]
    refine ⟨(h o' ho').1, m18_or (h o' ho').2.1 (m18_and (m18_and hm)), fun c hc => ?_⟩
    have h1 := (h o' ho').2.2 c hc
    rcases Classical.em (σ o' c = 0 ∧ M o' c = false ∧ bt m c = true) with z | z
    · have ha : app σ M r (one o' m) o' c = r := ifp_t ⟨z.1, z.2.1, rfl, z.2.2⟩
      have ht : ∀ (f : Nat → Int32) (v : Int32), tab f o' ((m &&& (st o' ^^^ (-1 : Int32))) &&& (cm o' ^^^ (-1 : Int32))) v 0 (18 * o' + c) = v := fun f v => ifp_t ⟨by omega, by omega, by rw [Nat.add_sub_cancel_left]; exact (hmore c hc).mpr z⟩
      rw [ha, ht, b_or, (hmore c hc).mpr z, Bool.or_true]
      refine ⟨h1.1, by simp [hr], fun _ => z.2.1, fun _ => ⟨fun q => ?_, fun _ => rfl⟩⟩
      rw [z.2.1] at q
      cases q
    · have ha : app σ M r (one o' m) o' c = σ o' c := ifp_f (fun q => z ⟨q.1, q.2.1, q.2.2.2⟩)
      have hb : bt ((m &&& (st o' ^^^ (-1 : Int32))) &&& (cm o' ^^^ (-1 : Int32))) c = false := by
        cases e : bt ((m &&& (st o' ^^^ (-1 : Int32))) &&& (cm o' ^^^ (-1 : Int32))) c
        · rfl
        · exact absurd ((hmore c hc).mp e) z
      have ht : ∀ (f : Nat → Int32) (v : Int32), tab f o' ((m &&& (st o' ^^^ (-1 : Int32))) &&& (cm o' ^^^ (-1 : Int32))) v 0 (18 * o' + c) = f (18 * o' + c) := fun f v => ifp_f (fun q => by
        have := q.2.2
        rw [Nat.add_sub_cancel_left, hb] at this
        cases this)
      rw [ha, ht, b_or, hb, Bool.or_false]
      exact h1

