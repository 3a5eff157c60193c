/-! ===== numbers that are given; marks made anew ===== -/
theorem lt_le {n : Nat} {v : Int32} (hn : n + 1 < 2 ^ 31) (h : nI (n + 1) ≤ v) : nI n < v := by
  have h1 : nI n < nI (n + 1) := nI_lt (by omega) hn
  rw [Int32.lt_iff_toInt_lt] at h1 ⊢
  rw [Int32.le_iff_toInt_le] at h
  omega
theorem lim {x : Int32} (L : Nat) (hL : L < 2 ^ 31) : (∃ j, j < L ∧ x = nI j) ∨ x < 0 ∨ (¬ x < 0 ∧ nI L ≤ x) := by
  rcases Decidable.em (x < 0) with h | h
  · exact Or.inr (Or.inl h)
  · rcases Decidable.em (nI L ≤ x) with h2 | h2
    · exact Or.inr (Or.inr ⟨h, h2⟩)
    · obtain ⟨j, h3, h4, _⟩ := pk_mu h h2 hL
      exact Or.inl ⟨j, h3, h4⟩
/-- the sheet as both have it -/
def FR (a : Sh) (pl to : Int32) (ks os cs z : Nat → Int32) : Prop := WF a ∧ sn a ≤ 40 ∧ RF pl to ks os cs a ∧ RZ z a
def Zc (c : Nat → Int32) : Prop := ∀ o, o < 6 → M18 (c o) ∧ ∀ x, x < 18 → bt (c o) x = false
theorem RC.zc {t : Prop} {M : Mk} {k : Nat} {TR TL : Gh} {st cm og : Nat → Int32} (h : RC t M g0 k TR TL st cm og) : Zc cm := fun o ho => ⟨(h o ho).2.1, fun c hc => ((h o ho).2.2 c hc).2.1⟩
theorem fill_ok (f : Nat → Int32) : ∃ g, f_J7_fill_53178 f 0 = some g ∧ ∀ o, o < 6 → g o = 0 := by
  unfold f_J7_fill_53178
  refine loop (S := Int32 × (Nat → Int32)) (F := fun f s => lo2 (f_J7_fill_53178_L5 0) f s.1 s.2) (B := fun rec s => f_J7_fill_53178_L5 0 (fun x y => rec (x, y)) s.1 s.2) (fun _ _ => rfl) (fun k s => s.1 = nI k ∧ ∀ o, o < k → s.2 o = 0) _ 6 ?_ ?_ 6 0 FU (0, f) rfl (by decide) ⟨rfl, fun o h => absurd h (Nat.not_lt_zero o)⟩
  · rintro k ⟨i, g⟩ hk ⟨e, h⟩ rec
    replace e : i = nI k := e
    subst e
    replace h : ∀ o, o < k → g o = 0 := h
    (try dsimp only)
    rw [f_J7_fill_53178_L5, if_neg (show ¬ (6 : Int32) ≤ nI k from nle (a := 6) (by decide) (by omega) hk), gd_r (vp_in_nI (n := k) hk (by decide)), i_cl (by omega), nI_1, lt_r]
    refine Or.inr ⟨(nI (k + 1), upd g k 0), rfl, rfl, fun o ho => ?_⟩
    show upd g k 0 o = 0
    rcases Nat.decEq o k with e | e
    · rw [pk_un e]; exact h o (by omega)
    · rw [e, pk_us]
  · rintro ⟨i, g⟩ ⟨e, h⟩ rec
    replace e : i = nI 6 := e
    subst e
    (try dsimp only)
    rw [f_J7_fill_53178_L5, if_pos (show (6 : Int32) ≤ nI 6 from by decide)]
    exact ⟨g, rfl, h⟩
theorem rc_start {t : Prop} {st cm og : Nat → Int32} (h : ∀ o, o < 6 → st o = 0) (hc : Zc cm) : RC t (fun _ _ => false) g0 0 g0 g0 st cm og := fun o ho => ⟨by rw [h o ho]; exact m18_0, (hc o ho).1, fun c hcc => ⟨by rw [h o ho, b_0], (hc o ho).2 c hcc, fun q => absurd rfl q, fun _ => ⟨fun q => Bool.noConfusion q, fun q => absurd rfl q⟩⟩⟩
/-- the class' marks of the sheet a -/
def MR (a : Sh) (ys cy oy ns cn on : Nat → Int32) (rd : Int32) : Prop := Fol a True E0 ys cy oy ns cn on rd
theorem makeFrom_ok {a : Sh} (hw : WF a) {pl to : Int32} {ks os cs : Nat → Int32} (hf : RF pl to ks os cs a) {cy cn : Nat → Int32} (hy : Zc cy) (hn : Zc cn) (ys oy ns on : Nat → Int32) (yr nr rd : Int32) :
    ∃ ys' cy' oy' q1 ns' cn' on' q2 rd', f_X2_makeFrom ys cy oy yr ns cn on nr rd pl to ks os cs = some (ys', cy', oy', q1, ns', cn', on', q2, rd') ∧ MR a ys' cy' oy' ns' cn' on' rd' := by
  unfold f_X2_makeFrom f_X4_clear
  obtain ⟨g, e1, h1⟩ := fill_ok ys
  obtain ⟨g', e2, h2⟩ := fill_ok ns
  rw [ob1_r e1, ob2_r rfl, ob1_r e2, ob2_r rfl]
  obtain ⟨ys', cy', oy', q1, ns', cn', on', q2, rd', e, h⟩ := follow_ok hw (t := True) hf (S := E0) (fun o c _ _ q => Bool.noConfusion q) (rc_start h1 hy) (rc_start h2 hn) (oy := oy) (on := on) rd
  rw [ob9_r e]
  exact ⟨ys', cy', oy', q1, ns', cn', on', q2, rd', rfl, h⟩
noncomputable def FY (a : Sh) : Mk := fY a e0 E0
noncomputable def FN (a : Sh) : Mk := fN a e0 E0
noncomputable def mks (a : Sh) : Nat := tot (FY a) 6 + tot (FN a) 6
theorem MR.y {a : Sh} {ys cy oy ns cn on : Nat → Int32} {rd : Int32} (h : MR a ys cy oy ns cn on rd) : MB (FY a) ys ∧ MB (FN a) ns ∧ Zc cy ∧ Zc cn := by
  obtain ⟨k, h1, h2, _⟩ := h
  exact ⟨h1.mb, h2.mb, h1.zc, h2.zc⟩
theorem total2_ok {Y N : Mk} {ys ns : Nat → Int32} (my : MB Y ys) (mn : MB N ns) : f_X2_total ys ns = some (nI (tot Y 6 + tot N 6)) := by
  unfold f_X2_total
  rw [ob1_r (total_ok my), ob1_r (total_ok mn), nI_add]
/-- what the reference's rows are when it has laid the marks of a, with the mark e more -/
def LR (a : Sh) (e : Ex) (y n yR yL nR nL : Nat → Int32) (r : Int32) : Prop := RX (fY a e E0) g0 (rk a e E0) (it a e E0 (rk a e E0)).1.2.1 (it a e E0 (rk a e E0)).1.2.2 y yR yL ∧ RX (fN a e E0) g0 (rk a e E0) (it a e E0 (rk a e E0)).2.2.1 (it a e E0 (rk a e E0)).2.2.2 n nR nL ∧ r = nI (rk a e E0)
theorem LR.y {a : Sh} {e : Ex} {y n yR yL nR nL : Nat → Int32} {r : Int32} (h : LR a e y n yR yL nR nL r) : MB (fY a e E0) y ∧ MB (fN a e E0) n := ⟨RX.mb (σ := g0) h.1, RX.mb (σ := g0) h.2.1⟩
