/-! ===== what if: gain, must ===== -/
theorem tot_sub {M M' : Mk} (h : sub M M') : ∀ k, k ≤ 6 → tot M k ≤ tot M' k
  | 0, _ => Nat.le_refl 0
  | k + 1, hk => Nat.add_le_add (tot_sub h k (by omega)) (fb_ct_sub fun c hc q => h k c (by omega) hc q)
theorem tot_cong {M M' : Mk} (h : ∀ o c, o < 6 → c < 18 → M o c = M' o c) : ∀ k, k ≤ 6 → tot M k = tot M' k
  | 0, _ => rfl
  | k + 1, hk => by
    show tot M k + fb_ct (M k) 18 = tot M' k + fb_ct (M' k) 18
    rw [tot_cong h k (by omega), fb_ct_cong fun c hc => h k c (by omega) hc]
noncomputable def GN (a : Sh) (f : F5t) : Nat := ifp (brk (shAdd a f) (FY (shAdd a f)) (FN (shAdd a f))) 0 (mks (shAdd a f) - mks a + 1)
def gI (g : Nat) : Int32 := if g = 0 then -6 else nI (g - 1)
theorem GN_le (a : Sh) (f : F5t) : GN a f ≤ 217 := by
  unfold GN
  rcases Classical.em (brk (shAdd a f) (FY (shAdd a f)) (FN (shAdd a f))) with h | h
  · rw [ifp_t h]; omega
  · rw [ifp_f h]
    have h1 := tot_le (FY (shAdd a f)) 6
    have h2 := tot_le (FN (shAdd a f)) 6
    unfold mks
    omega
theorem rf_same {a b : Sh} (h1 : sp a = sp b) (h2 : sn a = sn b) (h3 : ∀ i, i < sn a → a.2.2 i = b.2.2 i) {pl to : Int32} {ks os cs : Nat → Int32} (h : RF pl to ks os cs a) : RF pl to ks os cs b := by
  obtain ⟨g1, g2, g3⟩ := rf_iff.mp h
  exact rf_iff.mpr ⟨by rw [← h1]; exact g1, by rw [← h2]; exact g2, fun i hi => by rw [← h3 i (by omega)]; exact g3 i (by omega)⟩
theorem rz_same {a b : Sh} (h1 : sp a = sp b) (h2 : sn a = sn b) (h3 : ∀ i, i < sn a → a.2.2 i = b.2.2 i) {z : Nat → Int32} (h : RZ z a) : RZ z b := by
  obtain ⟨g1, g2, g3⟩ := rz_iff.mp h
  exact rz_iff.mpr ⟨by rw [← h1]; exact g1, by rw [← h2]; exact g2, fun i hi => by rw [← h3 i (by omega)]; exact g3 i (by omega)⟩
theorem add_drop (a : Sh) (f : F5t) : sp (shDrop (shAdd a f) (sn a)) = sp a ∧ sn (shDrop (shAdd a f) (sn a)) = sn a ∧ ∀ i, i < sn (shDrop (shAdd a f) (sn a)) → (shDrop (shAdd a f) (sn a)).2.2 i = a.2.2 i := by
  refine ⟨rfl, Nat.add_sub_cancel (sn a) 1, fun i hi => ?_⟩
  have hi' : i < sn a + 1 - 1 := hi
  show (if i < sn a then (shAdd a f).2.2 i else (shAdd a f).2.2 (i + 1)) = _
  rw [if_pos (by omega), sa_lt (by omega)]
theorem FY_own {a : Sh} (hw : WF a) : OwnY a (FY a) := ic_own hw (S := E0) (fun o c _ _ q => Bool.noConfusion q) (rk a e0 E0)
theorem rc_copy {M : Mk} {ys cy oy sy : Nat → Int32} (my : MB M ys) (hc : Zc cy) : RC False M g0 0 g0 g0 (va_cpy ys sy 0 0 6) cy oy := fun o ho => ⟨by rw [cpy_in ho]; exact (my o ho).1, (hc o ho).1, fun c hcc => ⟨by rw [cpy_in ho]; exact (my o ho).2 c hcc, (hc o ho).2 c hcc, fun q => absurd rfl q, fun q => q.elim⟩⟩
section
variable {a : Sh} {m : Nat} {L : Nat → Sh} {pl to : Int32} {ks os cs ys cy oy ns cn on : Nat → Int32} {rd len : Int32} {st : Nat → StT} {z past : Nat → Int32} {pm : Int32}
theorem gainOf_ok (hw : WF a) (h40 : sn a ≤ 40) (hf : RF pl to ks os cs a) (my : MB (FY a) ys) (mn : MB (FN a) ns) {f : F5t} (hF : FW (sp a) f) {k o c : Int32} (q : FAt k o c f) {sc sd : Nat → Int32} (z1 : Zc sc) (z2 : Zc sd) (sy so sn' son : Nat → Int32) (yr nr rd : Int32) :
    ∃ to' ks' os' cs' d1 d2 d3 d4 d5 d6 d7 d8 d9, f_X5_gainOf pl to ks os cs ys ns sy sc so yr sn' sd son nr rd k o c = some (gI (GN a f), to', ks', os', cs', d1, d2, d3, d4, d5, d6, d7, d8, d9) ∧ RF pl to' ks' os' cs' a ∧ Zc d2 ∧ Zc d6 := by
  unfold f_X5_gainOf f_X2_copy f_X4_copy
  rw [lt_r, ob2_r rfl, lt_r, ob2_r rfl, ob4_r rfl]
  obtain ⟨to', ks', os', cs', e1, e2⟩ := rf_add hf h40 q
  rw [ob4_r e1]
  have hw' := wf_add hw h40 hF
  obtain ⟨ys', cy', oy', q1, ns', cn', on', q2, rd', e3, k3, g1, g2, _⟩ := follow_ok hw' (t := False) e2 (S := ((FY a, g0, g0), (FN a, g0, g0))) (fun o c ho hc q => FY_own hw o c ho hc q) (rc_copy (sy := sy) (oy := so) my z1) (rc_copy (sy := sn') (oy := son) mn z2) rd
  rw [ob9_r e3]
  have my' : MB (fY (shAdd a f) e0 ((FY a, g0, g0), (FN a, g0, g0))) ys' := g1.mb
  have mn' : MB (fN (shAdd a f) e0 ((FY a, g0, g0), (FN a, g0, g0))) ns' := g2.mb
  obtain ⟨rb, b1, b2⟩ := areBroken_ok hw' e2 my' mn'
  rw [ob1_r b1]
  have ne : ∀ o c, ¬ eY e0 0 o c := fun o c h => absurd h.2.1 (by decide)
  have ne2 : ∀ o c, ¬ eN e0 0 o c := fun o c h => absurd h.2.1 (by decide)
  obtain ⟨c1, c2⟩ := cont hw hw' (le_add a f) (e := e0) (S := ((FY a, g0, g0), (FN a, g0, g0))) (fun o c _ _ => ⟨Or.inl, fun h => h.resolve_right (ne o c)⟩) (fun o c _ _ => ⟨Or.inl, fun h => h.resolve_right (ne2 o c)⟩)
  have rem : ∃ t' k' o' c', f_X0_remove to' ks' os' cs' (to' - 1) = some (t', k', o', c') ∧ RF pl t' k' o' c' a := by
    obtain ⟨t', k', o', c', r1, r2⟩ := rf_remove (a := shAdd a f) (j := sn a) e2 (by show sn a + 1 ≤ 41; omega) (Nat.lt_succ_self _)
    have et : to' - (1 : Int32) = nI (sn a) := by
      rw [e2.2.1]
      exact pk_sub (a := sn a + 1) (b := 1) (by omega)
    rw [et]
    obtain ⟨s1, s2, s3⟩ := add_drop a f
    exact ⟨t', k', o', c', r1, rf_same s1 s2 s3 r2⟩
  obtain ⟨t', k', o', c', r1, r2⟩ := rem
  rcases b2 with ⟨rfl, b2⟩ | ⟨rfl, b2⟩
  · rw [if_neg one_ne, ob4_r r1]
    have hG : GN a f = 0 := ifp_t (c1.mpr b2)
    rw [hG]
    exact ⟨t', k', o', c', _, _, _, _, _, _, _, _, _, rfl, r2, g1.zc, g2.zc⟩
  · have hnb : ¬ brk (shAdd a f) (FY (shAdd a f)) (FN (shAdd a f)) := fun h => b2 (c1.mp h)
    have ht : tot (fY (shAdd a f) e0 ((FY a, g0, g0), (FN a, g0, g0))) 6 + tot (fN (shAdd a f) e0 ((FY a, g0, g0), (FN a, g0, g0))) 6 = mks (shAdd a f) := by
      rw [tot_cong (fun o c ho hc => ((c2 hnb o c ho hc).1).symm) 6 (Nat.le_refl _), tot_cong (fun o c ho hc => ((c2 hnb o c ho hc).2).symm) 6 (Nat.le_refl _)]
      rfl
    have hle : mks a ≤ mks (shAdd a f) := by
      have s0 := it_0 (a := shAdd a f) (e := e0) (S := ((FY a, g0, g0), (FN a, g0, g0))) (rk (shAdd a f) e0 ((FY a, g0, g0), (FN a, g0, g0)))
      have t1 : tot (FY a) 6 ≤ tot (fY (shAdd a f) e0 ((FY a, g0, g0), (FN a, g0, g0))) 6 := tot_sub s0.1 6 (Nat.le_refl _)
      have t2 : tot (FN a) 6 ≤ tot (fN (shAdd a f) e0 ((FY a, g0, g0), (FN a, g0, g0))) 6 := tot_sub s0.2 6 (Nat.le_refl _)
      rw [← ht]
      exact Nat.add_le_add t1 t2
    rw [if_pos rfl, ob1_r (total2_ok my' mn'), ob1_r (total2_ok my mn), lt_r, ob4_r r1, ht]
    have hG : GN a f = mks (shAdd a f) - mks a + 1 := ifp_f hnb
    have hv : nI (mks (shAdd a f)) - nI (tot (FY a) 6 + tot (FN a) 6) = gI (GN a f) := by
      rw [hG]
      unfold gI
      rw [if_neg (by omega), Nat.add_sub_cancel]
      exact pk_sub hle
    rw [hv]
    exact ⟨t', k', o', c', _, _, _, _, _, _, _, _, _, rfl, r2, g1.zc, g2.zc⟩
/-- whether the sheet with the mark e more is broken -/
def BE (a : Sh) (e : Ex) : Prop := brk a (fY a e E0) (fN a e E0)
theorem at_once {M : Mk} {t : Nat → Int32} (hM : ∀ o, o < 6 → M18 (t o) ∧ ∀ c, c < 18 → bt (t o) c = M o c) {o c : Nat} (ho : o < 6) (hc : c < 18) : ∃ t', f_X4_addAtOnce t (nI o) (nI c) = some t' ∧ MB (fun x i => M x i || decide (x = o ∧ i = c)) t' := by
  unfold f_X4_addAtOnce
  have g6 : ∀ {α : Type} {k' : Option α}, gd (nI o) 6 k' = k' := gd_r (vp_in_nI (n := o) ho (by decide))
  rw [if_neg (nI_pos (by omega)), if_neg (show ¬ (6 : Int32) ≤ nI o from nle (a := 6) (by decide) (by omega) ho), g6, g6, i_cl (by omega), lt_r]
  refine ⟨_, rfl, fun x hx => ?_⟩
  rcases Nat.decEq x o with u | u
  · rw [pk_un u]
    refine ⟨(hM x hx).1, fun i hi => ?_⟩
    show bt (t x) i = (M x i || decide (x = o ∧ i = c))
    rw [(hM x hx).2 i hi, decide_eq_false (show ¬ (x = o ∧ i = c) from fun q => u q.1), Bool.or_false]
  · subst u
    rw [pk_us]
    refine ⟨m18_or (hM x hx).1 (m18_one c hc), fun i hi => ?_⟩
    show bt (t x ||| (1 : Int32) <<< (nI c &&& 31)) i = (M x i || decide (x = x ∧ i = c))
    rw [b_or, (hM x hx).2 i hi, b_one' c hc]
    congr 1
    exact decide_eq_decide.mpr ⟨fun q => ⟨rfl, q⟩, fun q => q.2⟩
theorem rc_mb {M : Mk} {t cy oy : Nat → Int32} (my : MB M t) (hc : Zc cy) : RC False M g0 0 g0 g0 t cy oy := fun o ho => ⟨(my o ho).1, (hc o ho).1, fun c hcc => ⟨(my o ho).2 c hcc, (hc o ho).2 c hcc, fun q => absurd rfl q, fun q => q.elim⟩⟩
theorem mb_cpy {M : Mk} {ys sy : Nat → Int32} (my : MB M ys) : MB M (va_cpy ys sy 0 0 6) := fun o ho => by rw [cpy_in ho]; exact my o ho
theorem breaksY_ok (hw : WF a) (hf : RF pl to ks os cs a) (my : MB (FY a) ys) (mn : MB (FN a) ns) {o c : Nat} (w : own a o) (hc : c < 18) {sc sd : Nat → Int32} (z1 : Zc sc) (z2 : Zc sd) (sy so sn' son : Nat → Int32) (yr nr rd : Int32) :
    ∃ r d1 d2 d3 d4 d5 d6 d7 d8 d9, f_X5_breaksWithYes pl to ks os cs ys ns sy sc so yr sn' sd son nr rd (nI o) (nI c) = some (r, d1, d2, d3, d4, d5, d6, d7, d8, d9) ∧ BQ (BE a (1, o, c)) r ∧ Zc d2 ∧ Zc d6 := by
  have ho := own6 hw w
  unfold f_X5_breaksWithYes f_X2_copy f_X4_copy
  rw [lt_r, ob2_r rfl, lt_r, ob2_r rfl, ob4_r rfl]
  obtain ⟨t', a1, a2⟩ := at_once (mb_cpy (sy := sy) my) ho hc
  rw [ob1_r a1]
  obtain ⟨ys', cy', oy', q1, ns', cn', on', q2, rd', e3, k3, g1, g2, _⟩ := follow_ok hw (t := False) hf (S := (((fun x i => FY a x i || decide (x = o ∧ i = c)), g0, g0), (FN a, g0, g0))) (fun x i hx hi q => by
    have q : (FY a x i || decide (x = o ∧ i = c)) = true := q
    rw [Bool.or_eq_true, decide_eq_true_eq] at q
    rcases q with q | q
    · exact FY_own hw x i hx hi q
    · rw [q.1]; exact w) (rc_mb (oy := so) a2 z1) (rc_mb (oy := son) (mb_cpy (sy := sn') mn) z2) rd
  rw [ob9_r e3]
  obtain ⟨rb, b1, b2⟩ := areBroken_ok hw hf (Y := fY a e0 (((fun x i => FY a x i || decide (x = o ∧ i = c)), g0, g0), (FN a, g0, g0))) (N := fN a e0 (((fun x i => FY a x i || decide (x = o ∧ i = c)), g0, g0), (FN a, g0, g0))) g1.mb g2.mb
  rw [ob1_r b1]
  obtain ⟨c1, _⟩ := cont hw hw (le.rf a) (e := (1, o, c)) (S := (((fun x i => FY a x i || decide (x = o ∧ i = c)), g0, g0), (FN a, g0, g0))) (fun x i _ _ => by
    show (FY a x i || decide (x = o ∧ i = c)) = true ↔ _
    rw [Bool.or_eq_true, decide_eq_true_eq]
    exact ⟨fun q => q.imp_right fun q => ⟨rfl, rfl, q.1, q.2⟩, fun q => q.imp_right fun q => ⟨q.2.2.1, q.2.2.2⟩⟩) (fun x i _ _ => ⟨Or.inl, fun q => q.resolve_right fun q => absurd q.2.1 (by show ¬ (1 : Nat) = 2; decide)⟩)
  have b3 : BQ (BE a (1, o, c)) rb := b2.iff c1.symm
  refine ⟨rb, ys', cy', oy', q1, ns', cn', on', q2, rd', ?_, b3, g1.zc, g2.zc⟩
  rcases b3 with ⟨rfl, _⟩ | ⟨rfl, _⟩
  · rfl
  · rfl
theorem breaksN_ok (hw : WF a) (hf : RF pl to ks os cs a) (my : MB (FY a) ys) (mn : MB (FN a) ns) {o c : Nat} (w : own a o) (hc : c < 18) {sc sd : Nat → Int32} (z1 : Zc sc) (z2 : Zc sd) (sy so sn' son : Nat → Int32) (yr nr rd : Int32) :
    ∃ r d1 d2 d3 d4 d5 d6 d7 d8 d9, f_X5_breaksWithNo pl to ks os cs ys ns sy sc so yr sn' sd son nr rd (nI o) (nI c) = some (r, d1, d2, d3, d4, d5, d6, d7, d8, d9) ∧ BQ (BE a (2, o, c)) r ∧ Zc d2 ∧ Zc d6 := by
  have ho := own6 hw w
  unfold f_X5_breaksWithNo f_X2_copy f_X4_copy
  rw [lt_r, ob2_r rfl, lt_r, ob2_r rfl, ob4_r rfl]
  obtain ⟨t', a1, a2⟩ := at_once (mb_cpy (sy := sn') mn) ho hc
  rw [ob1_r a1]
  obtain ⟨ys', cy', oy', q1, ns', cn', on', q2, rd', e3, k3, g1, g2, _⟩ := follow_ok hw (t := False) hf (S := ((FY a, g0, g0), ((fun x i => FN a x i || decide (x = o ∧ i = c)), g0, g0))) (fun x i hx hi q => FY_own hw x i hx hi q) (rc_mb (oy := so) (mb_cpy (sy := sy) my) z1) (rc_mb (oy := son) a2 z2) rd
  rw [ob9_r e3]
  obtain ⟨rb, b1, b2⟩ := areBroken_ok hw hf (Y := fY a e0 ((FY a, g0, g0), ((fun x i => FN a x i || decide (x = o ∧ i = c)), g0, g0))) (N := fN a e0 ((FY a, g0, g0), ((fun x i => FN a x i || decide (x = o ∧ i = c)), g0, g0))) g1.mb g2.mb
  rw [ob1_r b1]
  obtain ⟨c1, _⟩ := cont hw hw (le.rf a) (e := (2, o, c)) (S := ((FY a, g0, g0), ((fun x i => FN a x i || decide (x = o ∧ i = c)), g0, g0))) (fun x i _ _ => ⟨Or.inl, fun q => q.resolve_right fun q => absurd q.2.1 (by show ¬ (2 : Nat) = 1; decide)⟩) (fun x i _ _ => by
    show (FN a x i || decide (x = o ∧ i = c)) = true ↔ _
    rw [Bool.or_eq_true, decide_eq_true_eq]
    exact ⟨fun q => q.imp_right fun q => ⟨rfl, rfl, q.1, q.2⟩, fun q => q.imp_right fun q => ⟨q.2.2.1, q.2.2.2⟩⟩)
  have b3 : BQ (BE a (2, o, c)) rb := b2.iff c1.symm
  refine ⟨rb, ys', cy', oy', q1, ns', cn', on', q2, rd', ?_, b3, g1.zc, g2.zc⟩
  rcases b3 with ⟨rfl, _⟩ | ⟨rfl, _⟩
  · rfl
  · rfl
noncomputable def mv (a : Sh) (o c : Nat) : Nat := ifp (BE a (2, o, c)) 1 0 + ifp (BE a (1, o, c)) 2 0
end

