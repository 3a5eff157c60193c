/-! ===== save and restore alike ===== -/
def SLR (x : SLo) (q : Int32) (g : Nat → Int32) : Prop := match x with
  | none => q = 0
  | some y => ¬ q = 0 ∧ ∃ b : Sh, WF b ∧ sn b ≤ 40 ∧ RFt y.2 b ∧ RZ g b
def SR (x0 x1 : SLo) (isv sl : Nat → Int32) : Prop := SLR x0 (isv 0) (fun k => sl (207 * 0 + k)) ∧ SLR x1 (isv 1) (fun k => sl (207 * 1 + k))
theorem SLR.cong {x : SLo} {q : Int32} {g g' : Nat → Int32} (e : ∀ i, i < 207 → g i = g' i) (h : SLR x q g) : SLR x q g' := by
  cases x with
  | none => exact h
  | some y =>
    obtain ⟨h0, b, h1, h2, h3, h4⟩ := h
    exact ⟨h0, b, h1, h2, h3, rz_cong (by omega) e h4⟩
theorem sav_z {z sl isv : Nat → Int32} {n : Nat} (hn : n < 2) {t : Int32} (ht : z 1 = t) : lo2 (f_X6_save_L21 z (nI n) isv) FU 0 sl = some (t, cp (207 * n) 207 z sl, isv) := by
  obtain ⟨r, e, rfl⟩ := loop (S := Int32 × (Nat → Int32)) (F := fun f s => lo2 (f_X6_save_L21 z (nI n) isv) f s.1 s.2) (B := fun rec s => f_X6_save_L21 z (nI n) isv (fun x y => rec (x, y)) s.1 s.2) (fun _ _ => rfl) (fun k s => s = (nI k, cp (207 * n) k z sl)) (fun r => r = (t, cp (207 * n) 207 z sl, isv)) 207 (by
    rintro k s hk rfl rec
    (try dsimp only)
    rw [f_X6_save_L21, if_neg (show ¬ (207 : Int32) ≤ nI k from nle (a := 207) (by decide) (by omega) hk), i207, gd_r (vp_in_nI (n := k) (by omega) (by decide)), gd_r (vp_in_nI (n := 207 * n + k) (by omega) (by decide)), i_cl (by omega), i_cl (by omega), nI_1]
    unfold lt'
    dsimp only
    rw [cp_step]
    exact Or.inr ⟨(nI (k + 1), cp (207 * n) (k + 1) z sl), rfl, rfl⟩) (by
    rintro s rfl rec
    (try dsimp only)
    rw [f_X6_save_L21, if_pos (show (207 : Int32) ≤ nI 207 from by decide), gd1 (by decide), cl1, ht]
    exact ⟨_, rfl, rfl⟩) 207 0 FU (0, sl) rfl (by decide) (by rw [cp_0]; rfl)
  exact e
theorem res_z {z sl past : Nat → Int32} {pm : Int32} {n : Nat} (hn : n < 2) : lo2 (f_X6_restore_L30 sl (nI n) past pm) FU 0 z = some (sl (207 * n + 1), cp 0 207 (fun k => sl (207 * n + k)) z, past, pm) := by
  obtain ⟨r, e, rfl⟩ := loop (S := Int32 × (Nat → Int32)) (F := fun f s => lo2 (f_X6_restore_L30 sl (nI n) past pm) f s.1 s.2) (B := fun rec s => f_X6_restore_L30 sl (nI n) past pm (fun x y => rec (x, y)) s.1 s.2) (fun _ _ => rfl) (fun k s => s = (nI k, cp 0 k (fun k => sl (207 * n + k)) z)) (fun r => r = (sl (207 * n + 1), cp 0 207 (fun k => sl (207 * n + k)) z, past, pm)) 207 (by
    rintro k s hk rfl rec
    (try dsimp only)
    rw [f_X6_restore_L30, if_neg (show ¬ (207 : Int32) ≤ nI k from nle (a := 207) (by decide) (by omega) hk), i207, gd_r (vp_in_nI (n := 207 * n + k) (by omega) (by decide)), gd_r (vp_in_nI (n := k) (by omega) (by decide)), i_cl (by omega), i_cl (by omega), nI_1]
    unfold lt'
    dsimp only
    have e := cp_step (b := 0) (k := k) (fun k => sl (207 * n + k)) z
    rw [Nat.zero_add] at e
    rw [e]
    exact Or.inr ⟨(nI (k + 1), cp 0 (k + 1) (fun k => sl (207 * n + k)) z), rfl, rfl⟩) (by
    rintro s rfl rec
    (try dsimp only)
    rw [f_X6_restore_L30, if_pos (show (207 : Int32) ≤ nI 207 from by decide), gd1 (by decide), cl1]
    refine ⟨_, rfl, ?_⟩
    have e := cp_in (b := 0) (k := 207) (i := 1) (fun k => sl (207 * n + k)) z (by decide)
    rw [Nat.zero_add] at e
    rw [e]) 207 0 FU (0, z) rfl (by decide) (by rw [cp_0]; rfl)
  exact e
theorem SVo.sl {a : Sh} (hw : WF a) (h40 : sn a ≤ 40) {pl to : Int32} {ks os cs : Nat → Int32} (hf : RF pl to ks os cs a) {x' : SLo} (h : SVo pl to ks os cs x') {q : Int32} (hq : ¬ q = 0) {g : Nat → Int32} (hz : RZ g a) : SLR x' q g := by
  obtain ⟨ad, o1, o2, o3, o4, o5, n, e, rfl⟩ := h
  obtain ⟨ks', os', cs', e2, h2⟩ := rf_copy (pl0 := o1) (to0 := o2) (ks0 := o3) (os0 := o4) (cs0 := o5) hf (by omega)
  have e3 : n = (pl, to, ks', os', cs') := Option.some.inj (e.symm.trans e2)
  subst e3
  exact ⟨hq, a, hw, h40, h2, hz⟩
section
variable {a : Sh} {m : Nat} {L : Nat → Sh} {pl to : Int32} {ks os cs ys cy oy ns cn on : Nat → Int32} {rd len : Int32} {st : Nat → StT} {z past : Nat → Int32} {pm : Int32}
theorem save_ok (H : FR a pl to ks os cs z) {x0 x1 x0' x1' : SLo} {isv sl : Nat → Int32} (HS : SR x0 x1 isv sl) {v1 r : Int32} (hv : SV pl to ks os cs x0 x1 v1 r x0' x1') : ∃ sl' isv', f_X6_save z sl isv v1 = some (r, sl', isv') ∧ SR x0' x1' isv' sl' := by
  obtain ⟨hw, h40, hf, hz⟩ := H
  have ht : z 1 = to := hz.2.1.trans hf.2.1.symm
  have hn : ¬ vp_nar .boolean 1 = (0 : Int32) := by decide
  unfold f_X6_save
  rcases hv with ⟨rfl, rfl, rfl, h⟩ | ⟨rfl, rfl, rfl, h⟩ | ⟨rfl, rfl, rfl, h⟩
  · rw [ob1_r (show f_X6_in v1 0 1 = some 0 from in_n (m := 1) (by decide) h), if_pos rfl]
    exact ⟨_, _, rfl, HS⟩
  · rw [ob1_r (show f_X6_in (nI 0) 0 1 = some 1 from in_y (m := 1) (by decide) (by decide)), if_neg (by decide), gd_r (vp_in_nI (n := 0) (by decide) (by decide)), lt_r, sav_z (n := 0) (by decide) ht, i_cl (by decide)]
    refine ⟨_, _, rfl, ?_, ?_⟩
    · rw [pk_us]
      exact h.sl hw h40 hf hn (rz_cong (by omega) (fun k hk => (cp_in z sl hk).symm) hz)
    · rw [pk_un (by decide)]
      exact HS.2.cong (fun k hk => (cp_out z sl (Or.inr (by omega))).symm)
  · rw [ob1_r (show f_X6_in (nI 1) 0 1 = some 1 from in_y (m := 1) (by decide) (by decide)), if_neg (by decide), gd_r (vp_in_nI (n := 1) (by decide) (by decide)), lt_r, sav_z (n := 1) (by decide) ht, i_cl (by decide)]
    refine ⟨_, _, rfl, ?_, ?_⟩
    · rw [pk_un (by decide)]
      exact HS.1.cong (fun k hk => (cp_out z sl (Or.inl (by omega))).symm)
    · rw [pk_us]
      exact h.sl hw h40 hf hn (rz_cong (by omega) (fun k hk => (cp_in z sl hk).symm) hz)
theorem restK_ok (H : CHG a m L pl to ks os cs ys cy oy ns cn on rd len st z past pm) (yr nr : Int32) (ad : AdT) {x : SLo} {isv sl : Nat → Int32} {j : Nat} (hj : j < 2) (hx : SLR x (isv j) (fun k => sl (207 * j + k))) :
    ∃ r pl' to' ks' os' cs' ys' cy' oy' yr' ns' cn' on' nr' rd' ad' len' st' z' past' pm' a' m' L', restK pl to ks os cs ys cy oy yr ns cn on nr rd ad len st x = some (r, pl', to', ks', os', cs', ys', cy', oy', yr', ns', cn', on', nr', rd', ad', len', st') ∧ f_X6_restore z past sl isv pm (nI j) = some (r, z', past', pm') ∧ CHG a' m' L' pl' to' ks' os' cs' ys' cy' oy' ns' cn' on' rd' len' st' z' past' pm' := by
  have H0 := H
  obtain ⟨⟨hw, h40, hf, hz⟩, hm, hh⟩ := H
  unfold f_X6_restore
  rw [ob1_r (show f_X6_in (nI j) 0 1 = some 1 from in_y (m := 1) (by decide) (by omega)), if_neg (by decide), gd_r (vp_in_nI (n := j) hj (by decide)), i_cl (by omega)]
  cases x with
  | none =>
    have hq : isv j = 0 := hx
    rw [if_pos hq]
    exact ⟨_, _, _, _, _, _, _, _, _, _, _, _, _, _, _, _, _, _, _, _, _, _, _, _, rfl, rfl, H0⟩
  | some y =>
    obtain ⟨hq, b, b1, b2, b3, b4⟩ := hx
    obtain ⟨ad', len', st', past', pm', r1, r2, r3⟩ := record_ok hw h40 hh hf hz ad
    obtain ⟨ks', os', cs', e1, e2⟩ := rf_copy (pl0 := pl) (to0 := to) (ks0 := ks) (os0 := os) (cs0 := cs) b3 (by omega)
    obtain ⟨_, _, hy, hcn⟩ := hm.y
    obtain ⟨ys', cy', oy', yr', ns', cn', on', nr', rd', m1, m2⟩ := makeFrom_ok b1 e2 hy hcn ys oy ns on yr nr rd
    have b5 : RZ (cp 0 207 (fun k => sl (207 * j + k)) z) b := rz_cong (by omega) (fun k hk => by
      have e := cp_in (b := 0) (fun k => sl (207 * j + k)) z hk
      rw [Nat.zero_add] at e
      exact e.symm) b4
    rw [if_neg hq, ob2_r r2, res_z hj, show sl (207 * j + 1) = y.2.2.1 from b4.2.1.trans b3.2.1.symm]
    unfold restK
    dsimp only
    rw [ob3_r r1, ob5_r e1, ob9_r m1]
    exact ⟨_, _, _, _, _, _, _, _, _, _, _, _, _, _, _, _, _, _, _, _, _, _, _, _, rfl, rfl, ⟨b1, b2, e2, b5⟩, m2, r3⟩
theorem restore_ok (H : CHG a m L pl to ks os cs ys cy oy ns cn on rd len st z past pm) (yr nr : Int32) (ad : AdT) {x0 x1 : SLo} {isv sl : Nat → Int32} (HS : SR x0 x1 isv sl) (v1 : Int32) :
    ∃ r pl' to' ks' os' cs' ys' cy' oy' yr' ns' cn' on' nr' rd' ad' len' st' z' past' pm' a' m' L', f_X5_restore pl to ks os cs ys cy oy yr ns cn on nr rd ad len st x0 x1 v1 = some (r, pl', to', ks', os', cs', ys', cy', oy', yr', ns', cn', on', nr', rd', ad', len', st') ∧ f_X6_restore z past sl isv pm v1 = some (r, z', past', pm') ∧ CHG a' m' L' pl' to' ks' os' cs' ys' cy' oy' ns' cn' on' rd' len' st' z' past' pm' := by
  unfold f_X5_restore
  rcases lim (x := v1) 2 (by decide) with ⟨j, hj, rfl⟩ | h
  · rw [if_neg (nI_pos (by omega)), if_pos (show nI j < (2 : Int32) from nI_lt (b := 2) hj (by decide))]
    rcases (show j = 0 ∨ j = 1 by omega) with rfl | rfl
    · rw [if_pos (by decide)]
      exact restK_ok H yr nr ad (by decide) HS.1
    · rw [if_neg (by decide)]
      exact restK_ok H yr nr ad (by decide) HS.2
  · have e : f_X6_restore z past sl isv pm v1 = some (-2, z, past, pm) := by
      unfold f_X6_restore
      rw [ob1_r (show f_X6_in v1 0 1 = some 0 from in_n (m := 1) (by decide) h), if_pos rfl]
    rw [e]
    rcases h with h | ⟨h, h2⟩
    · rw [if_pos h]
      exact ⟨_, _, _, _, _, _, _, _, _, _, _, _, _, _, _, _, _, _, _, _, _, _, _, _, rfl, rfl, H⟩
    · rw [if_neg h, if_neg (show ¬ v1 < (2 : Int32) from fun q => by rw [Int32.lt_iff_toInt_lt] at q; rw [Int32.le_iff_toInt_le] at h2; rw [show (nI 2).toInt = (2 : Int32).toInt from rfl] at h2; omega)]
      exact ⟨_, _, _, _, _, _, _, _, _, _, _, _, _, _, _, _, _, _, _, _, _, _, _, _, rfl, rfl, H⟩
end
