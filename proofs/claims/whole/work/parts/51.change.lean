/-! ===== the changes: tell (holds, answers, wrong), takeBack, begin, undo ===== -/
def CHG (a : Sh) (m : Nat) (L : Nat → Sh) (pl to : Int32) (ks os cs ys cy oy ns cn on : Nat → Int32) (rd len : Int32) (st : Nat → StT) (z past : Nat → Int32) (pm : Int32) : Prop := FR a pl to ks os cs z ∧ MR a ys cy oy ns cn on rd ∧ HR len st past pm m L
abbrev AdT : Type := Nat → Nat × Nat × Nat × Nat
theorem one_ne : ¬ (1 : Int32) = 0 := by decide
section
variable {a : Sh} {m : Nat} {L : Nat → Sh} {pl to : Int32} {ks os cs ys cy oy ns cn on : Nat → Int32} {rd len : Int32} {st : Nat → StT} {z past : Nat → Int32} {pm : Int32}
theorem tell_ok (H : CHG a m L pl to ks os cs ys cy oy ns cn on rd len st z past pm) (hn : sn a < 40) {f : F5t} (hF : FW (sp a) f) {k o c o2 x y w : Int32} (q : FAt k o c f) (q2 : k = nI f.1 ∧ (f.1 < 3 → o2 = nI f.2.1) ∧ (f.1 = 3 → o2 = -6) ∧ x = nI f.2.2.1 ∧ (f.1 = 0 → y = -6 ∧ w = -6) ∧ (f.1 ≠ 0 → y = nI f.2.2.2.1 ∧ w = nI f.2.2.2.2)) (yr nr : Int32) (ad : AdT) (b1 b2 b3 b4 b5 b6 b7 b8 : Nat → Int32) (b9 b10 : Int32) :
    ∃ to' ks' os' cs' ys' cy' oy' yr' ns' cn' on' nr' rd' ad' len' st' z' past' pm' d1 d2 d3 d4 d5 d6 d7 d8 d9 d10, f_X5_tell pl to ks os cs ys cy oy yr ns cn on nr rd ad len st k o c = some (nI (mks (shAdd a f)), to', ks', os', cs', ys', cy', oy', yr', ns', cn', on', nr', rd', ad', len', st') ∧ f_X6_record z past pm = some (past', pm') ∧ f_X6_add z k o2 x y w = some z' ∧ f_X6_marks z' b1 b2 b3 b4 b5 b6 b7 b8 b9 b10 = some (nI (mks (shAdd a f)), d1, d2, d3, d4, d5, d6, d7, d8, d9, d10) ∧ CHG (shAdd a f) (hisN m) (hisL m L a) pl to' ks' os' cs' ys' cy' oy' ns' cn' on' rd' len' st' z' past' pm' := by
  obtain ⟨⟨hw, h40, hf, hz⟩, hm, hh⟩ := H
  obtain ⟨ad', len', st', past', pm', r1, r2, r3⟩ := record_ok hw h40 hh hf hz ad
  obtain ⟨to', ks', os', cs', e1, e2⟩ := rf_add hf (by omega) q
  obtain ⟨z', g1, g2⟩ := rz_add hz (by omega) q2
  have hw' := wf_add hw (by omega) hF
  obtain ⟨_, _, hy, hcn⟩ := hm.y
  obtain ⟨ys', cy', oy', yr', ns', cn', on', nr', rd', m1, m2⟩ := makeFrom_ok hw' e2 hy hcn ys oy ns on yr nr rd
  obtain ⟨d1, d2, d3, d4, d5, d6, d7, d8, d9, d10, l1, l2⟩ := marks_ok hw' g2 b1 b2 b3 b4 b5 b6 b7 b8 b9 b10
  refine ⟨to', ks', os', cs', ys', cy', oy', yr', ns', cn', on', nr', rd', ad', len', st', z', past', pm', d1, d2, d3, d4, d5, d6, d7, d8, d9, d10, ?_, r2, g1, l1, ⟨hw', by show sn a + 1 ≤ 40; omega, e2, g2⟩, m2, r3⟩
  unfold f_X5_tell
  rw [if_pos (show to < (40 : Int32) from by rw [hf.2.1]; exact nI_lt (b := 40) hn (by decide)), ob3_r r1, ob4_r e1, ob9_r m1, ob1_r (total2_ok m2.y.1 m2.y.2.1)]
  rfl
theorem tell_full (H : FR a pl to ks os cs z) (hn : ¬ sn a < 40) (k o c : Int32) (yr nr : Int32) (ad : AdT) : f_X5_tell pl to ks os cs ys cy oy yr ns cn on nr rd ad len st k o c = some (-4, to, ks, os, cs, ys, cy, oy, yr, ns, cn, on, nr, rd, ad, len, st) := by
  unfold f_X5_tell
  rw [if_neg (show ¬ to < (40 : Int32) from by rw [H.2.2.1.2.1]; exact nI_nlt (b := 40) (by omega) (by have := H.2.1; omega))]
theorem z1_40 (H : FR a pl to ks os cs z) : (z 1 = (40 : Int32)) ↔ ¬ sn a < 40 := by
  have h := H.2.1
  rw [H.2.2.2.2.1, show (40 : Int32) = nI 40 from rfl, i_eq (by omega) (by decide)]
  omega
theorem fw_h {p j c : Nat} (hj : j < p) (hc : c < 18) : FW p (0, j, c, 0, 0) := ⟨show (0 : Nat) < 4 by decide, fun _ => hj, fun h => absurd (show (0 : Nat) = 3 from h) (by decide), hc, fun h => absurd rfl h⟩
theorem fa_h {j c : Nat} (hc : c < 18) : FAt 0 (nI j) ((1 : Int32) <<< (nI c &&& 31)) (0, j, c, 0, 0) := ⟨rfl, rfl, m18_one c hc, fun x hx => by
  rw [b_one' c hc]
  unfold inG
  rw [show decide ((0 : Nat) ≠ 0) = false from rfl, Bool.false_and, Bool.or_false]⟩
theorem holds_ok (H : CHG a m L pl to ks os cs ys cy oy ns cn on rd len st z past pm) (yr nr : Int32) (ad : AdT) (b1 b2 b3 b4 b5 b6 b7 b8 : Nat → Int32) (b9 b10 : Int32) (v1 v2 : Int32) :
    ∃ r to' ks' os' cs' ys' cy' oy' yr' ns' cn' on' nr' rd' ad' len' st' z' past' pm' d1 d2 d3 d4 d5 d6 d7 d8 d9 d10 a' m' L', f_X5_holds pl to ks os cs ys cy oy yr ns cn on nr rd ad len st v1 v2 = some (r, to', ks', os', cs', ys', cy', oy', yr', ns', cn', on', nr', rd', ad', len', st') ∧ f_X6_holds z past pm b1 b2 b3 b4 b5 b6 b7 b8 b9 b10 v1 v2 = some (r, z', past', pm', d1, d2, d3, d4, d5, d6, d7, d8, d9, d10) ∧ CHG a' m' L' pl to' ks' os' cs' ys' cy' oy' ns' cn' on' rd' len' st' z' past' pm' := by
  unfold f_X5_holds f_X6_holds f_X6_whyNotHolds
  rcases player_dec H.1 v1 with ⟨j, hj, rfl, p1, p2⟩ | ⟨p1, p2⟩
  · rw [ob1_r p1, ob1_r p2, if_neg one_ne, if_neg one_ne]
    rcases card_dec v2 with ⟨c, hc, rfl, c1, c2⟩ | ⟨c1, c2⟩
    · rw [ob1_r c1, ob1_r c2, if_neg one_ne, if_neg one_ne, gd1 (by decide), cl1]
      rcases Decidable.em (sn a < 40) with hn | hn
      · rw [if_neg (fun q => (z1_40 H.1).mp q hn), ob1_r rfl, if_pos (by decide)]
        obtain ⟨to', ks', os', cs', ys', cy', oy', yr', ns', cn', on', nr', rd', ad', len', st', z', past', pm', d1, d2, d3, d4, d5, d6, d7, d8, d9, d10, t1, t2, t3, t4, t5⟩ := tell_ok H hn (fw_h hj hc) (fa_h hc) (o2 := nI j) (x := nI c) (y := -6) (w := -6) ⟨rfl, fun _ => rfl, fun h => absurd (show (0 : Nat) = 3 from h) (by decide), rfl, fun _ => ⟨rfl, rfl⟩, fun h => absurd rfl h⟩ yr nr ad b1 b2 b3 b4 b5 b6 b7 b8 b9 b10
        rw [ob17_r t1, ob2_r t2, ob1_r t3, ob11_r t4]
        exact ⟨_, _, _, _, _, _, _, _, _, _, _, _, _, _, _, _, _, _, _, _, _, _, _, _, _, _, _, _, _, _, _, _, _, rfl, rfl, t5⟩
      · rw [if_pos ((z1_40 H.1).mpr hn), ob1_r rfl, if_neg (by decide), ob17_r (tell_full H.1 hn _ _ _ _ _ _)]
        exact ⟨_, _, _, _, _, _, _, _, _, _, _, _, _, _, _, _, _, _, _, _, _, _, _, _, _, _, _, _, _, _, _, _, _, rfl, rfl, H⟩
    · rw [ob1_r c1, ob1_r c2, if_pos rfl, if_pos rfl, ob1_r rfl, if_neg (by decide)]
      exact ⟨_, _, _, _, _, _, _, _, _, _, _, _, _, _, _, _, _, _, _, _, _, _, _, _, _, _, _, _, _, _, _, _, _, rfl, rfl, H⟩
  · rw [ob1_r p1, ob1_r p2, if_pos rfl, if_pos rfl, ob1_r rfl, if_neg (by decide)]
    exact ⟨_, _, _, _, _, _, _, _, _, _, _, _, _, _, _, _, _, _, _, _, _, _, _, _, _, _, _, _, _, _, _, _, _, rfl, rfl, H⟩
theorem fw_3 {p k j x y w : Nat} (hk : 0 < k) (hk4 : k < 4) (hj : k < 3 → j < p) (hj5 : k = 3 → j = 5) (hx : x < 6) (hy : y < 6) (hw : w < 6) : FW p (k, j, x, 6 + y, 12 + w) := ⟨hk4, hj, hj5, by show x < 18; omega, fun _ => ⟨hx, by show 6 ≤ 6 + y; omega, by show 6 + y < 12; omega, by show 12 ≤ 12 + w; omega, by show 12 + w < 18; omega⟩⟩
noncomputable def th3 (x y w : Nat) : Int32 := (((1 : Int32) <<< (nI x &&& 31)) ||| ((1 : Int32) <<< (nI (6 + y) &&& 31))) ||| ((1 : Int32) <<< (nI (12 + w) &&& 31))
theorem th3_ok {x y w : Nat} : f_X5_three (nI x) (nI y) (nI w) = some (th3 x y w) := by
  unfold f_X5_three th3
  rw [show (6 : Int32) + nI y = nI (6 + y) from nI_add 6 y, show (12 : Int32) + nI w = nI (12 + w) from nI_add 12 w]
theorem th3_18 {x y w : Nat} (hx : x < 6) (hy : y < 6) (hw : w < 6) : M18 (th3 x y w) := m18_or (m18_or (m18_one _ (by omega)) (m18_one _ (by omega))) (m18_one _ (by omega))
theorem fa_3 {k j x y w : Nat} (hk : 0 < k) (hx : x < 6) (hy : y < 6) (hw : w < 6) : FAt (nI k) (nI j) (th3 x y w) (k, j, x, 6 + y, 12 + w) := ⟨rfl, rfl, th3_18 hx hy hw, fun i hi => by
  unfold th3
  rw [b_or, b_or, b_one' _ (by omega), b_one' _ (by omega), b_one' _ (by omega)]
  unfold inG
  rw [show decide (k ≠ 0) = true from decide_eq_true (by omega), Bool.true_and, Bool.or_assoc]⟩
theorem add3_ok {z : Nat → Int32} {k o : Int32} {x y w : Nat} {z' : Nat → Int32} (h : f_X6_add z k o (nI x) (nI (6 + y)) (nI (12 + w)) = some z') : f_X6_addThree z k o (nI x) (nI y) (nI w) = some z' := by
  unfold f_X6_addThree
  rw [show (6 : Int32) + nI y = nI (6 + y) from nI_add 6 y, show (12 : Int32) + nI w = nI (12 + w) from nI_add 12 w, ob1_r h]
/-- whether an answer may be told: player, shows, three cards -/
theorem ans_dec (H : FR a pl to ks os cs z) (v1 v2 v3 v4 v5 : Int32) : (∃ j s x y w, j < sp a ∧ s < 2 ∧ x < 6 ∧ y < 6 ∧ w < 6 ∧ v1 = nI j ∧ v2 = nI s ∧ v3 = nI x ∧ v4 = nI y ∧ v5 = nI w ∧ f_X5_errorOfAnswer pl v1 v2 v3 v4 v5 = some 0 ∧ f_X6_whyNotAnswer z v1 v2 v3 v4 v5 = some 0 ∧ f_X5_kindOfAnswer v2 = some (nI (1 + s))) ∨ ∃ r, ¬ r = (0 : Int32) ∧ ¬ (0 : Int32) ≤ r ∧ f_X5_errorOfAnswer pl v1 v2 v3 v4 v5 = some r ∧ f_X6_whyNotAnswer z v1 v2 v3 v4 v5 = some r := by
  unfold f_X5_errorOfAnswer f_X6_whyNotAnswer
  rcases player_dec H v1 with ⟨j, hj, e1, p1, p2⟩ | ⟨p1, p2⟩
  · rw [ob1_r p1, ob1_r p2, if_neg one_ne, if_neg one_ne]
    rcases three_dec v3 v4 v5 with ⟨x, y, w, hx, hy, hw, e3, e4, e5, c1, c2⟩ | ⟨c1, c2⟩
    · rw [ob1_r c1, ob1_r c2, if_neg one_ne, if_neg one_ne]
      rcases lim (x := v2) 2 (by decide) with ⟨s, hs, rfl⟩ | h
      · rw [ob1_r (show f_X6_in (nI s) 0 1 = some 1 from in_y (m := 1) (by decide) (by omega)), if_neg one_ne]
        refine Or.inl ⟨j, s, x, y, w, hj, hs, hx, hy, hw, e1, rfl, e3, e4, e5, ?_, rfl, ?_⟩
        · rcases (show s = 0 ∨ s = 1 by omega) with rfl | rfl
          · rw [if_pos (show nI 0 = (0 : Int32) from rfl)]
          · rw [if_neg (show ¬ nI 1 = (0 : Int32) by decide), if_pos (show nI 1 = (1 : Int32) from rfl)]
        · unfold f_X5_kindOfAnswer
          rcases (show s = 0 ∨ s = 1 by omega) with rfl | rfl
          · rw [if_neg (show ¬ nI 0 = (1 : Int32) by decide)]; rfl
          · rw [if_pos (show nI 1 = (1 : Int32) from rfl)]; rfl
      · rw [ob1_r (show f_X6_in v2 0 1 = some 0 from in_n (m := 1) (by decide) h), if_pos rfl]
        have n0 : ¬ v2 = 0 := fun q => by subst q; exact absurd h (by decide)
        have n1 : ¬ v2 = 1 := fun q => by subst q; exact absurd h (by decide)
        rw [if_neg n0, if_neg n1]
        exact Or.inr ⟨-2, by decide, by decide, rfl, rfl⟩
    · rw [ob1_r c1, ob1_r c2, if_pos rfl, if_pos rfl]
      exact Or.inr ⟨-1, by decide, by decide, rfl, rfl⟩
  · rw [ob1_r p1, ob1_r p2, if_pos rfl, if_pos rfl]
    exact Or.inr ⟨-1, by decide, by decide, rfl, rfl⟩
theorem answers_ok (H : CHG a m L pl to ks os cs ys cy oy ns cn on rd len st z past pm) (yr nr : Int32) (ad : AdT) (b1 b2 b3 b4 b5 b6 b7 b8 : Nat → Int32) (b9 b10 : Int32) (v1 v2 v3 v4 v5 : Int32) :
    ∃ r to' ks' os' cs' ys' cy' oy' yr' ns' cn' on' nr' rd' ad' len' st' z' past' pm' d1 d2 d3 d4 d5 d6 d7 d8 d9 d10 a' m' L', f_X5_answers pl to ks os cs ys cy oy yr ns cn on nr rd ad len st v1 v2 v3 v4 v5 = some (r, to', ks', os', cs', ys', cy', oy', yr', ns', cn', on', nr', rd', ad', len', st') ∧ f_X6_answers z past pm b1 b2 b3 b4 b5 b6 b7 b8 b9 b10 v1 v2 v3 v4 v5 = some (r, z', past', pm', d1, d2, d3, d4, d5, d6, d7, d8, d9, d10) ∧ CHG a' m' L' pl to' ks' os' cs' ys' cy' oy' ns' cn' on' rd' len' st' z' past' pm' := by
  unfold f_X5_answers f_X6_answers
  rcases ans_dec H.1 v1 v2 v3 v4 v5 with ⟨j, s, x, y, w, hj, hs, hx, hy, hw, rfl, rfl, rfl, rfl, rfl, p1, p2, p3⟩ | ⟨r, hr, hr2, p1, p2⟩
  · rw [ob1_r p1, ob1_r p2, if_pos rfl, ob1_r p3, ob1_r th3_ok, if_pos (by decide), gd1 (by decide), cl1]
    rcases Decidable.em (sn a < 40) with hn | hn
    · rw [if_neg (fun q => (z1_40 H.1).mp q hn)]
      obtain ⟨to', ks', os', cs', ys', cy', oy', yr', ns', cn', on', nr', rd', ad', len', st', z', past', pm', d1, d2, d3, d4, d5, d6, d7, d8, d9, d10, t1, t2, t3, t4, t5⟩ := tell_ok H hn (fw_3 (k := 1 + s) (j := j) (by omega) (by omega) (fun _ => hj) (fun h => by omega) hx hy hw) (fa_3 (by omega) hx hy hw) (o2 := nI j) (x := nI x) (y := nI (6 + y)) (w := nI (12 + w)) ⟨rfl, fun _ => rfl, fun h => absurd h (by show ¬ 1 + s = 3; omega), rfl, fun h => absurd h (by show ¬ 1 + s = 0; omega), fun _ => ⟨rfl, rfl⟩⟩ yr nr ad b1 b2 b3 b4 b5 b6 b7 b8 b9 b10
      rw [ob17_r t1, ob2_r t2, show (1 : Int32) + nI s = nI (1 + s) from nI_add 1 s, ob1_r (add3_ok t3), ob11_r t4]
      exact ⟨_, _, _, _, _, _, _, _, _, _, _, _, _, _, _, _, _, _, _, _, _, _, _, _, _, _, _, _, _, _, _, _, _, rfl, rfl, t5⟩
    · rw [if_pos ((z1_40 H.1).mpr hn), ob17_r (tell_full H.1 hn _ _ _ _ _ _)]
      exact ⟨_, _, _, _, _, _, _, _, _, _, _, _, _, _, _, _, _, _, _, _, _, _, _, _, _, _, _, _, _, _, _, _, _, rfl, rfl, H⟩
  · rw [ob1_r p1, ob1_r p2, if_neg hr, if_neg hr2]
    exact ⟨_, _, _, _, _, _, _, _, _, _, _, _, _, _, _, _, _, _, _, _, _, _, _, _, _, _, _, _, _, _, _, _, _, rfl, rfl, H⟩
theorem wrong_ok (H : CHG a m L pl to ks os cs ys cy oy ns cn on rd len st z past pm) (yr nr : Int32) (ad : AdT) (b1 b2 b3 b4 b5 b6 b7 b8 : Nat → Int32) (b9 b10 : Int32) (v1 v2 v3 : Int32) :
    ∃ r to' ks' os' cs' ys' cy' oy' yr' ns' cn' on' nr' rd' ad' len' st' z' past' pm' d1 d2 d3 d4 d5 d6 d7 d8 d9 d10 a' m' L', f_X5_wrong pl to ks os cs ys cy oy yr ns cn on nr rd ad len st v1 v2 v3 = some (r, to', ks', os', cs', ys', cy', oy', yr', ns', cn', on', nr', rd', ad', len', st') ∧ f_X6_wrong z past pm b1 b2 b3 b4 b5 b6 b7 b8 b9 b10 v1 v2 v3 = some (r, z', past', pm', d1, d2, d3, d4, d5, d6, d7, d8, d9, d10) ∧ CHG a' m' L' pl to' ks' os' cs' ys' cy' oy' ns' cn' on' rd' len' st' z' past' pm' := by
  unfold f_X5_wrong f_X6_wrong f_X6_whyNotWrong
  rcases three_dec v1 v2 v3 with ⟨x, y, w, hx, hy, hw, rfl, rfl, rfl, c1, c2⟩ | ⟨c1, c2⟩
  · rw [ob1_r c1, ob1_r c2, if_neg one_ne, if_neg one_ne, ob1_r th3_ok, gd1 (by decide), cl1]
    rcases Decidable.em (sn a < 40) with hn | hn
    · rw [if_neg (fun q => (z1_40 H.1).mp q hn), ob1_r rfl, if_pos (by decide)]
      obtain ⟨to', ks', os', cs', ys', cy', oy', yr', ns', cn', on', nr', rd', ad', len', st', z', past', pm', d1, d2, d3, d4, d5, d6, d7, d8, d9, d10, t1, t2, t3, t4, t5⟩ := tell_ok H hn (fw_3 (k := 3) (j := 5) (by omega) (by omega) (fun h => absurd h (by decide)) (fun _ => rfl) hx hy hw) (fa_3 (by omega) hx hy hw) (o2 := -6) (x := nI x) (y := nI (6 + y)) (w := nI (12 + w)) ⟨rfl, fun h => absurd (show (3 : Nat) < 3 from h) (by decide), fun _ => rfl, rfl, fun h => absurd (show (3 : Nat) = 0 from h) (by decide), fun _ => ⟨rfl, rfl⟩⟩ yr nr ad b1 b2 b3 b4 b5 b6 b7 b8 b9 b10
      rw [show f_X5_tell pl to ks os cs ys cy oy yr ns cn on nr rd ad len st 3 5 (th3 x y w) = _ from t1, ob17_r rfl, ob2_r t2, ob1_r (show f_X6_addThree z 3 (-6) (nI x) (nI y) (nI w) = some z' from add3_ok t3), ob11_r t4]
      exact ⟨_, _, _, _, _, _, _, _, _, _, _, _, _, _, _, _, _, _, _, _, _, _, _, _, _, _, _, _, _, _, _, _, _, rfl, rfl, t5⟩
    · rw [if_pos ((z1_40 H.1).mpr hn), ob1_r rfl, if_neg (by decide), ob17_r (tell_full H.1 hn _ _ _ _ _ _)]
      exact ⟨_, _, _, _, _, _, _, _, _, _, _, _, _, _, _, _, _, _, _, _, _, _, _, _, _, _, _, _, _, _, _, _, _, rfl, rfl, H⟩
  · rw [ob1_r c1, ob1_r c2, if_pos rfl, if_pos rfl, ob1_r rfl, if_neg (by decide)]
    exact ⟨_, _, _, _, _, _, _, _, _, _, _, _, _, _, _, _, _, _, _, _, _, _, _, _, _, _, _, _, _, _, _, _, _, rfl, rfl, H⟩
theorem takeBack_ok (H : CHG a m L pl to ks os cs ys cy oy ns cn on rd len st z past pm) (yr nr : Int32) (ad : AdT) (v1 : Int32) :
    ∃ r to' ks' os' cs' ys' cy' oy' yr' ns' cn' on' nr' rd' ad' len' st' z' past' pm' a' m' L', f_X5_takeBack pl to ks os cs ys cy oy yr ns cn on nr rd ad len st v1 = some (r, to', ks', os', cs', ys', cy', oy', yr', ns', cn', on', nr', rd', ad', len', st') ∧ f_X6_takeBack z past pm v1 = some (r, z', past', pm') ∧ CHG a' m' L' pl to' ks' os' cs' ys' cy' oy' ns' cn' on' rd' len' st' z' past' pm' := by
  have H0 := H
  obtain ⟨⟨hw, h40, hf, hz⟩, hm, hh⟩ := H
  unfold f_X5_takeBack f_X6_takeBack f_X0_has
  rw [gd1 (by decide), cl1, hz.2.1]
  rcases lim (x := v1) (sn a) (by omega) with ⟨j, hj, rfl⟩ | h
  · rw [if_neg (nI_pos (by omega)), if_neg (nI_pos (by omega)), if_pos (nI_lt hj (by omega)), if_neg (show ¬ to ≤ nI j from by rw [hf.2.1]; exact nle (by omega) (by omega) hj), ob1_r rfl, if_neg (by decide)]
    obtain ⟨ad', len', st', past', pm', r1, r2, r3⟩ := record_ok hw h40 hh hf hz ad
    obtain ⟨to', ks', os', cs', e1, e2⟩ := rf_remove hf (by omega) hj
    obtain ⟨z', g1, g2⟩ := rz_drop hz (by omega) hj
    have hw' := wf_drop hw j
    obtain ⟨_, _, hy, hcn⟩ := hm.y
    obtain ⟨ys', cy', oy', yr', ns', cn', on', nr', rd', m1, m2⟩ := makeFrom_ok hw' e2 hy hcn ys oy ns on yr nr rd
    rw [ob3_r r1, ob4_r e1, ob9_r m1, ob2_r r2, ob1_r g1, gd1 (by decide)]
    refine ⟨_, _, _, _, _, _, _, _, _, _, _, _, _, _, _, _, _, _, _, _, _, _, _, rfl, ?_, ⟨hw', ?_, e2, g2⟩, m2, r3⟩
    · rw [e2.2.1, g2.2.1]
    · show sn a - 1 ≤ 40; omega
  · have ef : ∀ {α : Type} (x y : α), (if v1 < (0 : Int32) then x else if v1 < nI (sn a) then y else x) = x := fun x y => by
      rcases h with h | ⟨h, h2⟩
      · rw [if_pos h]
      · rw [if_neg h, if_neg (fun q => by rw [Int32.lt_iff_toInt_lt] at q; rw [Int32.le_iff_toInt_le] at h2; omega)]
    rw [ef]
    have ec : (if v1 < (0 : Int32) then some (0 : Int32) else if to ≤ v1 then some 0 else some 1) = some 0 := by
      rcases h with h | ⟨h, h2⟩
      · rw [if_pos h]
      · rw [if_neg h, if_pos (show to ≤ v1 from by rw [hf.2.1]; exact h2)]
    rw [ec, ob1_r rfl, if_pos rfl]
    exact ⟨_, _, _, _, _, _, _, _, _, _, _, _, _, _, _, _, _, _, _, _, _, _, _, rfl, rfl, H0⟩
theorem undo2_ok (H : CHG a m L pl to ks os cs ys cy oy ns cn on rd len st z past pm) (yr nr : Int32) (ad : AdT) :
    ∃ r pl' to' ks' os' cs' ys' cy' oy' yr' ns' cn' on' nr' rd' len' z' pm' a' m', f_X5_undo pl to ks os cs ys cy oy yr ns cn on nr rd ad len st = some (r, pl', to', ks', os', cs', ys', cy', oy', yr', ns', cn', on', nr', rd', len') ∧ f_X6_undo z past pm = some (r, z', pm') ∧ CHG a' m' L pl' to' ks' os' cs' ys' cy' oy' ns' cn' on' rd' len' st z' past pm' := by
  have H0 := H
  obtain ⟨⟨hw, h40, hf, hz⟩, hm, hh⟩ := H
  unfold f_X5_undo
  rcases Nat.eq_zero_or_pos m with e | e
  · subst e
    have hl : len = 0 := hh.1
    have hp : pm = 0 := hh.2.1
    rw [if_pos hl]
    unfold f_X6_undo
    rw [if_pos hp]
    exact ⟨_, _, _, _, _, _, _, _, _, _, _, _, _, _, _, _, _, _, _, _, rfl, rfl, H0⟩
  · obtain ⟨k, rfl⟩ : ∃ k, m = k + 1 := ⟨m - 1, by omega⟩
    obtain ⟨pl', to', ks', os', cs', z', u1, u2, u3, u4, u5, u6, u7⟩ := undo_ok hh ad pl to ks os cs z
    obtain ⟨_, _, hy, hcn⟩ := hm.y
    obtain ⟨ys', cy', oy', yr', ns', cn', on', nr', rd', m1, m2⟩ := makeFrom_ok u4 u6 hy hcn ys oy ns on yr nr rd
    have h6 := hh.2.2.1
    rw [if_neg (show ¬ len = 0 from fun q => by rw [hh.1] at q; have := (i_eq (b := 0) (by omega) (by decide)).mp q; omega), ob6_r u1, ob9_r m1, u2]
    exact ⟨_, _, _, _, _, _, _, _, _, _, _, _, _, _, _, _, _, _, _, _, rfl, rfl, ⟨u4, u5, u6, u7⟩, m2, u3⟩
theorem begin_ok (H : CHG a m L pl to ks os cs ys cy oy ns cn on rd len st z past pm) (yr nr : Int32) (ad : AdT) (v1 : Int32) :
    ∃ r pl' to' ys' cy' oy' yr' ns' cn' on' nr' rd' ad' len' st' z' past' pm' a' m' L', f_X5_begin pl to ks os cs ys cy oy yr ns cn on nr rd ad len st v1 = some (r, pl', to', ys', cy', oy', yr', ns', cn', on', nr', rd', ad', len', st') ∧ f_X6_begin z past pm v1 = some (r, z', past', pm') ∧ CHG a' m' L' pl' to' ks os cs ys' cy' oy' ns' cn' on' rd' len' st' z' past' pm' := by
  have H0 := H
  obtain ⟨⟨hw, h40, hf, hz⟩, hm, hh⟩ := H
  unfold f_X5_begin f_X6_begin
  have hin : (∃ p, 2 ≤ p ∧ p ≤ 5 ∧ v1 = nI p ∧ f_X6_in v1 2 5 = some 1) ∨ (f_X6_in v1 2 5 = some 0 ∧ (v1 < 2 ∨ ¬ v1 < 2 ∧ ¬ v1 ≤ 5)) := by
    unfold f_X6_in
    rcases Decidable.em (v1 < 2) with u | u
    · exact Or.inr ⟨if_pos u, Or.inl u⟩
    · rw [if_neg u]
      rcases Decidable.em (5 < v1) with u2 | u2
      · refine Or.inr ⟨if_pos u2, Or.inr ⟨u, fun q => ?_⟩⟩
        rw [Int32.lt_iff_toInt_lt] at u2
        rw [Int32.le_iff_toInt_le] at q
        omega
      · rw [if_neg u2]
        have t2 : (2 : Int32).toInt = 2 := by decide
        have t5 : (5 : Int32).toInt = 5 := by decide
        have t6 : (nI 6).toInt = 6 := by decide
        have t0 : (0 : Int32).toInt = 0 := by decide
        rw [Int32.lt_iff_toInt_lt] at u u2
        rcases lim (x := v1) 6 (by decide) with ⟨p, hp, rfl⟩ | h | ⟨_, h⟩
        · refine Or.inl ⟨p, ?_, by omega, rfl, rfl⟩
          rcases (show p = 0 ∨ p = 1 ∨ 2 ≤ p by omega) with rfl | rfl | h
          · exact absurd (show (nI 0).toInt < (2 : Int32).toInt by decide) u
          · exact absurd (show (nI 1).toInt < (2 : Int32).toInt by decide) u
          · exact h
        · rw [Int32.lt_iff_toInt_lt] at h
          omega
        · rw [Int32.le_iff_toInt_le] at h
          omega
  rcases hin with ⟨p, hp2, hp5, rfl, hi⟩ | ⟨hi, hv⟩
  · rw [ob1_r hi, if_neg one_ne, if_neg (show ¬ nI p < (2 : Int32) from nI_nlt (b := 2) hp2 (by omega)), if_pos (show nI p ≤ (5 : Int32) from nI_le (b := 5) hp5 (by decide))]
    obtain ⟨ad', len', st', past', pm', r1, r2, r3⟩ := record_ok hw h40 hh hf hz ad
    have hw' : WF (shNew p) := wf_iff.mpr ⟨hp2, hp5, Nat.zero_le _, fun i h => absurd h (Nat.not_lt_zero i)⟩
    have hf' : RF (nI p) 0 ks os cs (shNew p) := rf_iff.mpr ⟨rfl, rfl, fun i h => absurd h (Nat.not_lt_zero i)⟩
    obtain ⟨_, _, hy, hcn⟩ := hm.y
    obtain ⟨ys', cy', oy', yr', ns', cn', on', nr', rd', m1, m2⟩ := makeFrom_ok hw' hf' hy hcn ys oy ns on yr nr rd
    rw [ob3_r r1, f_X0_beginFor, ob2_r rfl, ob9_r m1, ob2_r r2, gd1 (by decide), cl1, lt_r]
    have hl : ∃ z', lo2 (f_X6_begin_L25 (nI p) past' pm' (z 1)) FU 0 z = some (z 1, z', past', pm') ∧ RZ z' (shNew p) := by
      obtain ⟨r, e, ⟨z', rfl, hq⟩⟩ := loop (S := Int32 × (Nat → Int32)) (F := fun f s => lo2 (f_X6_begin_L25 (nI p) past' pm' (z 1)) f s.1 s.2) (B := fun rec s => f_X6_begin_L25 (nI p) past' pm' (z 1) (fun x y => rec (x, y)) s.1 s.2) (fun _ _ => rfl) (fun k s => s = (nI k, cp 0 k (fun _ => 0) z)) (fun r => ∃ z', r = (z 1, z', past', pm') ∧ RZ z' (shNew p)) 207 (by
        rintro k s hk rfl rec
        (try dsimp only)
        have cs' := cp_step (b := 0) (k := k) (fun _ => (0 : Int32)) z
        rw [Nat.zero_add] at cs'
        rw [f_X6_begin_L25, if_neg (show ¬ (207 : Int32) ≤ nI k from nle (a := 207) (by decide) (by omega) hk), gd_r (vp_in_nI (n := k) (by omega) (by decide)), i_cl (by omega), nI_1, lt_r, cs']
        exact Or.inr ⟨(nI (k + 1), cp 0 (k + 1) (fun _ => 0) z), rfl, rfl⟩) (by
        rintro s rfl rec
        (try dsimp only)
        rw [f_X6_begin_L25, if_pos (show (207 : Int32) ≤ nI 207 from by decide), gd0 (by decide), cl0, lt_r]
        refine ⟨_, rfl, _, rfl, rz_iff.mpr ⟨pk_us, ?_, fun i h => absurd h (Nat.not_lt_zero i)⟩⟩
        rw [pk_un (by decide)]
        have := cp_in (b := 0) (k := 207) (i := 1) (fun _ => (0 : Int32)) z (by decide)
        rw [Nat.zero_add] at this
        exact this) 207 0 FU (0, z) rfl (by decide) (by rw [cp_0]; rfl)
      exact ⟨z', e, hq⟩
    obtain ⟨z', l1, l2⟩ := hl
    rw [l1]
    refine ⟨_, _, _, _, _, _, _, _, _, _, _, _, _, _, _, _, _, _, _, _, _, rfl, ?_, ⟨hw', Nat.zero_le _, hf', l2⟩, m2, r3⟩
    rw [hz.2.1, hf.2.1]
  · rw [ob1_r hi, if_pos rfl]
    have ec : ∀ {α : Type} (x y : α), (if v1 < (2 : Int32) then x else if v1 ≤ 5 then y else x) = x := fun x y => by
      rcases hv with h | ⟨h, h2⟩
      · rw [if_pos h]
      · rw [if_neg h, if_neg h2]
    rw [ec]
    exact ⟨_, _, _, _, _, _, _, _, _, _, _, _, _, _, _, _, _, _, _, _, _, rfl, rfl, H0⟩
end
