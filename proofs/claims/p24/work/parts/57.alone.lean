/-! ===== the class alone, and what it answers ===== -/
def CS (a : Sh) (pl to : Int32) (ks os cs ys cy oy ns cn on : Nat → Int32) (rd len : Int32) : Prop := WF a ∧ sn a ≤ 40 ∧ RF pl to ks os cs a ∧ MR a ys cy oy ns cn on rd ∧ ∃ n, n ≤ 6 ∧ len = nI n
theorem rec_c {a : Sh} (h40 : sn a ≤ 40) {len : Int32} (H : ∃ n, n ≤ 6 ∧ len = nI n) {pl to : Int32} {ks os cs : Nat → Int32} (hf : RF pl to ks os cs a) (ad : AdT) (st : Nat → StT) :
    ∃ ad' len' st', f_X1_record ad len st pl to ks os cs = some (ad', len', st') ∧ ∃ n, n ≤ 6 ∧ len' = nI n := by
  obtain ⟨n, hn, rfl⟩ := H
  unfold f_X1_record
  rcases Nat.decEq n 6 with n6 | n6
  · have hlt : n < 6 := by omega
    obtain ⟨t, e, q⟩ := rec_st (ad := ad) (st := st) hlt hf (by omega)
    rw [if_pos (show nI n < (6 : Int32) from nI_lt (b := 6) hlt (by decide)), e]
    exact ⟨_, _, _, rfl, n + 1, by omega, rfl⟩
  · subst n6
    rw [if_neg (show ¬ nI 6 < (6 : Int32) from by decide), f_X1_dropOldest, ob3_r rfl, show nI 6 - 1 = nI 5 from rfl]
    obtain ⟨t, e, q⟩ := rec_st (ad := rot ad) (st := rot st) (n := 5) (by decide) hf (by omega)
    rw [e]
    exact ⟨_, _, _, rfl, 6, by omega, rfl⟩
theorem isCard_y {c : Nat} (h : c < 18) : f_X5_isCard (nI c) = some 1 := by
  unfold f_X5_isCard
  rw [if_neg (nI_pos (by omega)), if_neg (show ¬ (18 : Int32) ≤ nI c from nle (a := 18) (by decide) (by omega) h)]
theorem isOf_y {c : Nat} (h : c < 6) : f_X5_isOfKind (nI c) = some 1 := by
  unfold f_X5_isOfKind
  rw [if_neg (nI_pos (by omega)), if_neg (show ¬ (6 : Int32) ≤ nI c from nle (a := 6) (by decide) (by omega) h)]
theorem areThree_y {x y w : Nat} (hx : x < 6) (hy : y < 6) (hw : w < 6) : f_X5_areThree (nI x) (nI y) (nI w) = some 1 := by
  unfold f_X5_areThree
  rw [ob1_r (isOf_y hx), if_neg one_ne, ob1_r (isOf_y hy), if_neg one_ne, ob1_r (isOf_y hw), if_neg one_ne]
theorem hasPl_y {p j : Nat} (hp : p < 1000) (h : j < p) : f_X0_hasPlayer (nI p) (nI j) = some 1 := by
  unfold f_X0_hasPlayer
  rw [if_neg (nI_pos (by omega)), if_neg (nle (by omega) (by omega) h)]
theorem has_y {n j : Nat} (hn : n < 1000) (h : j < n) : f_X0_has (nI n) (nI j) = some 1 := by
  unfold f_X0_has
  rw [if_neg (nI_pos (by omega)), if_neg (nle (by omega) (by omega) h)]
section
variable {a : Sh} {pl to : Int32} {ks os cs ys cy oy ns cn on : Nat → Int32} {rd len : Int32}
theorem err_y (H : CS a pl to ks os cs ys cy oy ns cn on rd len) {j s x y w : Nat} (hj : j < sp a) (hs : s < 2) (hx : x < 6) (hy : y < 6) (hw : w < 6) : f_X5_errorOfAnswer pl (nI j) (nI s) (nI x) (nI y) (nI w) = some 0 ∧ f_X5_kindOfAnswer (nI s) = some (nI (1 + s)) := by
  have hp := H.1.2.1
  unfold f_X5_errorOfAnswer f_X5_kindOfAnswer
  rw [H.2.2.1.1, ob1_r (hasPl_y (by omega) hj), if_neg one_ne, ob1_r (areThree_y hx hy hw), if_neg one_ne]
  rcases (show s = 0 ∨ s = 1 by omega) with rfl | rfl
  · rw [if_pos (show nI 0 = (0 : Int32) from rfl), if_neg (show ¬ nI 0 = (1 : Int32) by decide)]
    exact ⟨rfl, rfl⟩
  · rw [if_neg (show ¬ nI 1 = (0 : Int32) by decide), if_pos (show nI 1 = (1 : Int32) from rfl)]
    exact ⟨rfl, if_pos rfl⟩
theorem tell_c (H : CS a pl to ks os cs ys cy oy ns cn on rd len) (hn : sn a < 40) {f : F5t} (hF : FW (sp a) f) {k o c : Int32} (q : FAt k o c f) (yr nr : Int32) (ad : AdT) (st : Nat → StT) :
    ∃ to' ks' os' cs' ys' cy' oy' yr' ns' cn' on' nr' rd' ad' len' st', f_X5_tell pl to ks os cs ys cy oy yr ns cn on nr rd ad len st k o c = some (nI (mks (shAdd a f)), to', ks', os', cs', ys', cy', oy', yr', ns', cn', on', nr', rd', ad', len', st') ∧ CS (shAdd a f) pl to' ks' os' cs' ys' cy' oy' ns' cn' on' rd' len' := by
  obtain ⟨hw, h40, hf, hm, hh⟩ := H
  obtain ⟨ad', len', st', r1, r3⟩ := rec_c h40 hh hf ad st
  obtain ⟨to', ks', os', cs', e1, e2⟩ := rf_add hf (by omega) q
  have hw' := wf_add hw (by omega) hF
  obtain ⟨_, _, hy, hcn⟩ := hm.y
  obtain ⟨ys', cy', oy', yr', ns', cn', on', nr', rd', m1, m2⟩ := makeFrom_ok hw' e2 hy hcn ys oy ns on yr nr rd
  refine ⟨to', ks', os', cs', ys', cy', oy', yr', ns', cn', on', nr', rd', ad', len', st', ?_, hw', by show sn a + 1 ≤ 40; omega, e2, m2, r3⟩
  unfold f_X5_tell
  rw [if_pos (show to < (40 : Int32) from by rw [hf.2.1]; exact nI_lt (b := 40) hn (by decide)), ob3_r r1, ob4_r e1, ob9_r m1, ob1_r (total2_ok m2.y.1 m2.y.2.1)]
  rfl
theorem holds_c (H : CS a pl to ks os cs ys cy oy ns cn on rd len) (hn : sn a < 40) {j c : Nat} (hj : j < sp a) (hc : c < 18) (yr nr : Int32) (ad : AdT) (st : Nat → StT) :
    ∃ to' ks' os' cs' ys' cy' oy' yr' ns' cn' on' nr' rd' ad' len' st', f_X5_holds pl to ks os cs ys cy oy yr ns cn on nr rd ad len st (nI j) (nI c) = some (nI (mks (shAdd a (0, j, c, 0, 0))), to', ks', os', cs', ys', cy', oy', yr', ns', cn', on', nr', rd', ad', len', st') ∧ CS (shAdd a (0, j, c, 0, 0)) pl to' ks' os' cs' ys' cy' oy' ns' cn' on' rd' len' := by
  have hp := H.1.2.1
  obtain ⟨to', ks', os', cs', ys', cy', oy', yr', ns', cn', on', nr', rd', ad', len', st', t1, t2⟩ := tell_c H hn (fw_h hj hc) (fa_h hc) yr nr ad st
  unfold f_X5_holds
  rw [show f_X0_hasPlayer pl (nI j) = some 1 from by rw [H.2.2.1.1]; exact hasPl_y (by omega) hj, ob1_r rfl, if_neg one_ne, ob1_r (isCard_y hc), if_neg one_ne, ob17_r t1]
  exact ⟨_, _, _, _, _, _, _, _, _, _, _, _, _, _, _, _, rfl, t2⟩
theorem answers_c (H : CS a pl to ks os cs ys cy oy ns cn on rd len) (hn : sn a < 40) {j s x y w : Nat} (hj : j < sp a) (hs : s < 2) (hx : x < 6) (hy : y < 6) (hw : w < 6) (yr nr : Int32) (ad : AdT) (st : Nat → StT) :
    ∃ to' ks' os' cs' ys' cy' oy' yr' ns' cn' on' nr' rd' ad' len' st', f_X5_answers pl to ks os cs ys cy oy yr ns cn on nr rd ad len st (nI j) (nI s) (nI x) (nI y) (nI w) = some (nI (mks (shAdd a (1 + s, j, x, 6 + y, 12 + w))), to', ks', os', cs', ys', cy', oy', yr', ns', cn', on', nr', rd', ad', len', st') ∧ CS (shAdd a (1 + s, j, x, 6 + y, 12 + w)) pl to' ks' os' cs' ys' cy' oy' ns' cn' on' rd' len' := by
  obtain ⟨to', ks', os', cs', ys', cy', oy', yr', ns', cn', on', nr', rd', ad', len', st', t1, t2⟩ := tell_c H hn (fw_3 (k := 1 + s) (j := j) (by omega) (by omega) (fun _ => hj) (fun h => by omega) hx hy hw) (fa_3 (by omega) hx hy hw) yr nr ad st
  obtain ⟨p1, p3⟩ := err_y H hj hs hx hy hw
  unfold f_X5_answers
  rw [ob1_r p1, if_pos rfl, ob1_r p3, ob1_r th3_ok, ob17_r t1]
  exact ⟨_, _, _, _, _, _, _, _, _, _, _, _, _, _, _, _, rfl, t2⟩
theorem wrong_c (H : CS a pl to ks os cs ys cy oy ns cn on rd len) (hn : sn a < 40) {x y w : Nat} (hx : x < 6) (hy : y < 6) (hw : w < 6) (yr nr : Int32) (ad : AdT) (st : Nat → StT) :
    ∃ to' ks' os' cs' ys' cy' oy' yr' ns' cn' on' nr' rd' ad' len' st', f_X5_wrong pl to ks os cs ys cy oy yr ns cn on nr rd ad len st (nI x) (nI y) (nI w) = some (nI (mks (shAdd a (3, 5, x, 6 + y, 12 + w))), to', ks', os', cs', ys', cy', oy', yr', ns', cn', on', nr', rd', ad', len', st') ∧ CS (shAdd a (3, 5, x, 6 + y, 12 + w)) pl to' ks' os' cs' ys' cy' oy' ns' cn' on' rd' len' := by
  obtain ⟨to', ks', os', cs', ys', cy', oy', yr', ns', cn', on', nr', rd', ad', len', st', t1, t2⟩ := tell_c H hn (fw_3 (k := 3) (j := 5) (by omega) (by omega) (fun h => absurd h (by decide)) (fun _ => rfl) hx hy hw) (fa_3 (by omega) hx hy hw) yr nr ad st
  unfold f_X5_wrong
  rw [ob1_r (areThree_y hx hy hw), if_neg one_ne, ob1_r th3_ok, show f_X5_tell pl to ks os cs ys cy oy yr ns cn on nr rd ad len st 3 5 (th3 x y w) = _ from t1, ob17_r rfl]
  exact ⟨_, _, _, _, _, _, _, _, _, _, _, _, _, _, _, _, rfl, t2⟩
theorem takeBack_c (H : CS a pl to ks os cs ys cy oy ns cn on rd len) {j : Nat} (hj : j < sn a) (yr nr : Int32) (ad : AdT) (st : Nat → StT) :
    ∃ to' ks' os' cs' ys' cy' oy' yr' ns' cn' on' nr' rd' ad' len' st', f_X5_takeBack pl to ks os cs ys cy oy yr ns cn on nr rd ad len st (nI j) = some (nI (sn a - 1), to', ks', os', cs', ys', cy', oy', yr', ns', cn', on', nr', rd', ad', len', st') ∧ CS (shDrop a j) pl to' ks' os' cs' ys' cy' oy' ns' cn' on' rd' len' := by
  obtain ⟨hw, h40, hf, hm, hh⟩ := H
  obtain ⟨ad', len', st', r1, r3⟩ := rec_c h40 hh hf ad st
  obtain ⟨to', ks', os', cs', e1, e2⟩ := rf_remove hf (by omega) hj
  have hw' := wf_drop hw j
  obtain ⟨_, _, hy, hcn⟩ := hm.y
  obtain ⟨ys', cy', oy', yr', ns', cn', on', nr', rd', m1, m2⟩ := makeFrom_ok hw' e2 hy hcn ys oy ns on yr nr rd
  have et : to' = nI (sn a - 1) := e2.2.1
  refine ⟨to', ks', os', cs', ys', cy', oy', yr', ns', cn', on', nr', rd', ad', len', st', ?_, hw', by show sn a - 1 ≤ 40; omega, e2, m2, r3⟩
  unfold f_X5_takeBack
  rw [show f_X0_has to (nI j) = some 1 from by rw [hf.2.1]; exact has_y (by omega) hj, ob1_r rfl, if_neg one_ne, ob3_r r1, ob4_r e1, ob9_r m1, ← et]
theorem begin_c (H : CS a pl to ks os cs ys cy oy ns cn on rd len) {p : Nat} (hp2 : 2 ≤ p) (hp5 : p ≤ 5) (yr nr : Int32) (ad : AdT) (st : Nat → StT) :
    ∃ ys' cy' oy' yr' ns' cn' on' nr' rd' ad' len' st', f_X5_begin pl to ks os cs ys cy oy yr ns cn on nr rd ad len st (nI p) = some (nI (sn a), nI p, 0, ys', cy', oy', yr', ns', cn', on', nr', rd', ad', len', st') ∧ CS (shNew p) (nI p) 0 ks os cs ys' cy' oy' ns' cn' on' rd' len' := by
  obtain ⟨hw, h40, hf, hm, hh⟩ := H
  obtain ⟨ad', len', st', r1, r3⟩ := rec_c h40 hh hf ad st
  have hw' : WF (shNew p) := wf_iff.mpr ⟨hp2, hp5, Nat.zero_le _, fun i h => absurd h (Nat.not_lt_zero i)⟩
  have hf' : RF (nI p) 0 ks os cs (shNew p) := rf_iff.mpr ⟨rfl, rfl, fun i h => absurd h (Nat.not_lt_zero i)⟩
  obtain ⟨_, _, hy, hcn⟩ := hm.y
  obtain ⟨ys', cy', oy', yr', ns', cn', on', nr', rd', m1, m2⟩ := makeFrom_ok hw' hf' hy hcn ys oy ns on yr nr rd
  refine ⟨ys', cy', oy', yr', ns', cn', on', nr', rd', ad', len', st', ?_, hw', Nat.zero_le _, hf', m2, r3⟩
  unfold f_X5_begin
  rw [if_neg (show ¬ nI p < (2 : Int32) from nI_nlt (b := 2) hp2 (by omega)), if_pos (show nI p ≤ (5 : Int32) from nI_le (b := 5) hp5 (by decide)), ob3_r r1, f_X0_beginFor, ob2_r rfl, ob9_r m1, hf.2.1]
theorem gain_c (H : CS a pl to ks os cs ys cy oy ns cn on rd len) {j s x y w : Nat} (hj : j < sp a) (hs : s < 2) (hx : x < 6) (hy : y < 6) (hw : w < 6) {sc sd : Nat → Int32} (z1 : Zc sc) (z2 : Zc sd) (sy so sn' son : Nat → Int32) (yr nr srd : Int32) :
    ∃ to' ks' os' cs' e1 e2 e3 e4 e5 e6 e7 e8 e9, f_X5_gain pl to ks os cs ys ns sy sc so yr sn' sd son nr srd (nI j) (nI s) (nI x) (nI y) (nI w) = some (gI (GN a (1 + s, j, x, 6 + y, 12 + w)), to', ks', os', cs', e1, e2, e3, e4, e5, e6, e7, e8, e9) ∧ CS a pl to' ks' os' cs' ys cy oy ns cn on rd len ∧ Zc e2 ∧ Zc e6 := by
  obtain ⟨p1, p3⟩ := err_y H hj hs hx hy hw
  obtain ⟨hw', h40, hf, hm, hh⟩ := H
  obtain ⟨my, mn, _, _⟩ := hm.y
  have hF : FW (sp a) (1 + s, j, x, 6 + y, 12 + w) := fw_3 (by omega) (by omega) (fun _ => hj) (fun h => by omega) hx hy hw
  obtain ⟨to', ks', os', cs', e1, e2, e3, e4, e5, e6, e7, e8, e9, g1, g2, g3, g4⟩ := gainOf_ok hw' h40 hf my mn hF (fa_3 (by omega) hx hy hw) z1 z2 sy so sn' son yr nr srd
  unfold f_X5_gain
  rw [ob1_r p1, if_pos rfl, ob1_r p3, ob1_r th3_ok, ob14_r g1]
  exact ⟨_, _, _, _, _, _, _, _, _, _, _, _, _, rfl, ⟨hw', h40, g2, hm, hh⟩, g3, g4⟩
theorem must_c (H : CS a pl to ks os cs ys cy oy ns cn on rd len) {o c : Nat} (w : own a o) (hc : c < 18) {sc sd : Nat → Int32} (z1 : Zc sc) (z2 : Zc sd) (sy so sn' son : Nat → Int32) (yr nr srd : Int32) :
    ∃ e1 e2 e3 e4 e5 e6 e7 e8 e9, f_X5_must pl to ks os cs ys ns sy sc so yr sn' sd son nr srd (nI o) (nI c) = some (nI (mv a o c), e1, e2, e3, e4, e5, e6, e7, e8, e9) ∧ Zc e2 ∧ Zc e6 := by
  obtain ⟨hw, h40, hf, hm, hh⟩ := H
  obtain ⟨my, mn, _, _⟩ := hm.y
  unfold f_X5_must mv
  rw [show f_X0_hasOwner pl (nI o) = some 1 from by rw [hf.1]; exact hasOw_y hw w, ob1_r rfl, if_neg one_ne, ob1_r (isCard_y hc), if_neg one_ne]
  obtain ⟨r, e1, e2, e3, e4, e5, e6, e7, e8, e9, f1, q1, g1, g2⟩ := breaksN_ok hw hf my mn w hc z1 z2 sy so sn' son yr nr srd
  obtain ⟨r', h1, h2, h3, h4, h5, h6, h7, h8, h9, f2, q2, g3, g4⟩ := breaksY_ok hw hf my mn w hc g1 g2 e1 e3 e5 e7 e4 e8 e9
  rw [ob10_r f1]
  rcases q1 with ⟨rfl, q1⟩ | ⟨rfl, q1⟩
  · rw [if_neg one_ne, ob10_r f2, ifp_t q1]
    rcases q2 with ⟨rfl, q2⟩ | ⟨rfl, q2⟩
    · rw [if_neg one_ne, ifp_t q2]
      exact ⟨_, _, _, _, _, _, _, _, _, rfl, g3, g4⟩
    · rw [if_pos rfl, ifp_f q2]
      exact ⟨_, _, _, _, _, _, _, _, _, rfl, g3, g4⟩
  · rw [if_pos rfl, ob10_r f2, ifp_f q1]
    rcases q2 with ⟨rfl, q2⟩ | ⟨rfl, q2⟩
    · rw [if_neg one_ne, ifp_t q2]
      exact ⟨_, _, _, _, _, _, _, _, _, rfl, g3, g4⟩
    · rw [if_pos rfl, ifp_f q2]
      exact ⟨_, _, _, _, _, _, _, _, _, rfl, g3, g4⟩
theorem deeper_c (H : CS a pl to ks os cs ys cy oy ns cn on rd len) {sc sd : Nat → Int32} (z1 : Zc sc) (z2 : Zc sd) (sy so sn' son : Nat → Int32) (yr nr srd : Int32) :
    ∃ e1 e2 e3 e4 e5 e6 e7 e8 e9, f_X5_deeper pl to ks os cs ys ns sy sc so yr sn' sd son nr srd = some (nI (dd a 6), e1, e2, e3, e4, e5, e6, e7, e8, e9) ∧ Zc e2 ∧ Zc e6 := by
  obtain ⟨hw, h40, hf, hm, hh⟩ := H
  obtain ⟨my, mn, _, _⟩ := hm.y
  obtain ⟨s', e1, g1, g2⟩ := dc_ok hw hf my mn (sy, sc, so, yr, sn', sd, son, nr, srd) z1 z2
  exact ⟨_, _, _, _, _, _, _, _, _, e1, g1, g2⟩
theorem best_c (H : CS a pl to ks os cs ys cy oy ns cn on rd len) {j v : Nat} (hj : j < sp a) (hv : v < 4) {sc sd : Nat → Int32} (z1 : Zc sc) (z2 : Zc sd) (sy so sn' son : Nat → Int32) (yr nr srd : Int32) :
    ∃ to' ks' os' cs' e1 e2 e3 e4 e5 e6 e7 e8 e9, f_X5_bestQuestion pl to ks os cs ys ns sy sc so yr sn' sd son nr srd (nI j) (nI v) = some (nI (qans (bst a j 216) v), to', ks', os', cs', e1, e2, e3, e4, e5, e6, e7, e8, e9) ∧ CS a pl to' ks' os' cs' ys cy oy ns cn on rd len ∧ Zc e2 ∧ Zc e6 := by
  obtain ⟨hw, h40, hf, hm, hh⟩ := H
  have hp := hw.2.1
  obtain ⟨my, mn, _, _⟩ := hm.y
  obtain ⟨t', e1, e2, e3, e4⟩ := bc_ok hw h40 my mn hj hv (pl := pl) (to, ks, os, cs, sy, sc, so, yr, sn', sd, son, nr, srd) ⟨hf, z1, z2⟩
  unfold f_X5_bestQuestion
  rw [show f_X0_hasPlayer pl (nI j) = some 1 from by rw [hf.1]; exact hasPl_y (by omega) hj, ob1_r rfl, if_neg one_ne, if_neg (nI_pos (by omega)), if_pos (show nI v ≤ (3 : Int32) from nI_le (b := 3) (by omega) (by decide))]
  exact ⟨_, _, _, _, _, _, _, _, _, _, _, _, _, e1, ⟨hw, h40, e2, hm, hh⟩, e3, e4⟩
/-- the number of a mark: 1 yes, 2 no, 3 both -/
noncomputable def mrk (a : Sh) (o c : Nat) : Nat := (if FY a o c = true then 1 else 0) + (if FN a o c = true then 2 else 0)
theorem mark_c (H : CS a pl to ks os cs ys cy oy ns cn on rd len) {o c : Nat} (w : own a o) (hc : c < 18) : f_X5_mark pl ys oy ns on (nI o) (nI c) 0 = some (nI (mrk a o c)) := by
  obtain ⟨hw, h40, hf, hm, hh⟩ := H
  obtain ⟨my, mn, _, _⟩ := hm.y
  have ho := own6 hw w
  unfold f_X5_mark mrk
  rw [show f_X0_hasOwner pl (nI o) = some 1 from by rw [hf.1]; exact hasOw_y hw w, ob1_r rfl, if_neg one_ne, ob1_r (isCard_y hc), if_neg one_ne, if_pos rfl, ob1_r (has_ok my ho hc), ob1_r (has_ok mn ho hc), ob1_r (has_ok mn ho hc)]
  cases FY a o c <;> cases FN a o c <;> rfl
theorem ofOwner_c (H : CS a pl to ks os cs ys cy oy ns cn on rd len) {o : Nat} (w : own a o) : f_X5_ofOwner pl ys ns (nI o) 0 = some (nI (if o = 5 then 3 else size a o)) ∧ f_X5_ofOwner pl ys ns (nI o) 1 = some (ys o) ∧ f_X5_ofOwner pl ys ns (nI o) 2 = some (ns o) ∧ f_X5_ofOwner pl ys ns (nI o) 3 = some (((262143 : Int32) &&& (ys o ^^^ (-1 : Int32))) &&& (ns o ^^^ (-1 : Int32))) := by
  obtain ⟨hw, h40, hf, hm, hh⟩ := H
  have ho := own6 hw w
  have e : f_X0_hasOwner pl (nI o) = some 1 := by rw [hf.1]; exact hasOw_y hw w
  unfold f_X5_ofOwner f_X2_without
  rw [e, ob1_r rfl, ob1_r rfl, ob1_r rfl, ob1_r rfl, if_neg one_ne, if_neg one_ne, if_neg one_ne, if_neg one_ne, if_neg one_ne]
  refine ⟨?_, ?_, ?_, ?_⟩
  · rw [if_pos rfl]
    rcases Nat.decEq o 5 with e5 | e5
    · have hp : o < sp a := w.resolve_right e5
      have h5 : ¬ nI o = (5 : Int32) := fun q => e5 ((i_eq (b := 5) (by omega) (by decide)).mp q)
      rw [if_neg h5, hf.1, ob1_r (sizeH_ok hw (by omega) (Or.inl hp)), if_neg e5]
      unfold hZ
      rw [if_pos (by omega)]
    · rw [if_pos e5, e5, if_pos (show nI 5 = (5 : Int32) from rfl)]
      rfl
  · rw [if_pos rfl, ob1_r (of_ok ho)]
  · rw [if_neg (by decide), if_neg (by decide), if_pos rfl, ob1_r (of_ok ho)]
  · rw [if_neg (by decide), if_neg (by decide), if_neg (by decide), if_pos rfl, ob1_r (of_ok ho), ob1_r (of_ok ho), ob1_r rfl]
theorem count_c (H : CS a pl to ks os cs ys cy oy ns cn on rd len) (tl : Int32) : f_X5_count pl to ks os cs ys ns rd len tl 0 = some (nI (sp a)) ∧ f_X5_count pl to ks os cs ys ns rd len tl 1 = some (nI (sn a)) ∧ f_X5_count pl to ks os cs ys ns rd len tl 2 = some (nI (tot (FY a) 6)) ∧ f_X5_count pl to ks os cs ys ns rd len tl 3 = some (nI (tot (FN a) 6)) ∧ f_X5_count pl to ks os cs ys ns rd len tl 4 = some (nI (um a (FY a) (FN a) 6)) ∧ f_X5_count pl to ks os cs ys ns rd len tl 5 = some (nI (rk a e0 E0)) ∧ (¬ brk a (FY a) (FN a) → f_X5_count pl to ks os cs ys ns rd len tl 6 = some 0) ∧ f_X5_count pl to ks os cs ys ns rd len tl 7 = some (nI (kf (FY a) 3)) := by
  obtain ⟨hw, h40, hf, hm, hh⟩ := H
  obtain ⟨my, mn, _, _⟩ := hm.y
  obtain ⟨rb, e1, q1⟩ := areBroken_ok hw hf my mn
  have er : rd = nI (rk a e0 E0) := by obtain ⟨k, _, _, h⟩ := hm; exact h
  unfold f_X5_count
  refine ⟨?_, ?_, ?_, ?_, ?_, ?_, fun hb => ?_, ?_⟩
  · rw [if_pos rfl, hf.1]
  · rw [if_neg (by decide), if_pos rfl, hf.2.1]
  · rw [if_neg (by decide), if_neg (by decide), if_pos rfl, ob1_r (total_ok my)]
  · rw [if_neg (by decide), if_neg (by decide), if_neg (by decide), if_pos rfl, ob1_r (total_ok mn)]
  · rw [if_neg (by decide), if_neg (by decide), if_neg (by decide), if_neg (by decide), if_pos rfl, ob1_r (um_class hw hf my mn)]
  · rw [if_neg (by decide), if_neg (by decide), if_neg (by decide), if_neg (by decide), if_neg (by decide), if_pos rfl, er]
  · rw [if_neg (by decide), if_neg (by decide), if_neg (by decide), if_neg (by decide), if_neg (by decide), if_neg (by decide), if_pos rfl, ob1_r e1, q1.f hb, if_pos rfl]
  · rw [if_neg (by decide), if_neg (by decide), if_neg (by decide), if_neg (by decide), if_neg (by decide), if_neg (by decide), if_neg (by decide), if_pos rfl, ob1_r (kf_class my)]
/-- what the envelope can have of a kind; the one that it has -/
theorem envelope_c (H : CS a pl to ks os cs ys cy oy ns cn on rd len) {κ : Nat} (hκ : κ < 3) : (∃ m, f_X5_envelope ys ns (nI κ) 1 = some m ∧ M18 m ∧ ∀ c, c < 18 → bt m c = (decide (c / 6 = κ) && !FN a 5 c)) ∧ ((∃ c, c < 18 ∧ c / 6 = κ ∧ FY a 5 c = true ∧ f_X5_envelope ys ns (nI κ) 0 = some (nI c)) ∨ ((∀ c, c < 18 → c / 6 = κ → FY a 5 c = false) ∧ f_X5_envelope ys ns (nI κ) 0 = some (-6))) := by
  obtain ⟨hw, h40, hf, hm, hh⟩ := H
  obtain ⟨my, mn, _, _⟩ := hm.y
  obtain ⟨q, h1, _, h3, h5⟩ := kind5 hκ
  have y5 := my 5 (by decide)
  have n5 := mn 5 (by decide)
  unfold f_X5_envelope
  rw [if_neg (nI_pos (by omega)), if_neg (nI_pos (by omega)), if_pos (show nI κ < (3 : Int32) from nI_lt (b := 3) hκ (by decide)), if_pos (show nI κ < (3 : Int32) from nI_lt (b := 3) hκ (by decide)), if_neg (by decide), if_pos rfl, if_pos rfl, ob1_r h1, ob1_r (of5 ns), ob1_r (of5 ys), ob1_r h1]
  refine ⟨⟨_, rfl, m18_and h3, fun c hc => ?_⟩, ?_⟩
  · rw [b_and, b_not _ (by omega), h5 c (by omega), n5.2 c hc]
  · rcases lowest_or (x := ys 5 &&& q) (m18_and y5.1) with u | ⟨c, hc, u1, u2⟩
    · refine Or.inr ⟨fun c hc hk => ?_, ?_⟩
      · have := (m18_z (m18_and y5.1)).mp u c hc
        rw [b_and, y5.2 c hc, h5 c (by omega), decide_eq_true hk, Bool.and_true] at this
        exact this
      · rw [u, f_X5_lowestOf, if_pos rfl, ob1_r rfl]
    · have hlo := lowest_ok (x := ys 5 &&& q) (m18_and y5.1) hc u1 u2
      rw [b_and, y5.2 c hc, h5 c (by omega), Bool.and_eq_true, decide_eq_true_eq] at u1
      exact Or.inl ⟨c, hc, u1.2, u1.1, by rw [ob1_r hlo.1]⟩
/-- a fact of three cards, looked up -/
theorem ofFact_c (H : CS a pl to ks os cs ys cy oy ns cn on rd len) {i : Nat} (hi : i < sn a) {K j x y w : Nat} (e : a.2.2 i = (K, j, x, 6 + y, 12 + w)) (hK : 0 < K) (hK4 : K < 4) (hx : x < 6) (hy : y < 6) (hw6 : w < 6) (hj : j < 1000) :
    f_X5_ofFact to ks os cs (nI i) 0 = some (nI K) ∧ f_X5_ofFact to ks os cs (nI i) 1 = some (if K = 3 then -6 else nI j) ∧ f_X5_ofFact to ks os cs (nI i) 2 = some (nI x) ∧ f_X5_ofFact to ks os cs (nI i) 3 = some (nI (6 + y)) ∧ f_X5_ofFact to ks os cs (nI i) 4 = some (nI (12 + w)) := by
  obtain ⟨hw, h40, hf, hm, hh⟩ := H
  obtain ⟨k1, k2, k3, k4⟩ := hf.2.2 i hi
  have ek : kd a i = K := congrArg (·.1) e
  have eo : ow a i = j := congrArg (·.2.1) e
  have ea : ca a i = x := congrArg (·.2.2.1) e
  have eb : cb a i = 6 + y := congrArg (·.2.2.2.1) e
  have ec : cc a i = 12 + w := congrArg (·.2.2.2.2) e
  have hb : ∀ c, c < 18 → bt (cs i) c = (decide (c = x) || (decide (c = 6 + y) || decide (c = 12 + w))) := fun c hc => by
    rw [k4 c hc]
    unfold inF
    rw [ek, ea, eb, ec, show decide (K ≠ 0) = true from decide_eq_true (by omega), Bool.true_and]
  have g41 : ∀ {α : Type} {k : Option α}, gd (nI i) 41 k = k := gd_r (vp_in_nI (n := i) (by omega) (by decide))
  have nk : ¬ nI K = (0 : Int32) := fun q => by have := (i_eq (b := 0) (by omega) (by decide)).mp q; omega
  have low : ∀ κ, κ < 3 → ∀ m : Int32, M18 m → (∀ z, z < 32 → bt m z = decide (z / 6 = κ)) → f_X5_lowestOf (cs i &&& m) = some (nI (if κ = 0 then x else if κ = 1 then 6 + y else 12 + w)) := by
    intro κ hκ m hm5 h5
    have go : ∀ c, c < 18 → c / 6 = κ → (c = x ∨ c = 6 + y ∨ c = 12 + w) → f_X5_lowestOf (cs i &&& m) = some (nI c) := by
      intro c hc h1 h2
      refine (lowest_ok (m18_and k3) hc ?_ fun z hz => ?_).1
      · rw [b_and, hb c hc, h5 c (by omega), decide_eq_true h1, Bool.and_true]
        rcases h2 with h2 | h2 | h2 <;> simp [h2]
      · rw [b_and, hb z (by omega), h5 z (by omega)]
        rcases Nat.decEq (z / 6) κ with u | u
        · rw [decide_eq_false u, Bool.and_false]
        · rw [decide_eq_false (show ¬ z = x by omega), decide_eq_false (show ¬ z = 6 + y by omega), decide_eq_false (show ¬ z = 12 + w by omega)]
          rfl
    rcases (show κ = 0 ∨ κ = 1 ∨ κ = 2 by omega) with rfl | rfl | rfl
    · rw [if_pos rfl]; exact go x (by omega) (by omega) (Or.inl rfl)
    · rw [if_neg (by decide), if_pos rfl]; exact go (6 + y) (by omega) (by omega) (Or.inr (Or.inl rfl))
    · rw [if_neg (by decide), if_neg (by decide)]; exact go (12 + w) (by omega) (by omega) (Or.inr (Or.inr rfl))
  have low0 : f_X5_lowestOf (cs i) = some (nI x) := (lowest_ok k3 (by omega) (by rw [hb x (by omega)]; simp) (fun z hz => by
    rw [hb z (by omega), decide_eq_false (show ¬ z = x by omega), decide_eq_false (show ¬ z = 6 + y by omega), decide_eq_false (show ¬ z = 12 + w by omega)]
    rfl)).1
  obtain ⟨m1, a1, _, a3, a5⟩ := kind5 (k := 1) (by decide)
  obtain ⟨m2, b1, _, b3, b5⟩ := kind5 (k := 2) (by decide)
  have l1 := low 1 (by decide) m1 a3 a5
  have l2 := low 2 (by decide) m2 b3 b5
  unfold f_X5_ofFact
  rw [show f_X0_has to (nI i) = some 1 from by rw [hf.2.1]; exact has_y (by omega) hi, ob1_r rfl, ob1_r rfl, ob1_r rfl, ob1_r rfl, ob1_r rfl, if_neg one_ne, if_neg one_ne, if_neg one_ne, if_neg one_ne, if_neg one_ne]
  simp only [g41, lt_r, i_cl (show i < 2 ^ 31 by omega), k1, k2, ek, eo]
  refine ⟨?_, ?_, ?_, ?_, ?_⟩
  · rw [if_pos trivial]
  · rw [if_neg (by decide), if_pos trivial]
    rcases Nat.decEq K 3 with u | u
    · rw [if_neg (show ¬ nI K = (3 : Int32) from fun q => u ((i_eq (b := 3) (by omega) (by decide)).mp q)), if_neg u]
    · rw [if_pos (show nI K = (3 : Int32) from by rw [u]; rfl), if_pos u]
  · rw [if_neg (by decide), if_neg (by decide), if_pos trivial, ob1_r low0]
  · rw [if_neg (by decide), if_neg (by decide), if_neg (by decide), if_pos trivial, if_neg nk, ob1_r (show f_X5_cardsOfKind 1 = some m1 from a1), ob1_r l1]
    rfl
  · rw [if_neg (by decide), if_neg (by decide), if_neg (by decide), if_neg (by decide), if_pos trivial, if_neg nk, ob1_r (show f_X5_cardsOfKind 2 = some m2 from b1), ob1_r l2]
    rfl
end
