/-! ===== a new sheet: nothing must be ===== -/
def dl (p e r c : Nat) : Nat := if c % 6 = e then 5 else ((5 * (c / 6) + (if c % 6 < e then c % 6 else c % 6 - 1) + r) % 15) % p
def dlc (p e r : Nat) : Bool := (List.range 6).all fun o => !(decide (o < p) || decide (o = 5)) || (List.range 3).all fun κ => decide (fb_ct (fun c => decide (dl p e r c = o) && hin o κ c) 18 = if o = 5 then 1 else 15 / p + (if o < 15 % p then 1 else 0))
theorem dlc_y : ∀ p, p < 6 → 2 ≤ p → ∀ e, e < 6 → ∀ r, r < 15 → dlc p e r = true := by decide +kernel
def dlo (p e r : Nat) : Bool := (List.range 18).all fun c => decide (dl p e r c < p) || decide (dl p e r c = 5)
theorem dlo_y : ∀ p, p < 6 → 2 ≤ p → ∀ e, e < 6 → ∀ r, r < 15 → dlo p e r = true := by decide +kernel
theorem dl_ok (p : Nat) (hp : p < 6) (hp2 : 2 ≤ p) (e : Nat) (he : e < 6) (r : Nat) (hr : r < 15) : (∀ c, c < 18 → dl p e r c < p ∨ dl p e r c = 5) ∧ ∀ o, o < 6 → (o < p ∨ o = 5) → ∀ κ, κ < 3 → fb_ct (fun c => decide (dl p e r c = o) && hin o κ c) 18 = if o = 5 then 1 else 15 / p + (if o < 15 % p then 1 else 0) := by
  refine ⟨fun c hc => ?_, fun o ho w κ hκ => ?_⟩
  · have h := List.all_eq_true.mp (dlo_y p hp hp2 e he r hr) c (List.mem_range.mpr hc)
    rw [Bool.or_eq_true, decide_eq_true_eq, decide_eq_true_eq] at h
    exact h
  have h := List.all_eq_true.mp (dlc_y p hp hp2 e he r hr) o (List.mem_range.mpr ho)
  have h1 : (decide (o < p) || decide (o = 5)) = true := by
    rw [Bool.or_eq_true, decide_eq_true_eq, decide_eq_true_eq]
    exact w
  rw [h1, Bool.not_true, Bool.false_or] at h
  exact of_decide_eq_true (List.all_eq_true.mp h κ (List.mem_range.mpr hκ))
theorem dl_has : ∀ p, p < 6 → 2 ≤ p → ∀ o, o < 6 → (o < p ∨ o = 5) → ∀ c, c < 18 → ((List.range 90).any fun q => decide (dl p (q / 15) (q % 15) c = o)) = true := by decide +kernel
theorem dl_not : ∀ p, p < 6 → 2 ≤ p → ∀ o, o < 6 → (o < p ∨ o = 5) → ∀ c, c < 18 → ((List.range 90).any fun q => decide (dl p (q / 15) (q % 15) c ≠ o)) = true := by decide +kernel
theorem gd_dl {p : Nat} (hp2 : 2 ≤ p) (hp5 : p ≤ 5) {q : Nat} (hq : q < 90) : GD (shNew p) (dl p (q / 15) (q % 15)) := by
  obtain ⟨h1, h2⟩ := dl_ok p (by omega) hp2 (q / 15) (by omega) (q % 15) (Nat.mod_lt _ (by decide))
  exact ⟨h1, fun o κ w hκ => h2 o (by rcases w with w | w; have : o < p := w; omega; omega) w κ hκ⟩
theorem wf_new {p : Nat} (hp2 : 2 ≤ p) (hp5 : p ≤ 5) : WF (shNew p) := wf_iff.mpr ⟨hp2, hp5, Nat.zero_le _, fun i h => absurd h (Nat.not_lt_zero i)⟩
theorem tf_new (p : Nat) (δ : Dl) : TF (shNew p) δ := fun j hj => absurd hj (Nat.not_lt_zero j)
theorem mv_new {p : Nat} (hp2 : 2 ≤ p) (hp5 : p ≤ 5) {o c : Nat} (w : own (shNew p) o) (hc : c < 18) : mv (shNew p) o c = 0 := by
  have hw := wf_new hp2 hp5
  have ho := own6 hw w
  obtain ⟨q, hq, e⟩ := List.any_eq_true.mp (dl_has p (by omega) hp2 o ho w c hc)
  obtain ⟨q', hq', e'⟩ := List.any_eq_true.mp (dl_not p (by omega) hp2 o ho w c hc)
  rw [List.mem_range] at hq hq'
  rw [decide_eq_true_eq] at e e'
  have h1 : ¬ BE (shNew p) (1, o, c) := sound_nb hw (gd_dl hp2 hp5 hq) (tf_new p _) ⟨fun _ => e, fun h => absurd (show (1 : Nat) = 2 from h) (by decide)⟩
  have h2 : ¬ BE (shNew p) (2, o, c) := sound_nb hw (gd_dl hp2 hp5 hq') (tf_new p _) ⟨fun h => absurd (show (2 : Nat) = 1 from h) (by decide), fun _ => ⟨w, e'⟩⟩
  unfold mv
  rw [ifp_f h1, ifp_f h2]
theorem dd_new {p : Nat} (hp2 : 2 ≤ p) (hp5 : p ≤ 5) : ∀ k, dd (shNew p) k = 0
  | 0 => rfl
  | k + 1 => by
    have hi : ∀ n, n ≤ 18 → di (shNew p) k n = 0 := by
      intro n
      induction n with
      | zero => intro _; rfl
      | succ n ih =>
        intro hn
        show di (shNew p) k n + dp (shNew p) k n = 0
        rw [ih (by omega), Nat.zero_add]
        unfold dp
        exact ifp_f fun q => q.2.2.2 (mv_new hp2 hp5 q.1 (by omega))
    show dd (shNew p) k + di (shNew p) k 18 = 0
    rw [dd_new hp2 hp5 k, hi 18 (Nat.le_refl _)]
/-! ===== the law's body answers 1 ===== -/
section
variable {a : Sh} {δ : Dl} {pl to : Int32} {ks os cs ys cy oy ns cn on : Nat → Int32} {rd len tl : Int32} {d : Nat → Int32}
abbrev R26 : Type := Int32 → Int32 → (Nat → Int32) → (Nat → Int32) → (Nat → Int32) → (Nat → Int32) → (Nat → Int32) → (Nat → Int32) → Int32 → (Nat → Int32) → (Nat → Int32) → (Nat → Int32) → Int32 → Int32 → (Nat → Int32) → (Nat → Int32) → (Nat → Int32) → Int32 → (Nat → Int32) → (Nat → Int32) → (Nat → Int32) → Int32 → Int32 → AdT → Int32 → (Nat → StT) → Option Int32
/-- behind what was told: all marks are looked at, two that must be, at times the best question -/
theorem tail_ok (H : CS a pl to ks os cs ys cy oy ns cn on rd len) (hg : GD a δ) (ht : TF a δ) (hd : DR d (sp a) δ) {L : Nat} (hL : L ≤ 260) (xs : Nat → Int32) {k : Nat} (hk : k < 30) (h : Int32) {j : Nat} (hj : j < sp a) (rec : R26) {sc sd : Nat → Int32} (z1 : Zc sc) (z2 : Zc sd) (yr nr : Int32) (sy so sn' son : Nat → Int32) (syr snr srd : Int32) (ad : AdT) (st : Nat → StT) :
    ∃ to' ks' os' cs' e1 e2 e3 e4 e5 e6 e7 e8 e9, f_L_law_J366 tl d L xs (nI (sp a)) pl rec (nI k) h (nI j) 1 to ks os cs ys cy oy yr ns cn on nr rd sy sc so syr sn' sd son snr srd ad len st = rec (nI (k + 1)) to' ks' os' cs' ys cy oy yr ns cn on nr rd e1 e2 e3 e4 e5 e6 e7 e8 e9 ad len st ∧ CS a pl to' ks' os' cs' ys cy oy ns cn on rd len ∧ Zc e2 ∧ Zc e6 := by
  have hw := H.1
  have hp2 := hw.1
  have hp := hw.2.1
  obtain ⟨x, hx, ex⟩ := low6 (h >>> ((15 : Int32) &&& 31))
  have go : ∀ o, own a o → ∃ to' ks' os' cs' e1 e2 e3 e4 e5 e6 e7 e8 e9, f_L_law_J390 tl d L xs pl rec (nI k) h (nI j) 1 to ks os cs ys cy oy yr ns cn on nr rd sy sc so syr sn' sd son snr srd ad len st (nI o) = rec (nI (k + 1)) to' ks' os' cs' ys cy oy yr ns cn on nr rd e1 e2 e3 e4 e5 e6 e7 e8 e9 ad len st ∧ CS a pl to' ks' os' cs' ys cy oy ns cn on rd len ∧ Zc e2 ∧ Zc e6 := by
    intro o w
    obtain ⟨c1, hc1, e1⟩ := low_ok (h >>> ((18 : Int32) &&& 31)) (n := 18) (by decide) (by decide)
    obtain ⟨c2, hc2, e2⟩ := low_ok (h >>> ((21 : Int32) &&& 31)) (n := 18) (by decide) (by decide)
    obtain ⟨a1, a2, a3, a4, a5, a6, a7, a8, a9, m1, m2, m3⟩ := musts_ok H hg ht hd w hc1 z1 z2 sy so sn' son syr snr srd
    obtain ⟨b1, b2, b3, b4, b5, b6, b7, b8, b9, m4, m5, m6⟩ := musts_ok H hg ht hd (o := 5) (Or.inr rfl) hc2 m2 m3 a1 a3 a5 a7 a4 a8 a9
    rw [f_L_law_J390, if_neg one_ne, ob1_r (isTrue_ok H hg ht hd), if_neg one_ne, ob1_r (show f_L_low (h >>> ((18 : Int32) &&& 31)) (18 : Int32) = some (nI c1) from e1), ob10_r m1, if_neg one_ne, ob1_r (show f_L_low (h >>> ((21 : Int32) &&& 31)) (18 : Int32) = some (nI c2) from e2), ob10_r (show f_L_musts pl to ks os cs ys oy ns on a1 a2 a3 a4 a5 a6 a7 a8 a9 d (5 : Int32) (nI c2) = _ from m4), if_neg one_ne, nI_1]
    rcases Decidable.em (nI k = (20 : Int32)) with u | u
    · rw [if_pos u]
      obtain ⟨x0, ex0⟩ := cell_ok hL xs (i := 0) (by decide)
      obtain ⟨y0, hy0, ey0⟩ := low_ok (x0 >>> ((5 : Int32) &&& 31)) (n := 3) (by decide) (by decide)
      rw [ob1_r (show f_L_cell L xs (0 : Int32) = some x0 from ex0), ob1_r (show f_L_low (x0 >>> ((5 : Int32) &&& 31)) (3 : Int32) = some (nI y0) from ey0)]
      rcases Decidable.em (nI y0 = (0 : Int32)) with v | v
      · rw [if_pos v]
        obtain ⟨to', ks', os', cs', f1, f2, f3, f4, f5, f6, f7, f8, f9, q1, q2, q3, q4⟩ := question_ok H hj h m5 m6 b1 b3 b5 b7 b4 b8 b9
        rw [ob14_r q1, if_neg one_ne]
        exact ⟨_, _, _, _, _, _, _, _, _, _, _, _, _, rfl, q2, q3, q4⟩
      · rw [if_neg v]
        exact ⟨_, _, _, _, _, _, _, _, _, _, _, _, _, rfl, H, m5, m6⟩
    · rw [if_neg u]
      exact ⟨_, _, _, _, _, _, _, _, _, _, _, _, _, rfl, H, m5, m6⟩
  rw [f_L_law_J366, ob1_r ex]
  rcases Nat.lt_or_ge x (sp a) with u | u
  · rw [if_neg (nle (by omega) (by omega) u)]
    exact go x (Or.inl u)
  · rw [if_pos (nI_le u (by omega))]
    exact go 5 (Or.inr rfl)
abbrev S26 : Type := Int32 × Int32 × (Nat → Int32) × (Nat → Int32) × (Nat → Int32) × (Nat → Int32) × (Nat → Int32) × (Nat → Int32) × Int32 × (Nat → Int32) × (Nat → Int32) × (Nat → Int32) × Int32 × Int32 × (Nat → Int32) × (Nat → Int32) × (Nat → Int32) × Int32 × (Nat → Int32) × (Nat → Int32) × (Nat → Int32) × Int32 × Int32 × AdT × Int32 × (Nat → StT)
end
/-- one more event: the sheet stays true of the deal -/
theorem step_ok {a : Sh} {δ : Dl} {pl to : Int32} {ks os cs ys cy oy ns cn on : Nat → Int32} {rd len tl : Int32} {d : Nat → Int32} (H : CS a pl to ks os cs ys cy oy ns cn on rd len) (hg : GD a δ) (ht : TF a δ) (hd : DR d (sp a) δ) {L : Nat} (hL : L ≤ 260) (xs : Nat → Int32) {k : Nat} (hk : k < 30) (hn : sn a ≤ k) (rec : R26) {sc sd : Nat → Int32} (z1 : Zc sc) (z2 : Zc sd) (yr nr : Int32) (sy so sn' son : Nat → Int32) (syr snr srd : Int32) (ad : AdT) (st : Nat → StT) :
    ∃ a' to' ks' os' cs' ys' cy' oy' yr' ns' cn' on' nr' rd' e1 e2 e3 e4 e5 e6 e7 e8 e9 ad' len' st', f_L_law_L68 tl d L xs (nI (sp a)) pl rec (nI k) to ks os cs ys cy oy yr ns cn on nr rd sy sc so syr sn' sd son snr srd ad len st = rec (nI (k + 1)) to' ks' os' cs' ys' cy' oy' yr' ns' cn' on' nr' rd' e1 e2 e3 e4 e5 e6 e7 e8 e9 ad' len' st' ∧ CS a' pl to' ks' os' cs' ys' cy' oy' ns' cn' on' rd' len' ∧ sp a' = sp a ∧ sn a' ≤ k + 1 ∧ GD a' δ ∧ TF a' δ ∧ Zc e2 ∧ Zc e6 := by
  have hw := H.1
  have hp2 := hw.1
  have hp := hw.2.1
  have h6 := d6 hw hg
  obtain ⟨h, eh⟩ := cell_ok hL xs (i := 11 + k) (by omega)
  obtain ⟨K, hK, eK⟩ := low_ok h (n := 8) (by decide) (by decide)
  obtain ⟨j, hj, ej⟩ := low_ok (h >>> ((3 : Int32) &&& 31)) (n := sp a) (by omega) (by omega)
  obtain ⟨x, hx, ex⟩ := low6 (h >>> ((6 : Int32) &&& 31))
  obtain ⟨y, hy, ey⟩ := low6 (h >>> ((9 : Int32) &&& 31))
  obtain ⟨w, hw6, ew⟩ := low6 (h >>> ((12 : Int32) &&& 31))
  obtain ⟨_, k1, k2, k3, _⟩ := count_c H tl
  have em : nI (tot (FY a) 6) + nI (tot (FN a) 6) = nI (mks a) := nI_add _ _
  have hm := mks_lt a
  rw [f_L_law_L68, if_neg (show ¬ (30 : Int32) ≤ nI k from nle (a := 30) (by decide) (by omega) hk), show (11 : Int32) + nI k = nI (11 + k) from nI_add 11 k, ob1_r eh, ob1_r (show f_L_low h (8 : Int32) = some (nI K) from eK), ob1_r ej, ob1_r ex, ob1_r ey, ob1_r ew, ob1_r k2, ob1_r k3, lt_r, em]
  -- one fact more, of its own
  have told : ∀ (f : F5t), FW (sp a) f → TFf δ f → mks a ≤ mks (shAdd a f) ∧ TF (shAdd a f) δ ∧ GD (shAdd a f) δ := fun f hF hT => ⟨(GN_t hw (wf_add hw (by omega) hF) hg ht hT).1, tf_add ht hT, gd_same rfl hg⟩
  have inG3 : ∀ K j c, 0 < K → (inG (K, j, x, 6 + y, 12 + w) c = true ↔ (c = x ∨ c = 6 + y ∨ c = 12 + w)) := fun K j c hK => by
    unfold inG
    rw [Bool.or_eq_true, Bool.and_eq_true, Bool.or_eq_true, decide_eq_true_eq, decide_eq_true_eq, decide_eq_true_eq, decide_eq_true_eq]
    exact ⟨fun q => q.imp_right (·.2), fun q => q.imp_right fun q => ⟨by show K ≠ 0; omega, q⟩⟩
  have key5 : ∀ c, c < 18 → (d c = 5 ↔ δ c = 5) := fun c hc => by
    rw [hd.1 c hc]
    exact i_eq (b := 5) (by have := h6 c hc; omega) (by decide)
  -- nothing told
  have none_ok : ∃ a' to' ks' os' cs' ys' cy' oy' yr' ns' cn' on' nr' rd' e1 e2 e3 e4 e5 e6 e7 e8 e9 ad' len' st', f_L_law_J366 tl d L xs (nI (sp a)) pl rec (nI k) h (nI j) 1 to ks os cs ys cy oy yr ns cn on nr rd sy sc so syr sn' sd son snr srd ad len st = rec (nI (k + 1)) to' ks' os' cs' ys' cy' oy' yr' ns' cn' on' nr' rd' e1 e2 e3 e4 e5 e6 e7 e8 e9 ad' len' st' ∧ CS a' pl to' ks' os' cs' ys' cy' oy' ns' cn' on' rd' len' ∧ sp a' = sp a ∧ sn a' ≤ k + 1 ∧ GD a' δ ∧ TF a' δ ∧ Zc e2 ∧ Zc e6 := by
    obtain ⟨to', ks', os', cs', e1, e2, e3, e4, e5, e6, e7, e8, e9, q1, q2, q3, q4⟩ := tail_ok (tl := tl) H hg ht hd hL xs hk h hj rec z1 z2 yr nr sy so sn' son syr snr srd ad st
    exact ⟨a, _, _, _, _, _, _, _, _, _, _, _, _, _, _, _, _, _, _, _, _, _, _, _, _, _, q1, q2, rfl, by omega, hg, ht, q3, q4⟩
  -- behind a fact that was told or taken back
  have after : ∀ (a' : Sh) (to' : Int32) (ks' os' cs' ys' cy' oy' : Nat → Int32) (yr' : Int32) (ns' cn' on' : Nat → Int32) (nr' rd' : Int32) (ad' : AdT) (len' : Int32) (st' : Nat → StT), CS a' pl to' ks' os' cs' ys' cy' oy' ns' cn' on' rd' len' → sp a' = sp a → sn a' ≤ k + 1 → TF a' δ → ∃ a' to'' ks'' os'' cs'' ys'' cy'' oy'' yr'' ns'' cn'' on'' nr'' rd'' e1 e2 e3 e4 e5 e6 e7 e8 e9 ad'' len'' st'', f_L_law_J366 tl d L xs (nI (sp a)) pl rec (nI k) h (nI j) 1 to' ks' os' cs' ys' cy' oy' yr' ns' cn' on' nr' rd' sy sc so syr sn' sd son snr srd ad' len' st' = rec (nI (k + 1)) to'' ks'' os'' cs'' ys'' cy'' oy'' yr'' ns'' cn'' on'' nr'' rd'' e1 e2 e3 e4 e5 e6 e7 e8 e9 ad'' len'' st'' ∧ CS a' pl to'' ks'' os'' cs'' ys'' cy'' oy'' ns'' cn'' on'' rd'' len'' ∧ sp a' = sp a ∧ sn a' ≤ k + 1 ∧ GD a' δ ∧ TF a' δ ∧ Zc e2 ∧ Zc e6 := by
    intro a' to' ks' os' cs' ys' cy' oy' yr' ns' cn' on' nr' rd' ad' len' st' H' hsp hsn ht'
    obtain ⟨to'', ks'', os'', cs'', e1, e2, e3, e4, e5, e6, e7, e8, e9, q1, q2, q3, q4⟩ := tail_ok (tl := tl) H' (gd_same hsp.symm hg) ht' (by rw [hsp]; exact hd) hL xs hk h (by rw [hsp]; exact hj) rec z1 z2 yr' nr' sy so sn' son syr snr srd ad' st'
    rw [hsp] at q1
    exact ⟨a', _, _, _, _, _, _, _, _, _, _, _, _, _, _, _, _, _, _, _, _, _, _, _, _, _, q1, q2, hsp, hsn, gd_same hsp.symm hg, ht', q3, q4⟩
  rcases Nat.lt_or_ge K 5 with u5 | u5
  · -- an answer
    rw [if_neg (show ¬ (5 : Int32) ≤ nI K from nle (a := 5) (by decide) (by omega) u5)]
    obtain ⟨f, to', ks', os', cs', ys', cy', oy', yr', ns', cn', on', nr', rd', e1, e2, e3, e4, e5, e6, e7, e8, e9, ad', len', st', q1, q2, q3, q4, q5⟩ := asks_ok (tl := tl) H hg ht hd (by omega) hj hx hy hw6 z1 z2 yr nr sy so sn' son syr snr srd ad st
    obtain ⟨to'', ks'', os'', cs'', g1, g2, g3, g4, g5, g6, g7, g8, g9, r1, r2, r3, r4⟩ := tail_ok (tl := tl) q2 (gd_same rfl hg) q5 hd hL xs hk h hj rec q3 q4 yr' nr' e1 e3 e5 e7 e4 e8 e9 ad' st'
    rw [ob26_r q1]
    exact ⟨shAdd a f, _, _, _, _, _, _, _, _, _, _, _, _, _, _, _, _, _, _, _, _, _, _, _, _, _, r1, r2, rfl, by show sn a + 1 ≤ k + 1; omega, gd_same rfl hg, q5, r3, r4⟩
  · rw [if_pos (show (5 : Int32) ≤ nI K from nI_le (a := 5) u5 (by omega))]
    rcases Nat.decEq K 5 with v5 | v5
    · rw [if_neg (show ¬ nI K = (5 : Int32) from fun q => v5 ((i_eq (b := 5) (by omega) (by decide)).mp q))]
      rcases Nat.decEq K 6 with v6 | v6
      · -- a fact taken back
        rw [if_neg (show ¬ nI K = (6 : Int32) from fun q => v6 ((i_eq (b := 6) (by omega) (by decide)).mp q)), ob1_r k1]
        rcases Nat.eq_zero_or_pos (sn a) with z | z
        · rw [if_pos (show nI (sn a) ≤ (0 : Int32) from by rw [z]; decide)]
          exact none_ok
        · rw [if_neg (show ¬ nI (sn a) ≤ (0 : Int32) from nI_nle z (by omega)), ob1_r k1]
          obtain ⟨i, hi, ei⟩ := low_ok (h >>> ((6 : Int32) &&& 31)) (n := sn a) z (by omega)
          obtain ⟨to', ks', os', cs', ys', cy', oy', yr', ns', cn', on', nr', rd', ad', len', st', q1, q2⟩ := takeBack_c H hi yr nr ad st
          rw [ob1_r ei, ob17_r q1, if_pos (show nI (sn a - 1) = nI (sn a) - (1 : Int32) from (pk_sub (b := 1) z).symm), f_L_law_J364]
          exact after (shDrop a i) _ _ _ _ _ _ _ _ _ _ _ _ _ _ _ _ q2 rfl (by show sn a - 1 ≤ k + 1; omega) (tf_drop ht hi)
      · -- a wrong guess
        rw [if_pos (show nI K = (6 : Int32) from by rw [v6]; rfl), gd_r (vp_in_nI (n := x) (by omega) (by decide)), i_cl (by omega), show (6 : Int32) + nI y = nI (6 + y) from nI_add 6 y, show (12 : Int32) + nI w = nI (12 + w) from nI_add 12 w, gd_r (vp_in_nI (n := 6 + y) (by omega) (by decide)), gd_r (vp_in_nI (n := 12 + w) (by omega) (by decide)), i_cl (by omega), i_cl (by omega)]
        have tell : (δ x ≠ 5 ∨ δ (6 + y) ≠ 5 ∨ δ (12 + w) ≠ 5) → ∃ a' to' ks' os' cs' ys' cy' oy' yr' ns' cn' on' nr' rd' e1 e2 e3 e4 e5 e6 e7 e8 e9 ad' len' st', f_L_law_J273 tl d L xs (nI (sp a)) pl rec (nI k) to ks os cs ys cy oy yr ns cn on nr rd sy sc so syr sn' sd son snr srd ad len st h (nI j) (nI x) (nI y) (nI w) (nI (mks a)) = rec (nI (k + 1)) to' ks' os' cs' ys' cy' oy' yr' ns' cn' on' nr' rd' e1 e2 e3 e4 e5 e6 e7 e8 e9 ad' len' st' ∧ CS a' pl to' ks' os' cs' ys' cy' oy' ns' cn' on' rd' len' ∧ sp a' = sp a ∧ sn a' ≤ k + 1 ∧ GD a' δ ∧ TF a' δ ∧ Zc e2 ∧ Zc e6 := by
          intro hne
          have hF : FW (sp a) (3, 5, x, 6 + y, 12 + w) := fw_3 (k := 3) (j := 5) (by omega) (by omega) (fun h => absurd h (by decide)) (fun _ => rfl) hx hy hw6
          have hT : TFf δ (3, 5, x, 6 + y, 12 + w) := ⟨fun q => absurd (show (3 : Nat) = 0 from q) (by decide), fun q => absurd (show (3 : Nat) = 1 from q) (by decide), fun q => absurd (show (3 : Nat) = 2 from q) (by decide), fun _ => by
            rcases hne with q | q | q
            · exact ⟨x, by omega, (inG3 3 5 x (by decide)).mpr (Or.inl rfl), q⟩
            · exact ⟨6 + y, by omega, (inG3 3 5 (6 + y) (by decide)).mpr (Or.inr (Or.inl rfl)), q⟩
            · exact ⟨12 + w, by omega, (inG3 3 5 (12 + w) (by decide)).mpr (Or.inr (Or.inr rfl)), q⟩⟩
          obtain ⟨g1, g2, g3⟩ := told _ hF hT
          obtain ⟨to', ks', os', cs', ys', cy', oy', yr', ns', cn', on', nr', rd', ad', len', st', q1, q2⟩ := wrong_c H (by omega) hx hy hw6 yr nr ad st
          obtain ⟨_, c1, _⟩ := count_c q2 tl
          obtain ⟨_, f1, _⟩ := ofFact_c q2 (i := sn a) (by show sn a < sn a + 1; omega) sa_at (by omega) (by omega) hx hy hw6 (by omega)
          have hm2 := mks_lt (shAdd a (3, 5, x, 6 + y, 12 + w))
          rw [f_L_law_J273, f_L_law_J274, if_pos rfl, ob17_r q1, if_neg (nI_nlt g1 (by omega)), ob1_r c1, show nI (sn (shAdd a (3, 5, x, 6 + y, 12 + w))) - (1 : Int32) = nI (sn a) from pk_sub (a := sn a + 1) (b := 1) (by omega), ob1_r f1, if_pos rfl, if_pos rfl, f_L_law_J313, f_L_law_J318]
          exact after _ _ _ _ _ _ _ _ _ _ _ _ _ _ _ _ _ q2 rfl (by show sn a + 1 ≤ k + 1; omega) g2
        rcases Decidable.em (d x = 5) with a1 | a1
        · rw [if_pos a1]
          rcases Decidable.em (d (6 + y) = 5) with a2 | a2
          · rw [if_pos a2]
            rcases Decidable.em (d (12 + w) = 5) with a3 | a3
            · rw [if_pos a3, f_L_law_J274, if_neg one_ne, f_L_law_J313, f_L_law_J318]
              exact none_ok
            · rw [if_neg a3]
              exact tell (Or.inr (Or.inr fun q => a3 ((key5 (12 + w) (by omega)).mpr q)))
          · rw [if_neg a2]
            exact tell (Or.inr (Or.inl fun q => a2 ((key5 (6 + y) (by omega)).mpr q)))
        · rw [if_neg a1]
          exact tell (Or.inl fun q => a1 ((key5 x (by omega)).mpr q))
    · -- a card that is held
      obtain ⟨c, hc, ec⟩ := low_ok (h >>> ((6 : Int32) &&& 31)) (n := 18) (by decide) (by decide)
      rw [if_pos (show nI K = (5 : Int32) from by rw [v5]; rfl), ob1_r (show f_L_low (h >>> ((6 : Int32) &&& 31)) (18 : Int32) = some (nI c) from ec), gd_r (vp_in_nI (n := c) (by omega) (by decide)), gd_r (vp_in_nI (n := c) (by omega) (by decide)), i_cl (by omega)]
      rcases Decidable.em (d c = 5) with a1 | a1
      · rw [if_pos a1, f_L_law_J222, f_L_law_J227]
        exact none_ok
      · rw [if_neg a1, hd.1 c hc]
        have hpl : δ c < sp a := (hg.1 c hc).resolve_right fun q => a1 ((key5 c hc).mpr q)
        have hT : TFf δ (0, δ c, c, 0, 0) := ⟨fun _ => rfl, fun q => absurd (show (0 : Nat) = 1 from q) (by decide), fun q => absurd (show (0 : Nat) = 2 from q) (by decide), fun q => absurd (show (0 : Nat) = 3 from q) (by decide)⟩
        obtain ⟨g1, g2, g3⟩ := told _ (fw_h hpl hc) hT
        obtain ⟨to', ks', os', cs', ys', cy', oy', yr', ns', cn', on', nr', rd', ad', len', st', q1, q2⟩ := holds_c H (by omega) hpl hc yr nr ad st
        have hm2 := mks_lt (shAdd a (0, δ c, c, 0, 0))
        rw [ob17_r q1, if_neg (nI_nlt g1 (by omega)), f_L_law_J222, f_L_law_J227]
        exact after _ _ _ _ _ _ _ _ _ _ _ _ _ _ _ _ _ q2 rfl (by show sn a + 1 ≤ k + 1; omega) g2
