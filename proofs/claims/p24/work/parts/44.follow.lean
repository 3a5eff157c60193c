/-! ===== a round of the class is the document's round ===== -/
def Has1 (a : Sh) (Y N : Mk) : Prop := (∀ o c, o < 6 → c < 18 → r1y a 0 o c → Y o c = true) ∧ ∀ o c, o < 6 → c < 18 → r1n a 0 o c → N o c = true
def OwnY (a : Sh) (Y : Mk) : Prop := ∀ o c, o < 6 → c < 18 → Y o c = true → own a o
theorem round_tail {a : Sh} (hw : WF a) {t : Prop} {pl to : Int32} {ks os cs : Nat → Int32} (hf : RF pl to ks os cs a) {Y N : Mk} {k : Nat} (hk : k + 1 < 1000) {T1 T2 T3 T4 : Gh} {ys cy oy ns cn on : Nat → Int32} (hown : OwnY a Y) {s1' s2' : Gh} (hY : RC t Y s1' k T1 T2 ys cy oy) (hN : RC t N s2' k T3 T4 ns cn on) (e1 : eqR s1' (app g0 Y 1 (r1y a 0))) (e2 : eqR s2' (app g0 N 1 (r1n a 0))) :
    ∃ b ys' cy' oy' ns' cn' on', f_X2_makeRound_J12 ys (nI (k + 1)) ns (nI (k + 1)) pl to ks os cs cy oy cn on = some (b, ys', cy', oy', nI (k + 2), ns', cn', on', nI (k + 2)) ∧ RC t (nx k (Y, T1, T2) (gY a Y N)).1 g0 (k + 1) (nx k (Y, T1, T2) (gY a Y N)).2.1 (nx k (Y, T1, T2) (gY a Y N)).2.2 ys' cy' oy' ∧ RC t (nx k (N, T3, T4) (gN a Y N)).1 g0 (k + 1) (nx k (N, T3, T4) (gN a Y N)).2.1 (nx k (N, T3, T4) (gN a Y N)).2.2 ns' cn' on' ∧ IM b (gY a Y N) (gN a Y N) := by
  have hp : pl = nI (sp a) := hf.1
  have mY := hY.mb
  have mN := hN.mb
  unfold f_X2_makeRound_J12
  rw [hp]
  obtain ⟨x1, x2, τ2, f1, f2, f3⟩ := oth_ok hw hk (ys := ys) mY hown hN
  rw [ob2_r f1]
  obtain ⟨x3, x4, τ1, f4, f5, f6⟩ := las_ok hw hk (ns := ns) mN hY
  rw [ob2_r f4]
  obtain ⟨x5, x6, x7, x8, g1, g2, g3⟩ := hand_go hw hk (ys := ys) (ns := ns) 8 0 FU rfl (by decide) x3 x4 x1 x2 τ1 τ2 f5 f2
  rw [show f_X2_followHands ys x3 x4 (nI (k + 1)) ns x1 x2 (nI (k + 1)) (nI (sp a)) = _ from g1, ob4_r rfl]
  obtain ⟨x9, y1, y2, y3, g4, g5, g6⟩ := thr_go hw hf hk (ys := ys) (ns := ns) (sn a) 0 FU (by omega) (Nat.lt_of_le_of_lt hw.2.2.1 (by decide)) x5 x6 x7 x8 _ _ g2 g3
  rw [show f_X2_followThrees ys x5 x6 (nI (k + 1)) ns x7 x8 (nI (k + 1)) to ks os cs = _ from g4, ob4_r rfl]
  have EY : eqR _ (gY a Y N) := app_r (app_r (fun o c ho hc => (f6 o c ho hc).trans (app_r e1 (fun _ _ _ _ => Iff.rfl) o c ho hc)) (c_P5 hw mN)) (c_RT hw mN)
  have EN : eqR _ (gN a Y N) := app_r (app_r (fun o c ho hc => (f3 o c ho hc).trans (app_r e2 (fun _ _ _ _ => Iff.rfl) o c ho hc)) (c_P4 hw mY)) (c_RT hw mY)
  obtain ⟨r1, z1, z2, h1, h2, h3⟩ := make_ok (g5.cong EY)
  obtain ⟨r2, z3, z4, h4, h5, h6⟩ := make_ok (g6.cong EN)
  rw [ob4_r h1, ob4_r h4]
  rcases h2 with ⟨rfl, o, c, ho, hc, q⟩ | ⟨rfl, q⟩
  · rw [if_neg (by decide)]
    exact ⟨1, z1, z2, y1, z3, z4, y3, rfl, h3, h6, Or.inl ⟨rfl, o, c, ho, hc, Or.inl q⟩⟩
  · rw [if_pos rfl]
    rcases h5 with ⟨rfl, o, c, ho, hc, q2⟩ | ⟨rfl, q2⟩
    · rw [if_neg (by decide)]
      exact ⟨1, z1, z2, y1, z3, z4, y3, rfl, h3, h6, Or.inl ⟨rfl, o, c, ho, hc, Or.inr q2⟩⟩
    · rw [if_pos rfl]
      exact ⟨0, z1, z2, y1, z3, z4, y3, rfl, h3, h6, Or.inr ⟨rfl, fun o c ho hc => ⟨q o c ho hc, q2 o c ho hc⟩⟩⟩
theorem round_ok {a : Sh} (hw : WF a) {t : Prop} {pl to : Int32} {ks os cs : Nat → Int32} (hf : RF pl to ks os cs a) {Y N : Mk} {k : Nat} (hk : k + 1 < 1000) {T1 T2 T3 T4 : Gh} {ys cy oy ns cn on : Nat → Int32} (hown : OwnY a Y) (hY : RC t Y g0 k T1 T2 ys cy oy) (hN : RC t N g0 k T3 T4 ns cn on) {r : Nat} (hr : r < 1000) (h1 : r = 0 ∨ Has1 a Y N) :
    ∃ b ys' cy' oy' ns' cn' on', f_X2_makeRound ys cy oy (nI (k + 1)) ns cn on (nI (k + 1)) (nI r) pl to ks os cs = some (b, ys', cy', oy', nI (k + 2), ns', cn', on', nI (k + 2)) ∧ RC t (nx k (Y, T1, T2) (gY a Y N)).1 g0 (k + 1) (nx k (Y, T1, T2) (gY a Y N)).2.1 (nx k (Y, T1, T2) (gY a Y N)).2.2 ys' cy' oy' ∧ RC t (nx k (N, T3, T4) (gN a Y N)).1 g0 (k + 1) (nx k (N, T3, T4) (gN a Y N)).2.1 (nx k (N, T3, T4) (gN a Y N)).2.2 ns' cn' on' ∧ IM b (gY a Y N) (gN a Y N) := by
  unfold f_X2_makeRound
  rcases Nat.decEq r 0 with q | q
  · rw [if_neg (show ¬ nI r = (0 : Int32) from fun e => q ((i_eq (b := 0) (by omega) (by decide)).mp e))]
    have hh := h1.resolve_left q
    exact round_tail hw hf hk hown hY hN (fun o c ho hc => (ifp_f (fun w => by rw [hh.1 o c ho hc w.2.2] at w; exact Bool.noConfusion w.2.1)).symm) (fun o c ho hc => (ifp_f (fun w => by rw [hh.2 o c ho hc w.2.2] at w; exact Bool.noConfusion w.2.1)).symm)
  · rw [if_pos (show nI r = (0 : Int32) from by rw [q]; rfl)]
    obtain ⟨x1, x2, x3, x4, g1, g2, g3⟩ := seen_go hw hf hk (ys := ys) (ns := ns) (sn a) 0 FU (by omega) (Nat.lt_of_le_of_lt hw.2.2.1 (by decide)) cy oy cn on g0 g0 hY hN
    rw [show f_X2_followWhatWasSeen ys cy oy (nI (k + 1)) ns cn on (nI (k + 1)) to ks os cs = _ from g1, ob4_r rfl]
    exact round_tail hw hf hk hown g2 g3 eqR.rf eqR.rf
/-! ===== the rounds of the class are the document's rounds, from any marks on ===== -/
def e0 : Ex := (0, 0, 0)
theorem hY_e0 {a : Sh} {k : Nat} {Y N : Mk} : hY a e0 k Y N = gY a Y N := app_no (fun _ _ h => by have := h.2.1; exact absurd this (by decide))
theorem hN_e0 {a : Sh} {k : Nat} {Y N : Mk} : hN a e0 k Y N = gN a Y N := app_no (fun _ _ h => by have := h.2.1; exact absurd this (by decide))
theorem gY_1 {a : Sh} {Y N : Mk} {o c : Nat} (h : r1y a 0 o c) (q : Y o c = false) : gY a Y N o c ≠ 0 := by
  have s : ∀ {σ : Gh} {M : Mk} {r : Nat} {P : Nat → Nat → Prop}, r ≠ 0 → σ o c ≠ 0 → app σ M r P o c ≠ 0 := fun {σ M r P} hr z => by
    rcases Classical.em (σ o c = 0 ∧ M o c = false ∧ P o c) with w | w
    · exact absurd w.1 z
    · rw [show app σ M r P o c = σ o c from ifp_f w]; exact z
  exact s (by decide) (s (by decide) (s (by decide) (by rw [show app g0 Y 1 (r1y a 0) o c = 1 from ifp_t ⟨rfl, q, h⟩]; decide)))
theorem gN_1 {a : Sh} {Y N : Mk} {o c : Nat} (h : r1n a 0 o c) (q : N o c = false) : gN a Y N o c ≠ 0 := by
  have s : ∀ {σ : Gh} {M : Mk} {r : Nat} {P : Nat → Nat → Prop}, r ≠ 0 → σ o c ≠ 0 → app σ M r P o c ≠ 0 := fun {σ M r P} hr z => by
    rcases Classical.em (σ o c = 0 ∧ M o c = false ∧ P o c) with w | w
    · exact absurd w.1 z
    · rw [show app σ M r P o c = σ o c from ifp_f w]; exact z
  exact s (by decide) (s (by decide) (s (by decide) (by rw [show app g0 N 1 (r1n a 0) o c = 1 from ifp_t ⟨rfl, q, h⟩]; decide)))
theorem gY_own {a : Sh} (hw : WF a) {Y N : Mk} {o c : Nat} (h : gY a Y N o c ≠ 0) : own a o := by
  apply Classical.byContradiction
  intro w
  apply h
  have s : ∀ {σ : Gh} {M : Mk} {r : Nat} {P : Nat → Nat → Prop}, σ o c = 0 → ¬ P o c → app σ M r P o c = 0 := fun {σ M r P} z q => (ifp_f (fun u => q u.2.2)).trans z
  refine s (s (s (s rfl ?_) ?_) ?_) ?_
  · rintro ⟨j, _, hj, k0, ho, _⟩
    subst ho
    exact w (Or.inl ((hw.2.2.2 j hj).2.1 (by omega)))
  · exact fun u => w u.1
  · exact fun u => w u.1
  · rintro ⟨j, hj, k0, ho, _⟩
    subst ho
    exact w (Or.inl ((hw.2.2.2 j hj).2.1 (by omega)))
theorem ic_has1 {a : Sh} {S : S1 × S1} : ∀ k, Has1 a (yK a e0 S (k + 1)) (nK a e0 S (k + 1)) := by
  intro k
  constructor
  · intro o c _ _ h
    show (yK a e0 S k o c || decide (hY a e0 k (yK a e0 S k) (nK a e0 S k) o c ≠ 0)) = true
    rw [hY_e0]
    cases e : yK a e0 S k o c
    · rw [decide_eq_true (gY_1 h e)]
      rfl
    · rfl
  · intro o c _ _ h
    show (nK a e0 S k o c || decide (hN a e0 k (yK a e0 S k) (nK a e0 S k) o c ≠ 0)) = true
    rw [hN_e0]
    cases e : nK a e0 S k o c
    · rw [decide_eq_true (gN_1 h e)]
      rfl
    · rfl
theorem ic_own {a : Sh} (hw : WF a) {S : S1 × S1} (h : OwnY a S.1.1) : ∀ k, OwnY a (yK a e0 S k)
  | 0 => h
  | k + 1 => fun o c ho hc q => by
    have q' : (yK a e0 S k o c || decide (hY a e0 k (yK a e0 S k) (nK a e0 S k) o c ≠ 0)) = true := q
    rw [hY_e0, Bool.or_eq_true, decide_eq_true_eq] at q'
    rcases q' with q' | q'
    · exact ic_own hw h k o c ho hc q'
    · exact gY_own hw q'
/-- what the class' rows are when it has followed the facts from the marks S on -/
def Fol (a : Sh) (t : Prop) (S : S1 × S1) (ys cy oy ns cn on : Nat → Int32) (rd : Int32) : Prop := ∃ k, RC t (yK a e0 S (rk a e0 S)) g0 k (it a e0 S (rk a e0 S)).1.2.1 (it a e0 S (rk a e0 S)).1.2.2 ys cy oy ∧ RC t (nK a e0 S (rk a e0 S)) g0 k (it a e0 S (rk a e0 S)).2.2.1 (it a e0 S (rk a e0 S)).2.2.2 ns cn on ∧ rd = nI (rk a e0 S)
theorem RC.k0 {t : Prop} {M : Mk} {k k' : Nat} {TR TL : Gh} {st cm og : Nat → Int32} (h : RC t M g0 k TR TL st cm og) : RC t M g0 k' TR TL st cm og := fun o ho => ⟨(h o ho).1, (h o ho).2.1, fun c hc => by
  obtain ⟨h1, h2, h3, h4⟩ := (h o ho).2.2 c hc
  exact ⟨h1, h2, h3, fun q => ⟨(h4 q).1, fun w => absurd rfl w⟩⟩⟩
theorem nx_same {k : Nat} {s : S1} {σ : Gh} (e : eqR σ g0) {t : Prop} {k1 : Nat} {st cm og : Nat → Int32} (h : RC t (nx k s σ).1 g0 k1 (nx k s σ).2.1 (nx k s σ).2.2 st cm og) : RC t s.1 g0 k1 s.2.1 s.2.2 st cm og := fun o ho => ⟨(h o ho).1, (h o ho).2.1, fun c hc => by
  obtain ⟨h1, h2, h3, h4⟩ := (h o ho).2.2 c hc
  have e2 : σ o c = 0 := e o c ho hc
  have h1' : bt (st o) c = (s.1 o c || decide (σ o c ≠ 0)) := h1
  rw [e2] at h1'
  refine ⟨by rw [h1']; cases s.1 o c <;> rfl, h2, fun w => absurd rfl w, fun q => ⟨fun w => ?_, fun w => absurd rfl w⟩⟩
  have := (h4 q).1 (show (s.1 o c || decide (σ o c ≠ 0)) = true from by rw [w]; rfl)
  have h5 : og (18 * o + c) = nI ((if s.1 o c = true then s.2.1 o c else k + 1) * 8 + (if s.1 o c = true then s.2.2 o c else σ o c)) := this
  rw [if_pos w, if_pos w] at h5
  exact h5⟩
theorem fol_go {a : Sh} (hw : WF a) {t : Prop} {pl to : Int32} {ks os cs : Nat → Int32} (hf : RF pl to ks os cs a) {S : S1 × S1} (hS : OwnY a S.1.1) : ∀ (d k fuel : Nat), k + d = rk a e0 S → d < fuel → ∀ (ys cy oy ns cn on : Nat → Int32), RC t (yK a e0 S k) g0 k (it a e0 S k).1.2.1 (it a e0 S k).1.2.2 ys cy oy → RC t (nK a e0 S k) g0 k (it a e0 S k).2.2.1 (it a e0 S k).2.2.2 ns cn on →
    ∃ ys' cy' oy' q1 ns' cn' on' q2 rd, lo9 (f_X2_follow_L5 pl to ks os cs) fuel ys cy oy (nI (k + 1)) ns cn on (nI (k + 1)) (nI k) = some (ys', cy', oy', q1, ns', cn', on', q2, rd) ∧ Fol a t S ys' cy' oy' ns' cn' on' rd := by
  have hR := rk_le a e0 S
  intro d
  induction d with
  | zero =>
    intro k fuel h1 h2 ys cy oy ns cn on hY hN
    obtain ⟨f, rfl⟩ : ∃ f, fuel = f + 1 := ⟨fuel - 1, by omega⟩
    have hk : k = rk a e0 S := by omega
    have hhead : lo9 (f_X2_follow_L5 pl to ks os cs) (f + 1) ys cy oy (nI (k + 1)) ns cn on (nI (k + 1)) (nI k) = f_X2_follow_L5 pl to ks os cs (lo9 (f_X2_follow_L5 pl to ks os cs) f) ys cy oy (nI (k + 1)) ns cn on (nI (k + 1)) (nI k) := rfl
    rw [hhead, f_X2_follow_L5]
    rcases Nat.lt_or_ge k 216 with u | u
    · rw [if_neg (show ¬ (216 : Int32) ≤ nI k from nle (a := 216) (by decide) (by omega) u)]
      obtain ⟨b, z1, z2, z3, z4, z5, z6, g1, g2, g3, g4⟩ := round_ok hw hf (by omega) (ic_own hw hS k) hY hN (r := k) (by omega) (by
        rcases Nat.eq_zero_or_pos k with q | q
        · exact Or.inl q
        · obtain ⟨m, rfl⟩ : ∃ m, k = m + 1 := ⟨k - 1, by omega⟩
          exact Or.inr (ic_has1 m))
      rw [ob9_r g1]
      have g4' : IM b (hYk a e0 S k) (hNk a e0 S k) := by
        unfold hYk hNk
        rw [hY_e0, hN_e0]
        exact g4
      obtain ⟨rfl, c1, c2⟩ := im_nomore g4' (by rw [hk]; exact rk_no a e0 S)
      rw [if_pos rfl]
      unfold hYk at c1
      unfold hNk at c2
      rw [hY_e0] at c1
      rw [hN_e0] at c2
      refine ⟨_, _, _, _, _, _, _, _, _, rfl, k + 1, ?_, ?_, by rw [hk]⟩
      · rw [← hk]
        exact nx_same (s := (it a e0 S k).1) c1 g2
      · rw [← hk]
        exact nx_same (s := (it a e0 S k).2) c2 g3
    · rw [if_pos (show (216 : Int32) ≤ nI k from nI_le (a := 216) u (by omega))]
      refine ⟨_, _, _, _, _, _, _, _, _, rfl, k, ?_, ?_, by rw [hk]⟩
      · rw [← hk]; exact hY
      · rw [← hk]; exact hN
  | succ d ih =>
    intro k fuel h1 h2 ys cy oy ns cn on hY hN
    obtain ⟨f, rfl⟩ : ∃ f, fuel = f + 1 := ⟨fuel - 1, by omega⟩
    have hhead : lo9 (f_X2_follow_L5 pl to ks os cs) (f + 1) ys cy oy (nI (k + 1)) ns cn on (nI (k + 1)) (nI k) = f_X2_follow_L5 pl to ks os cs (lo9 (f_X2_follow_L5 pl to ks os cs) f) ys cy oy (nI (k + 1)) ns cn on (nI (k + 1)) (nI k) := rfl
    rw [hhead, f_X2_follow_L5, if_neg (show ¬ (216 : Int32) ≤ nI k from nle (a := 216) (by decide) (by omega) (by omega))]
    obtain ⟨b, z1, z2, z3, z4, z5, z6, g1, g2, g3, g4⟩ := round_ok hw hf (by omega) (ic_own hw hS k) hY hN (r := k) (by omega) (by
      rcases Nat.eq_zero_or_pos k with q | q
      · exact Or.inl q
      · obtain ⟨m, rfl⟩ : ∃ m, k = m + 1 := ⟨k - 1, by omega⟩
        exact Or.inr (ic_has1 m))
    rw [ob9_r g1]
    have g4' : IM b (hYk a e0 S k) (hNk a e0 S k) := by
      unfold hYk hNk
      rw [hY_e0, hN_e0]
      exact g4
    have hb := im_more g4' (rk_yes (by omega))
    subst hb
    rw [if_neg (by decide)]
    unfold lt'
    dsimp only
    rw [nI_1]
    refine ih (k + 1) f (by omega) (by omega) z1 z2 z3 z4 z5 z6 ?_ ?_
    · have e : (it a e0 S (k + 1)).1 = nx k (it a e0 S k).1 (gY a (yK a e0 S k) (nK a e0 S k)) := congrArg (nx k (it a e0 S k).1) (hY_e0 (a := a) (k := k) (Y := yK a e0 S k) (N := nK a e0 S k))
      show RC t (it a e0 S (k + 1)).1.1 g0 (k + 1) _ _ _ _ _
      rw [e]
      exact g2
    · have e : (it a e0 S (k + 1)).2 = nx k (it a e0 S k).2 (gN a (yK a e0 S k) (nK a e0 S k)) := congrArg (nx k (it a e0 S k).2) (hN_e0 (a := a) (k := k) (Y := yK a e0 S k) (N := nK a e0 S k))
      show RC t (it a e0 S (k + 1)).2.1 g0 (k + 1) _ _ _ _ _
      rw [e]
      exact g3
theorem follow_ok {a : Sh} (hw : WF a) {t : Prop} {pl to : Int32} {ks os cs : Nat → Int32} (hf : RF pl to ks os cs a) {S : S1 × S1} (hS : OwnY a S.1.1) {ys cy oy ns cn on : Nat → Int32} (hY : RC t S.1.1 g0 0 S.1.2.1 S.1.2.2 ys cy oy) (hN : RC t S.2.1 g0 0 S.2.2.1 S.2.2.2 ns cn on) (rd0 : Int32) :
    ∃ ys' cy' oy' q1 ns' cn' on' q2 rd, f_X2_follow ys cy oy (1 : Int32) ns cn on (1 : Int32) rd0 pl to ks os cs = some (ys', cy', oy', q1, ns', cn', on', q2, rd) ∧ Fol a t S ys' cy' oy' ns' cn' on' rd := by
  unfold f_X2_follow
  exact fol_go hw hf hS (rk a e0 S) 0 FU (by omega) (by have := rk_le a e0 S; have := fu_big; omega) ys cy oy ns cn on hY hN

