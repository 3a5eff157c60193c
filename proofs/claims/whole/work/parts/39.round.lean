/-! ===== a round, as the document has it ===== -/
def g0 : Gh := fun _ _ => 0
def hin (o κ c : Nat) : Bool := if o = 5 then decide (c / 6 = κ) else true
def s2 (a : Sh) (Y : Mk) : Nat → Nat → Prop := fun x c => own a x ∧ ∃ o, o < 6 ∧ o ≠ x ∧ own a o ∧ Y o c = true
def s3 (a : Sh) (N : Mk) : Nat → Nat → Prop := fun x c => own a x ∧ N x c = false ∧ ∀ o, o < 6 → o ≠ x → own a o → N o c = true
def s4 (a : Sh) (Y : Mk) : Nat → Nat → Prop := fun x c => own a x ∧ ∃ κ, κ < 3 ∧ hin x κ c = true ∧ hs a x ≤ fb_ct (fun c => Y x c && hin x κ c) 18 ∧ Y x c = false
def s5 (a : Sh) (N : Mk) : Nat → Nat → Prop := fun x c => own a x ∧ ∃ κ, κ < 3 ∧ hin x κ c = true ∧ fb_ct (fun c => hin x κ c && !N x c) 18 ≤ hs a x ∧ N x c = false
def sT (a : Sh) (K : Nat) (T : Mk) : Nat → Nat → Prop := fun x c => ∃ j, j < sn a ∧ kd a j = K ∧ x = ow a j ∧ inF a j c = true ∧ T (ow a j) c = false ∧ fb_ct (fun c => inF a j c && T (ow a j) c) 18 = 2
noncomputable def gY (a : Sh) (Y N : Mk) : Gh := app (app (app (app g0 Y 1 (r1y a 0)) Y 3 (s3 a N)) Y 5 (s5 a N)) Y 6 (sT a 2 N)
noncomputable def gN (a : Sh) (Y N : Mk) : Gh := app (app (app (app g0 N 1 (r1n a 0)) N 2 (s2 a Y)) N 4 (s4 a Y)) N 7 (sT a 3 Y)
def eqR (σ τ : Gh) : Prop := ∀ o c, o < 6 → c < 18 → σ o c = τ o c
theorem eqR.rf {σ : Gh} : eqR σ σ := fun _ _ _ _ => rfl
theorem app_r {σ τ : Gh} {M : Mk} {r : Nat} {P Q : Nat → Nat → Prop} (h : eqR σ τ) (hP : ∀ o c, o < 6 → c < 18 → (P o c ↔ Q o c)) : eqR (app σ M r P) (app τ M r Q) := by
  intro o c ho hc
  unfold app
  rw [h o c ho hc]
  exact ifp_c ⟨fun q => ⟨q.1, q.2.1, (hP o c ho hc).mp q.2.2⟩, fun q => ⟨q.1, q.2.1, (hP o c ho hc).mpr q.2.2⟩⟩
theorem RX.cong {M : Mk} {σ τ : Gh} {k : Nat} {TR TL : Gh} {x xR xL : Nat → Int32} (e : eqR σ τ) (h : RX M σ k TR TL x xR xL) : RX M τ k TR TL x xR xL := fun o ho => ⟨(h o ho).1, fun c hc => by
  have := (h o ho).2 c hc
  rw [e o c ho hc] at this
  exact this⟩
theorem IM.cong {q : Int32} {s1 s2 t1 t2 : Gh} (e1 : eqR s1 t1) (e2 : eqR s2 t2) (h : IM q s1 s2) : IM q t1 t2 := by
  rcases h with ⟨e, o, c, h1, h2, h3⟩ | ⟨e, h⟩
  · exact Or.inl ⟨e, o, c, h1, h2, by rw [← e1 o c h1 h2, ← e2 o c h1 h2]; exact h3⟩
  · exact Or.inr ⟨e, fun o c h1 h2 => by rw [← e1 o c h1 h2, ← e2 o c h1 h2]; exact h o c h1 h2⟩
/-- rows that are just the marks -/
def MB (M : Mk) (t : Nat → Int32) : Prop := ∀ o, o < 6 → M18 (t o) ∧ ∀ c, c < 18 → bt (t o) c = M o c
theorem RX.mb {M : Mk} {σ : Gh} {k : Nat} {TR TL : Gh} {x xR xL : Nat → Int32} (h : RX M g0 k TR TL x xR xL) : MB M x := fun o ho => ⟨(h o ho).1, fun c hc => by rw [((h o ho).2 c hc).1]; show (M o c || decide ((0 : Nat) ≠ 0)) = _; cases M o c <;> rfl⟩
theorem b_hm {o κ : Nat} (h : κ < 3) {c : Nat} (hc : c < 18) : bt (hm o κ) c = hin o κ c := by
  unfold hm hin
  split
  · exact b_kind2 κ h c (by omega)
  · exact b_all c hc
theorem c_R2 {a : Sh} {Y : Mk} {yt : Nat → Int32} (h : MB Y yt) : ∀ x c, x < 6 → c < 18 → (R2 a yt x c ↔ s2 a Y x c) := fun x c _ hc => ⟨fun ⟨h1, o, h2, h3, h4, h5⟩ => ⟨h1, o, h2, h3, h4, by rw [← (h o h2).2 c hc]; exact h5⟩, fun ⟨h1, o, h2, h3, h4, h5⟩ => ⟨h1, o, h2, h3, h4, by rw [(h o h2).2 c hc]; exact h5⟩⟩
theorem c_R3 {a : Sh} {N : Mk} {nt : Nat → Int32} (h : MB N nt) : ∀ x c, x < 6 → c < 18 → (c < 18 ∧ R3 a nt x c ↔ s3 a N x c) := fun x c hx hc => ⟨fun ⟨_, h1, h2, h3⟩ => ⟨h1, by rw [← (h x hx).2 c hc]; exact h2, fun o ho hne hw => by rw [← (h o ho).2 c hc]; exact h3 o ho hne hw⟩, fun ⟨h1, h2, h3⟩ => ⟨hc, h1, by rw [(h x hx).2 c hc]; exact h2, fun o ho hne hw => by rw [(h o ho).2 c hc]; exact h3 o ho hne hw⟩⟩
theorem c_4 {Y : Mk} {yt : Nat → Int32} (h : MB Y yt) {x κ : Nat} (hx : x < 6) (hκ : κ < 3) : cnt (yt x &&& hm x κ) = fb_ct (fun c => Y x c && hin x κ c) 18 := fb_ct_cong fun c hc => by rw [b_and, (h x hx).2 c hc, b_hm hκ hc]
theorem c_5 {N : Mk} {nt : Nat → Int32} (h : MB N nt) {x κ : Nat} (hx : x < 6) (hκ : κ < 3) : cnt (hm x κ &&& (nt x ^^^ (-1 : Int32))) = fb_ct (fun c => hin x κ c && !N x c) 18 := fb_ct_cong fun c hc => by rw [b_and, b_not _ (by omega), (h x hx).2 c hc, b_hm hκ hc]
theorem c_R4 {a : Sh} {Y : Mk} {yt : Nat → Int32} (h : MB Y yt) : ∀ x c, x < 6 → c < 18 → ((0 ≤ x ∧ own a x ∧ ∃ κ, κ < 3 ∧ F4 a yt x κ c) ↔ s4 a Y x c) := fun x c hx hc => ⟨fun ⟨_, h1, κ, h2, h3, h4, h5⟩ => ⟨h1, κ, h2, by rw [← b_hm h2 hc]; exact h3, by rw [← c_4 h hx h2]; exact h4, by rw [← (h x hx).2 c hc]; exact h5⟩, fun ⟨h1, κ, h2, h3, h4, h5⟩ => ⟨Nat.zero_le _, h1, κ, h2, by rw [b_hm h2 hc]; exact h3, by rw [c_4 h hx h2]; exact h4, by rw [(h x hx).2 c hc]; exact h5⟩⟩
theorem c_R5 {a : Sh} {N : Mk} {nt : Nat → Int32} (h : MB N nt) : ∀ x c, x < 6 → c < 18 → ((0 ≤ x ∧ own a x ∧ ∃ κ, κ < 3 ∧ F5 a nt x κ c) ↔ s5 a N x c) := fun x c hx hc => ⟨fun ⟨_, h1, κ, h2, h3, h4, h5⟩ => ⟨h1, κ, h2, by rw [← b_hm h2 hc]; exact h3, by rw [← c_5 h hx h2]; exact h4, by rw [← (h x hx).2 c hc]; exact h5⟩, fun ⟨h1, κ, h2, h3, h4, h5⟩ => ⟨Nat.zero_le _, h1, κ, h2, by rw [b_hm h2 hc]; exact h3, by rw [c_5 h hx h2]; exact h4, by rw [(h x hx).2 c hc]; exact h5⟩⟩
theorem ow6 {a : Sh} (hw : WF a) {j : Nat} (hj : j < sn a) : ow a j < 6 := by
  obtain ⟨w1, w2, w3, -⟩ := hw.2.2.2 j hj
  have := hw.2.1
  rcases Nat.lt_or_ge (kd a j) 3 with h | h
  · have := w2 h; omega
  · have := w3 (by omega); omega
theorem c_RT {a : Sh} (hw : WF a) {T : Mk} {t : Nat → Int32} {K : Nat} (h : MB T t) : ∀ x c, x < 6 → c < 18 → ((∃ j, 0 ≤ j ∧ j < sn a ∧ kd a j = K ∧ x = ow a j ∧ FT a t j c) ↔ sT a K T x c) := by
  intro x c hx hc
  have hct : ∀ j, j < sn a → fb_ct (fun c => inF a j c && bt (t (ow a j)) c) 18 = fb_ct (fun c => inF a j c && T (ow a j) c) 18 := fun j hj => fb_ct_cong fun c hc => by rw [(h _ (ow6 hw hj)).2 c hc]
  constructor
  · rintro ⟨j, _, h1, h2, h3, h4, h5, h6⟩
    exact ⟨j, h1, h2, h3, h4, by rw [← (h _ (ow6 hw h1)).2 c hc]; exact h5, by rw [← hct j h1]; exact h6⟩
  · rintro ⟨j, h1, h2, h3, h4, h5, h6⟩
    exact ⟨j, Nat.zero_le _, h1, h2, h3, h4, by rw [(h _ (ow6 hw h1)).2 c hc]; exact h5, by rw [hct j h1]; exact h6⟩
theorem copy_go {z yes no yR yL nR nL : Nat → Int32} {r : Int32} : ∀ (d o fuel : Nat), o + d = 6 → d < fuel → ∀ (yt nt : Nat → Int32), (∀ x, x < o → yt x = yes x ∧ nt x = no x) → ∃ yt' nt' rec, (∀ x, x < 6 → yt' x = yes x ∧ nt' x = no x) ∧ lo3 (f_X6_goRound_L2 z yes no yR yL nR nL r) fuel (nI o) yt nt = f_X6_goRound_L2 z yes no yR yL nR nL r rec (nI 6) yt' nt' := by
  intro d
  induction d with
  | zero =>
    intro o fuel h1 h2 yt nt h
    obtain ⟨f, rfl⟩ : ∃ f, fuel = f + 1 := ⟨fuel - 1, by omega⟩
    have ho : o = 6 := by omega
    subst ho
    exact ⟨yt, nt, _, h, rfl⟩
  | succ d ih =>
    intro o fuel h1 h2 yt nt h
    obtain ⟨f, rfl⟩ : ∃ f, fuel = f + 1 := ⟨fuel - 1, by omega⟩
    have ho : o < 6 := by omega
    have hhead : lo3 (f_X6_goRound_L2 z yes no yR yL nR nL r) (f + 1) (nI o) yt nt = f_X6_goRound_L2 z yes no yR yL nR nL r (lo3 (f_X6_goRound_L2 z yes no yR yL nR nL r) f) (nI o) yt nt := rfl
    rw [hhead, f_X6_goRound_L2, if_neg (show ¬ (6 : Int32) ≤ nI o from nle (a := 6) (by decide) (by omega) ho), gd_r (vp_in_nI ho (by decide)), gd_r (vp_in_nI ho (by decide)), i_cl (by omega)]
    unfold lt'
    dsimp only
    rw [gd_r (vp_in_nI ho (by decide)), gd_r (vp_in_nI ho (by decide)), nI_1]
    refine ih (o + 1) f (by omega) (by omega) _ _ (fun x hx => ?_)
    rcases Nat.decEq x o with e | e
    · rw [pk_un e, pk_un e]
      exact h x (by omega)
    · rw [e, pk_us, pk_us]
      exact ⟨rfl, rfl⟩
theorem MB.eq {M : Mk} {s t : Nat → Int32} (h : MB M s) (e : ∀ x, x < 6 → t x = s x) : MB M t := fun o ho => by rw [e o ho]; exact h o ho
theorem goRound_ok {a : Sh} (hw : WF a) {z : Nat → Int32} (hz : RZ z a) {Y N : Mk} {k : Nat} {T1 T2 T3 T4 : Gh} {yes no yt nt yR yL nR nL : Nat → Int32} {q : Int32} (hY : RX Y g0 k T1 T2 yes yR yL) (hN : RX N g0 k T3 T4 no nR nL) :
    ∃ yes' no' yt' nt' yR' yL' nR' nL' q', f_X6_goRound z yes no yt nt yR yL nR nL (nI k) q = some (yes', no', yt', nt', yR', yL', nR', nL', q') ∧ RX Y (gY a Y N) k T1 T2 yes' yR' yL' ∧ RX N (gN a Y N) k T3 T4 no' nR' nL' ∧ IM q' (gY a Y N) (gN a Y N) := by
  unfold f_X6_goRound
  obtain ⟨yt', nt', rec, hc, e⟩ := copy_go (z := z) (yR := yR) (yL := yL) (nR := nR) (nL := nL) (r := nI k) (yes := yes) (no := no) 6 0 FU rfl (by decide) yt nt (fun x h => absurd h (Nat.not_lt_zero x))
  rw [show (0 : Int32) = nI 0 from rfl, e, f_X6_goRound_L2, if_pos (show (6 : Int32) ≤ nI 6 from by decide)]
  have mY : MB Y yt' := (hY.mb (σ := g0)).eq (fun x hx => (hc x hx).1)
  have mN : MB N nt' := (hN.mb (σ := g0)).eq (fun x hx => (hc x hx).2)
  have hy : ∀ o, o < 6 → M18 (yt' o) := fun o ho => (mY o ho).1
  have hn : ∀ o, o < 6 → M18 (nt' o) := fun o ho => (mN o ho).1
  obtain ⟨y1, n1, a1, a2, a3, a4, q1, e1, e2, e3, e4⟩ := byFacts_ok hz hw hY hN (q := 0) (Or.inr ⟨rfl, fun _ _ _ _ => ⟨rfl, rfl⟩⟩)
  rw [ob7_r e1]
  obtain ⟨n2, b1, b2, q2, f1, f2, f3⟩ := byOne_ok hw hz hy e3 e4
  rw [ob4_r f1]
  obtain ⟨y2, b3, b4, q3, f4, f5, f6⟩ := byLast_ok hw hz hn e2 f3
  rw [ob4_r f4]
  obtain ⟨y3, n3, c1, c2, c3, c4, q4, h1, h2, h3, h4⟩ := num4_out hw hz (nt := nt') hy 6 0 FU rfl (by decide) y2 n2 b3 b4 b1 b2 q3 _ _ f5 f2 f6
  rw [show f_X6_byNumbers z y2 n2 yt' nt' b3 b4 b1 b2 (nI k) q3 (1 : Int32) = _ from h1, ob7_r rfl]
  obtain ⟨y4, n4, c5, c6, c7, c8, q5, h5, h6, h7, h8⟩ := num5_out hw hz (yt := yt') (nt := nt') hy 6 0 FU rfl (by decide) y3 n3 c1 c2 c3 c4 q4 _ _ h2 h3 h4
  rw [show f_X6_byNumbers z y3 n3 yt' nt' c1 c2 c3 c4 (nI k) q4 (0 : Int32) = _ from h5, ob7_r rfl]
  obtain ⟨y5, n5, d1, d2, d3, d4, q6, g1, g2, g3, g4⟩ := thr2_ok hw hz (yt := yt') (nt := nt') h6 h7 h8
  rw [ob7_r g1]
  obtain ⟨y6, n6, d5, d6, d7, d8, q7, g5, g6, g7, g8⟩ := thr3_ok hw hz (yt := yt') (nt := nt') g2 g3 g4
  rw [ob7_r g5]
  have EY : eqR _ (gY a Y N) := app_r (app_r (app_r (app_r eqR.rf (fun _ _ _ _ => Iff.rfl)) (c_R3 mN)) (c_R5 mN)) (c_RT hw mN)
  have EN : eqR _ (gN a Y N) := app_r (app_r (app_r (app_r eqR.rf (fun _ _ _ _ => Iff.rfl)) (c_R2 mY)) (c_R4 mY)) (c_RT hw mY)
  exact ⟨y6, n6, yt', nt', d5, d6, d7, d8, q7, rfl, g6.cong EY, g7.cong EN, g8.cong EY EN⟩
