/-! ===== rules 4 and 5, the reference ===== -/
def size (a : Sh) (o : Nat) : Nat := 15 / sp a + (if o < 15 % sp a then 1 else 0)
def hm (o κ : Nat) : Int32 := if o = 5 then (63 : Int32) <<< (((6 : Int32) * nI κ) &&& 31) else 262143
def hs (a : Sh) (o : Nat) : Nat := if o = 5 then 1 else size a o
theorem m18_kind {κ : Nat} (h : κ < 3) : M18 ((63 : Int32) <<< (((6 : Int32) * nI κ) &&& 31)) := m18_dec fun i hi h2 => by rw [b_kind2 κ h i hi]; exact decide_eq_false (by omega)
theorem hm_18 {o κ : Nat} (h : κ < 3) : M18 (hm o κ) := by
  unfold hm
  split
  · exact m18_kind h
  · exact m18_all
theorem size_le {a : Sh} (hw : WF a) (o : Nat) : size a o ≤ 16 := by
  unfold size
  have := Nat.div_le_self 15 (sp a)
  split <;> omega
theorem sizeOf_ok {z : Nat → Int32} {a : Sh} (hz : RZ z a) (hw : WF a) {o : Nat} (ho : o < sp a) : f_X6_sizeOf z (nI o) = some (nI (size a o)) := by
  have h1 := hw.1
  have h2 := hw.2.1
  unfold f_X6_sizeOf
  rw [if_neg (show ¬ nI o = (5 : Int32) from fun h => by have := (i_eq (b := 5) (by omega) (by decide)).mp h; omega), gd0 (by decide), cl0, hz.1]
  have hne : ¬ nI (sp a) = 0 := fun h => by have := (i_eq (b := 0) (by omega) (by decide)).mp h; omega
  have hm := Nat.mod_lt 15 (show 0 < sp a by omega)
  rw [nz_r hne, gd0 (by decide), nz_r hne, show (15 : Int32) = nI 15 from rfl, pk_rem (by decide) (by omega) (by omega), pk_div (by decide) (by omega) (by omega)]
  unfold size
  rcases Nat.lt_or_ge o (15 % sp a) with q | q
  · rw [if_neg (nle (by omega) (by omega) q), if_pos q, nI_1]
  · rw [if_pos (nI_le q (by omega)), if_neg (by omega), show (0 : Int32) = nI 0 from rfl, nI_add]
def F4 (a : Sh) (yt : Nat → Int32) (o κ c : Nat) : Prop := bt (hm o κ) c = true ∧ hs a o ≤ cnt (yt o &&& hm o κ) ∧ bt (yt o) c = false
def F5 (a : Sh) (nt : Nat → Int32) (o κ c : Nat) : Prop := bt (hm o κ) c = true ∧ cnt (hm o κ &&& (nt o ^^^ (-1 : Int32))) ≤ hs a o ∧ bt (nt o) c = false
theorem b_andnot {m y : Int32} (hm : M18 m) (c : Nat) : bt (m &&& (y ^^^ (-1 : Int32))) c = (bt m c && !bt y c) := by
  rcases Nat.lt_or_ge c 18 with h | h
  · rw [b_and, b_not _ (by omega)]
  · rw [b_and, hm c h]
    rfl
theorem byFull_ok {N : Mk} {k : Nat} {T3 T4 : Gh} {yt : Nat → Int32} {o t : Nat} {m : Int32} (hy : M18 (yt o)) (ho : o < 6) (hm : M18 m) (ht : t < 1000) {s1 s2 : Gh} {no nR nL : Nat → Int32} {q : Int32} (hN : RX N s2 k T3 T4 no nR nL) (hi : IM q s1 s2) :
    ∃ no' nR' nL' q', f_X6_byFull no yt nR nL (nI k) q (nI o) m (nI t) = some (no', nR', nL', q') ∧ RX N (app s2 N 4 (fun x c => x = o ∧ bt m c = true ∧ t ≤ cnt (yt o &&& m) ∧ bt (yt o) c = false)) k T3 T4 no' nR' nL' ∧ IM q' s1 (app s2 N 4 (fun x c => x = o ∧ bt m c = true ∧ t ≤ cnt (yt o &&& m) ∧ bt (yt o) c = false)) := by
  unfold f_X6_byFull
  have hc := cnt_le (yt o &&& m)
  rw [gd_r (vp_in_nI ho (by decide)), i_cl (by omega), bits_18 (m18_and hy), ob1_r rfl]
  rcases Nat.lt_or_ge (cnt (yt o &&& m)) t with w | w
  · rw [if_pos (nI_lt w (by omega))]
    refine ⟨no, nR, nL, q, rfl, ?_⟩
    rw [app_no (fun x c h => by omega)]
    exact ⟨hN, hi⟩
  · rw [if_neg (nI_nlt w (by omega)), gd_r (vp_in_nI ho (by decide))]
    obtain ⟨n1, b1, b2, q1, g1, g2, g3⟩ := giveN_rx hN hi ho (m18_and (y := (yt o ^^^ (-1 : Int32))) hm) (r := 4) (by decide) (rl := 4) rfl
    rw [ob4_r g1]
    have c2 : app s2 N 4 (one o (m &&& (yt o ^^^ (-1 : Int32)))) = app s2 N 4 (fun x c => x = o ∧ bt m c = true ∧ t ≤ cnt (yt o &&& m) ∧ bt (yt o) c = false) := app_c fun x c => by
      unfold one
      rw [b_andnot hm, Bool.and_eq_true, Bool.not_eq_true']
      exact ⟨fun h => ⟨h.1, h.2.1, w, h.2.2⟩, fun h => ⟨h.1, h.2.1, h.2.2.2⟩⟩
    rw [c2] at g2 g3
    exact ⟨n1, b1, b2, q1, rfl, g2, g3⟩
theorem byFew_ok {Y : Mk} {k : Nat} {T1 T2 : Gh} {nt : Nat → Int32} {o t : Nat} {m : Int32} (ho : o < 6) (hm : M18 m) (ht : t < 1000) {s1 s2 : Gh} {yes yR yL : Nat → Int32} {q : Int32} (hY : RX Y s1 k T1 T2 yes yR yL) (hi : IM q s1 s2) :
    ∃ yes' yR' yL' q', f_X6_byFew yes nt yR yL (nI k) q (nI o) m (nI t) = some (yes', yR', yL', q') ∧ RX Y (app s1 Y 5 (fun x c => x = o ∧ bt m c = true ∧ cnt (m &&& (nt o ^^^ (-1 : Int32))) ≤ t ∧ bt (nt o) c = false)) k T1 T2 yes' yR' yL' ∧ IM q' (app s1 Y 5 (fun x c => x = o ∧ bt m c = true ∧ cnt (m &&& (nt o ^^^ (-1 : Int32))) ≤ t ∧ bt (nt o) c = false)) s2 := by
  unfold f_X6_byFew lt'
  have hc := cnt_le (m &&& (nt o ^^^ (-1 : Int32)))
  rw [gd_r (vp_in_nI ho (by decide)), i_cl (by omega)]
  dsimp only
  rw [bits_18 (m18_and hm), ob1_r rfl]
  rcases Nat.lt_or_ge t (cnt (m &&& (nt o ^^^ (-1 : Int32)))) with w | w
  · rw [if_pos (nI_lt w (by omega))]
    refine ⟨yes, yR, yL, q, rfl, ?_⟩
    rw [app_no (fun x c h => by omega)]
    exact ⟨hY, hi⟩
  · rw [if_neg (nI_nlt w (by omega))]
    obtain ⟨n1, b1, b2, q1, g1, g2, g3⟩ := giveY_rx hY hi ho (m18_and (y := (nt o ^^^ (-1 : Int32))) hm) (r := 5) (by decide) (rl := 5) rfl
    rw [ob4_r g1]
    have c2 : app s1 Y 5 (one o (m &&& (nt o ^^^ (-1 : Int32)))) = app s1 Y 5 (fun x c => x = o ∧ bt m c = true ∧ cnt (m &&& (nt o ^^^ (-1 : Int32))) ≤ t ∧ bt (nt o) c = false) := app_c fun x c => by
      unfold one
      rw [b_andnot hm, Bool.and_eq_true, Bool.not_eq_true']
      exact ⟨fun h => ⟨h.1, h.2.1, w, h.2.2⟩, fun h => ⟨h.1, h.2.1, h.2.2.2⟩⟩
    rw [c2] at g2 g3
    exact ⟨n1, b1, b2, q1, rfl, g2, g3⟩
theorem num4_in {a : Sh} (hw : WF a) {z : Nat → Int32} (hz : RZ z a) {Y N : Mk} {k : Nat} {T1 T2 T3 T4 : Gh} {yt nt : Nat → Int32} (hy : ∀ o, o < 6 → M18 (yt o)) {rec : Int32 → (Nat → Int32) → (Nat → Int32) → (Nat → Int32) → (Nat → Int32) → (Nat → Int32) → (Nat → Int32) → Int32 → Option ((Nat → Int32) × (Nat → Int32) × (Nat → Int32) × (Nat → Int32) × (Nat → Int32) × (Nat → Int32) × Int32)} {o : Nat} (ho : o < 6) :
    ∀ (d κ fuel : Nat), κ + d = 3 → d < fuel → ∀ (yes no yR yL nR nL : Nat → Int32) (q : Int32) (s1 s2 : Gh), RX Y s1 k T1 T2 yes yR yL → RX N s2 k T3 T4 no nR nL → IM q s1 s2 →
    ∃ yes' no' yR' yL' nR' nL' q', lo8 (f_X6_byNumbers_L10 z yt nt (nI k) (1 : Int32) rec (nI o)) fuel (nI κ) yes no yR yL nR nL q = rec (nI (o + 1)) yes' no' yR' yL' nR' nL' q' ∧ RX Y s1 k T1 T2 yes' yR' yL' ∧ RX N (app s2 N 4 (fun x c => x = o ∧ own a o ∧ ∃ κ', κ ≤ κ' ∧ κ' < 3 ∧ F4 a yt o κ' c)) k T3 T4 no' nR' nL' ∧ IM q' s1 (app s2 N 4 (fun x c => x = o ∧ own a o ∧ ∃ κ', κ ≤ κ' ∧ κ' < 3 ∧ F4 a yt o κ' c)) := by
  have h1 := hw.1
  have h2 := hw.2.1
  intro d
  induction d with
  | zero =>
    intro κ fuel e1 e2 yes no yR yL nR nL q s1 s2 hY hN hi
    obtain ⟨f, rfl⟩ : ∃ f, fuel = f + 1 := ⟨fuel - 1, by omega⟩
    have hκ : κ = 3 := by omega
    subst hκ
    refine ⟨yes, no, yR, yL, nR, nL, q, ?_, ?_⟩
    · show f_X6_byNumbers_L10 z yt nt (nI k) (1 : Int32) rec (nI o) (lo8 _ f) (nI 3) yes no yR yL nR nL q = _
      rw [f_X6_byNumbers_L10, if_pos (show (3 : Int32) ≤ nI 3 from by decide), nI_1]
    · rw [app_no (fun x c ⟨_, _, κ, h3, h4, _⟩ => by omega)]
      exact ⟨hY, hN, hi⟩
  | succ d ih =>
    intro κ fuel e1 e2 yes no yR yL nR nL q s1 s2 hY hN hi
    obtain ⟨f, rfl⟩ : ∃ f, fuel = f + 1 := ⟨fuel - 1, by omega⟩
    have hκ : κ < 3 := by omega
    have hhead : lo8 (f_X6_byNumbers_L10 z yt nt (nI k) (1 : Int32) rec (nI o)) (f + 1) (nI κ) yes no yR yL nR nL q = f_X6_byNumbers_L10 z yt nt (nI k) (1 : Int32) rec (nI o) (lo8 (f_X6_byNumbers_L10 z yt nt (nI k) (1 : Int32) rec (nI o)) f) (nI κ) yes no yR yL nR nL q := rfl
    rw [hhead, f_X6_byNumbers_L10, if_neg (show ¬ (3 : Int32) ≤ nI κ from nle (a := 3) (by decide) (by omega) hκ)]
    rcases Classical.em (own a o) with w | w
    · rw [ob1_r (isOw_y hz hw w), if_neg (by decide)]
      have hhs : hs a o < 1000 := by
        unfold hs
        have := size_le hw o
        split <;> omega
      have hJ : ∀ (t : Int32), t = nI (hs a o) → ∃ yes' no' yR' yL' nR' nL' q', f_X6_byNumbers_J53 yt nt (nI k) (1 : Int32) (nI o) (lo8 (f_X6_byNumbers_L10 z yt nt (nI k) (1 : Int32) rec (nI o)) f) (nI κ) yes no yR yL nR nL q (hm o κ) t = rec (nI (o + 1)) yes' no' yR' yL' nR' nL' q' ∧ RX Y s1 k T1 T2 yes' yR' yL' ∧ RX N (app s2 N 4 (fun x c => x = o ∧ own a o ∧ ∃ κ', κ ≤ κ' ∧ κ' < 3 ∧ F4 a yt o κ' c)) k T3 T4 no' nR' nL' ∧ IM q' s1 (app s2 N 4 (fun x c => x = o ∧ own a o ∧ ∃ κ', κ ≤ κ' ∧ κ' < 3 ∧ F4 a yt o κ' c)) := by
        intro t ht
        subst ht
        rw [f_X6_byNumbers_J53, if_neg (by decide)]
        obtain ⟨n1, b1, b2, q1, g1, g2, g3⟩ := byFull_ok (hy o ho) ho (hm_18 (o := o) hκ) (t := hs a o) hhs hN hi
        rw [ob4_r g1, nI_1]
        obtain ⟨y', n', a1, a2, a3, a4, q', g4, g5, g6, g7⟩ := ih (κ + 1) f (by omega) (by omega) yes n1 yR yL b1 b2 q1 s1 _ hY g2 g3
        have c2 : app (app s2 N 4 (fun x c => x = o ∧ F4 a yt o κ c)) N 4 (fun x c => x = o ∧ own a o ∧ ∃ κ', κ + 1 ≤ κ' ∧ κ' < 3 ∧ F4 a yt o κ' c) = app s2 N 4 (fun x c => x = o ∧ own a o ∧ ∃ κ', κ ≤ κ' ∧ κ' < 3 ∧ F4 a yt o κ' c) := by
          rw [app_or (by decide)]
          refine app_c fun x c => ⟨fun h => ?_, fun ⟨h3, h4, κ', h5, h6, h7⟩ => ?_⟩
          · rcases h with ⟨h3, h4⟩ | ⟨h3, h4, κ', h5, h6⟩
            · exact ⟨h3, w, κ, Nat.le_refl _, hκ, h4⟩
            · exact ⟨h3, h4, κ', by omega, h6⟩
          · rcases Nat.lt_or_ge κ κ' with u | u
            · exact Or.inr ⟨h3, h4, κ', u, h6, h7⟩
            · have : κ' = κ := by omega
              subst this
              exact Or.inl ⟨h3, h7⟩
        change RX N (app (app s2 N 4 (fun x c => x = o ∧ F4 a yt o κ c)) N 4 (fun x c => x = o ∧ own a o ∧ ∃ κ', κ + 1 ≤ κ' ∧ κ' < 3 ∧ F4 a yt o κ' c)) _ _ _ _ _ _ at g6; change IM _ _ (app (app s2 N 4 (fun x c => x = o ∧ F4 a yt o κ c)) N 4 (fun x c => x = o ∧ own a o ∧ ∃ κ', κ + 1 ≤ κ' ∧ κ' < 3 ∧ F4 a yt o κ' c)) at g7; rw [c2] at g6 g7
        exact ⟨y', n', a1, a2, a3, a4, q', g4, g5, g6, g7⟩
      rcases Nat.decEq o 5 with u | u
      · have hop : o < sp a := w.resolve_right u
        rw [if_neg (show ¬ nI o = (5 : Int32) from fun h => u ((i_eq (b := 5) (by omega) (by decide)).mp h)), f_X6_byNumbers_J37, if_neg (show ¬ nI o = (5 : Int32) from fun h => u ((i_eq (b := 5) (by omega) (by decide)).mp h)), ob1_r (sizeOf_ok hz hw hop)]
        have e3 : hm o κ = 262143 := if_neg u
        have e4 : hs a o = size a o := if_neg u
        rw [← e3, ← e4]
        exact hJ _ rfl
      · subst u
        rw [if_pos (show nI 5 = (5 : Int32) from rfl), show f_X6_kindSet (nI κ) = some ((63 : Int32) <<< (((6 : Int32) * nI κ) &&& 31)) from rfl, ob1_r rfl, f_X6_byNumbers_J37, if_pos (show nI 5 = (5 : Int32) from rfl)]
        exact hJ _ rfl
    · rw [ob1_r (isOw_n hz hw (by omega) w), if_pos rfl, nI_1]
      refine ⟨yes, no, yR, yL, nR, nL, q, rfl, ?_⟩
      rw [app_no (fun x c h => w h.2.1)]
      exact ⟨hY, hN, hi⟩
theorem num4_out {a : Sh} (hw : WF a) {z : Nat → Int32} (hz : RZ z a) {Y N : Mk} {k : Nat} {T1 T2 T3 T4 : Gh} {yt nt : Nat → Int32} (hy : ∀ o, o < 6 → M18 (yt o)) :
    ∀ (d o fuel : Nat), o + d = 6 → d < fuel → ∀ (yes no yR yL nR nL : Nat → Int32) (q : Int32) (s1 s2 : Gh), RX Y s1 k T1 T2 yes yR yL → RX N s2 k T3 T4 no nR nL → IM q s1 s2 →
    ∃ yes' no' yR' yL' nR' nL' q', lo8 (f_X6_byNumbers_L2 z yt nt (nI k) (1 : Int32)) fuel (nI o) yes no yR yL nR nL q = some (yes', no', yR', yL', nR', nL', q') ∧ RX Y s1 k T1 T2 yes' yR' yL' ∧ RX N (app s2 N 4 (fun x c => o ≤ x ∧ own a x ∧ ∃ κ, κ < 3 ∧ F4 a yt x κ c)) k T3 T4 no' nR' nL' ∧ IM q' s1 (app s2 N 4 (fun x c => o ≤ x ∧ own a x ∧ ∃ κ, κ < 3 ∧ F4 a yt x κ c)) := by
  intro d
  induction d with
  | zero =>
    intro o fuel e1 e2 yes no yR yL nR nL q s1 s2 hY hN hi
    obtain ⟨f, rfl⟩ : ∃ f, fuel = f + 1 := ⟨fuel - 1, by omega⟩
    have ho : o = 6 := by omega
    subst ho
    refine ⟨yes, no, yR, yL, nR, nL, q, ?_, ?_⟩
    · show f_X6_byNumbers_L2 z yt nt (nI k) (1 : Int32) (lo8 _ f) (nI 6) yes no yR yL nR nL q = _
      rw [f_X6_byNumbers_L2, if_pos (show (6 : Int32) ≤ nI 6 from by decide)]
    · rw [app_no (fun x c ⟨h3, h4, _⟩ => by have := own6 hw h4; omega)]
      exact ⟨hY, hN, hi⟩
  | succ d ih =>
    intro o fuel e1 e2 yes no yR yL nR nL q s1 s2 hY hN hi
    obtain ⟨f, rfl⟩ : ∃ f, fuel = f + 1 := ⟨fuel - 1, by omega⟩
    have ho : o < 6 := by omega
    have hhead : lo8 (f_X6_byNumbers_L2 z yt nt (nI k) (1 : Int32)) (f + 1) (nI o) yes no yR yL nR nL q = f_X6_byNumbers_L2 z yt nt (nI k) (1 : Int32) (lo8 (f_X6_byNumbers_L2 z yt nt (nI k) (1 : Int32)) f) (nI o) yes no yR yL nR nL q := rfl
    rw [hhead, f_X6_byNumbers_L2, if_neg (show ¬ (6 : Int32) ≤ nI o from nle (a := 6) (by decide) (by omega) ho)]
    obtain ⟨y1, n1, b1, b2, b3, b4, q1, g1, g2, g3, g4⟩ := num4_in hw hz (nt := nt) hy ho (rec := lo8 (f_X6_byNumbers_L2 z yt nt (nI k) (1 : Int32)) f) 3 0 FU rfl (by decide) yes no yR yL nR nL q s1 s2 hY hN hi
    rw [show (0 : Int32) = nI 0 from rfl] at *
    rw [g1]
    obtain ⟨y', n', a1, a2, a3, a4, q', g5, g6, g7, g8⟩ := ih (o + 1) f (by omega) (by omega) y1 n1 b1 b2 b3 b4 q1 _ _ g2 g3 g4
    have c2 : app (app s2 N 4 (fun x c => x = o ∧ own a o ∧ ∃ κ, 0 ≤ κ ∧ κ < 3 ∧ F4 a yt o κ c)) N 4 (fun x c => o + 1 ≤ x ∧ own a x ∧ ∃ κ, κ < 3 ∧ F4 a yt x κ c) = app s2 N 4 (fun x c => o ≤ x ∧ own a x ∧ ∃ κ, κ < 3 ∧ F4 a yt x κ c) := by
      rw [app_or (by decide)]
      refine app_c fun x c => ⟨fun h => ?_, fun ⟨h3, h4, h5⟩ => ?_⟩
      · rcases h with ⟨h3, h4, κ, _, h5⟩ | ⟨h3, h4⟩
        · subst h3
          exact ⟨Nat.le_refl _, h4, κ, h5⟩
        · exact ⟨by omega, h4⟩
      · rcases Nat.lt_or_ge o x with u | u
        · exact Or.inr ⟨u, h4, h5⟩
        · have : x = o := by omega
          subst this
          obtain ⟨κ, h5⟩ := h5
          exact Or.inl ⟨rfl, h4, κ, Nat.zero_le _, h5⟩
    rw [c2] at g7 g8
    exact ⟨y', n', a1, a2, a3, a4, q', g5, g6, g7, g8⟩
theorem num5_in {a : Sh} (hw : WF a) {z : Nat → Int32} (hz : RZ z a) {Y N : Mk} {k : Nat} {T1 T2 T3 T4 : Gh} {yt nt : Nat → Int32} (hy : ∀ o, o < 6 → M18 (yt o)) {rec : Int32 → (Nat → Int32) → (Nat → Int32) → (Nat → Int32) → (Nat → Int32) → (Nat → Int32) → (Nat → Int32) → Int32 → Option ((Nat → Int32) × (Nat → Int32) × (Nat → Int32) × (Nat → Int32) × (Nat → Int32) × (Nat → Int32) × Int32)} {o : Nat} (ho : o < 6) :
    ∀ (d κ fuel : Nat), κ + d = 3 → d < fuel → ∀ (yes no yR yL nR nL : Nat → Int32) (q : Int32) (s1 s2 : Gh), RX Y s1 k T1 T2 yes yR yL → RX N s2 k T3 T4 no nR nL → IM q s1 s2 →
    ∃ yes' no' yR' yL' nR' nL' q', lo8 (f_X6_byNumbers_L10 z yt nt (nI k) (0 : Int32) rec (nI o)) fuel (nI κ) yes no yR yL nR nL q = rec (nI (o + 1)) yes' no' yR' yL' nR' nL' q' ∧ RX Y (app s1 Y 5 (fun x c => x = o ∧ own a o ∧ ∃ κ', κ ≤ κ' ∧ κ' < 3 ∧ F5 a nt o κ' c)) k T1 T2 yes' yR' yL' ∧ RX N s2 k T3 T4 no' nR' nL' ∧ IM q' (app s1 Y 5 (fun x c => x = o ∧ own a o ∧ ∃ κ', κ ≤ κ' ∧ κ' < 3 ∧ F5 a nt o κ' c)) s2 := by
  have h1 := hw.1
  have h2 := hw.2.1
  intro d
  induction d with
  | zero =>
    intro κ fuel e1 e2 yes no yR yL nR nL q s1 s2 hY hN hi
    obtain ⟨f, rfl⟩ : ∃ f, fuel = f + 1 := ⟨fuel - 1, by omega⟩
    have hκ : κ = 3 := by omega
    subst hκ
    refine ⟨yes, no, yR, yL, nR, nL, q, ?_, ?_⟩
    · show f_X6_byNumbers_L10 z yt nt (nI k) (0 : Int32) rec (nI o) (lo8 _ f) (nI 3) yes no yR yL nR nL q = _
      rw [f_X6_byNumbers_L10, if_pos (show (3 : Int32) ≤ nI 3 from by decide), nI_1]
    · rw [app_no (fun x c ⟨_, _, κ, h3, h4, _⟩ => by omega)]
      exact ⟨hY, hN, hi⟩
  | succ d ih =>
    intro κ fuel e1 e2 yes no yR yL nR nL q s1 s2 hY hN hi
    obtain ⟨f, rfl⟩ : ∃ f, fuel = f + 1 := ⟨fuel - 1, by omega⟩
    have hκ : κ < 3 := by omega
    have hhead : lo8 (f_X6_byNumbers_L10 z yt nt (nI k) (0 : Int32) rec (nI o)) (f + 1) (nI κ) yes no yR yL nR nL q = f_X6_byNumbers_L10 z yt nt (nI k) (0 : Int32) rec (nI o) (lo8 (f_X6_byNumbers_L10 z yt nt (nI k) (0 : Int32) rec (nI o)) f) (nI κ) yes no yR yL nR nL q := rfl
    rw [hhead, f_X6_byNumbers_L10, if_neg (show ¬ (3 : Int32) ≤ nI κ from nle (a := 3) (by decide) (by omega) hκ)]
    rcases Classical.em (own a o) with w | w
    · rw [ob1_r (isOw_y hz hw w), if_neg (by decide)]
      have hhs : hs a o < 1000 := by
        unfold hs
        have := size_le hw o
        split <;> omega
      have hJ : ∀ (t : Int32), t = nI (hs a o) → ∃ yes' no' yR' yL' nR' nL' q', f_X6_byNumbers_J53 yt nt (nI k) (0 : Int32) (nI o) (lo8 (f_X6_byNumbers_L10 z yt nt (nI k) (0 : Int32) rec (nI o)) f) (nI κ) yes no yR yL nR nL q (hm o κ) t = rec (nI (o + 1)) yes' no' yR' yL' nR' nL' q' ∧ RX Y (app s1 Y 5 (fun x c => x = o ∧ own a o ∧ ∃ κ', κ ≤ κ' ∧ κ' < 3 ∧ F5 a nt o κ' c)) k T1 T2 yes' yR' yL' ∧ RX N s2 k T3 T4 no' nR' nL' ∧ IM q' (app s1 Y 5 (fun x c => x = o ∧ own a o ∧ ∃ κ', κ ≤ κ' ∧ κ' < 3 ∧ F5 a nt o κ' c)) s2 := by
        intro t ht
        subst ht
        rw [f_X6_byNumbers_J53, if_pos rfl]
        obtain ⟨n1, b1, b2, q1, g1, g2, g3⟩ := byFew_ok (nt := nt) ho (hm_18 (o := o) hκ) (t := hs a o) hhs hY hi
        rw [ob4_r g1, nI_1]
        obtain ⟨y', n', a1, a2, a3, a4, q', g4, g5, g6, g7⟩ := ih (κ + 1) f (by omega) (by omega) n1 no b1 b2 nR nL q1 _ s2 g2 hN g3
        have c2 : app (app s1 Y 5 (fun x c => x = o ∧ F5 a nt o κ c)) Y 5 (fun x c => x = o ∧ own a o ∧ ∃ κ', κ + 1 ≤ κ' ∧ κ' < 3 ∧ F5 a nt o κ' c) = app s1 Y 5 (fun x c => x = o ∧ own a o ∧ ∃ κ', κ ≤ κ' ∧ κ' < 3 ∧ F5 a nt o κ' c) := by
          rw [app_or (by decide)]
          refine app_c fun x c => ⟨fun h => ?_, fun ⟨h3, h4, κ', h5, h6, h7⟩ => ?_⟩
          · rcases h with ⟨h3, h4⟩ | ⟨h3, h4, κ', h5, h6⟩
            · exact ⟨h3, w, κ, Nat.le_refl _, hκ, h4⟩
            · exact ⟨h3, h4, κ', by omega, h6⟩
          · rcases Nat.lt_or_ge κ κ' with u | u
            · exact Or.inr ⟨h3, h4, κ', u, h6, h7⟩
            · have : κ' = κ := by omega
              subst this
              exact Or.inl ⟨h3, h7⟩
        change RX Y (app (app s1 Y 5 (fun x c => x = o ∧ F5 a nt o κ c)) Y 5 (fun x c => x = o ∧ own a o ∧ ∃ κ', κ + 1 ≤ κ' ∧ κ' < 3 ∧ F5 a nt o κ' c)) _ _ _ _ _ _ at g5; change IM _ (app (app s1 Y 5 (fun x c => x = o ∧ F5 a nt o κ c)) Y 5 (fun x c => x = o ∧ own a o ∧ ∃ κ', κ + 1 ≤ κ' ∧ κ' < 3 ∧ F5 a nt o κ' c)) _ at g7; rw [c2] at g5 g7
        exact ⟨y', n', a1, a2, a3, a4, q', g4, g5, g6, g7⟩
      rcases Nat.decEq o 5 with u | u
      · have hop : o < sp a := w.resolve_right u
        rw [if_neg (show ¬ nI o = (5 : Int32) from fun h => u ((i_eq (b := 5) (by omega) (by decide)).mp h)), f_X6_byNumbers_J37, if_neg (show ¬ nI o = (5 : Int32) from fun h => u ((i_eq (b := 5) (by omega) (by decide)).mp h)), ob1_r (sizeOf_ok hz hw hop)]
        have e3 : hm o κ = 262143 := if_neg u
        have e4 : hs a o = size a o := if_neg u
        rw [← e3, ← e4]
        exact hJ _ rfl
      · subst u
        rw [if_pos (show nI 5 = (5 : Int32) from rfl), show f_X6_kindSet (nI κ) = some ((63 : Int32) <<< (((6 : Int32) * nI κ) &&& 31)) from rfl, ob1_r rfl, f_X6_byNumbers_J37, if_pos (show nI 5 = (5 : Int32) from rfl)]
        exact hJ _ rfl
    · rw [ob1_r (isOw_n hz hw (by omega) w), if_pos rfl, nI_1]
      refine ⟨yes, no, yR, yL, nR, nL, q, rfl, ?_⟩
      rw [app_no (fun x c h => w h.2.1)]
      exact ⟨hY, hN, hi⟩
theorem num5_out {a : Sh} (hw : WF a) {z : Nat → Int32} (hz : RZ z a) {Y N : Mk} {k : Nat} {T1 T2 T3 T4 : Gh} {yt nt : Nat → Int32} (hy : ∀ o, o < 6 → M18 (yt o)) :
    ∀ (d o fuel : Nat), o + d = 6 → d < fuel → ∀ (yes no yR yL nR nL : Nat → Int32) (q : Int32) (s1 s2 : Gh), RX Y s1 k T1 T2 yes yR yL → RX N s2 k T3 T4 no nR nL → IM q s1 s2 →
    ∃ yes' no' yR' yL' nR' nL' q', lo8 (f_X6_byNumbers_L2 z yt nt (nI k) (0 : Int32)) fuel (nI o) yes no yR yL nR nL q = some (yes', no', yR', yL', nR', nL', q') ∧ RX Y (app s1 Y 5 (fun x c => o ≤ x ∧ own a x ∧ ∃ κ, κ < 3 ∧ F5 a nt x κ c)) k T1 T2 yes' yR' yL' ∧ RX N s2 k T3 T4 no' nR' nL' ∧ IM q' (app s1 Y 5 (fun x c => o ≤ x ∧ own a x ∧ ∃ κ, κ < 3 ∧ F5 a nt x κ c)) s2 := by
  intro d
  induction d with
  | zero =>
    intro o fuel e1 e2 yes no yR yL nR nL q s1 s2 hY hN hi
    obtain ⟨f, rfl⟩ : ∃ f, fuel = f + 1 := ⟨fuel - 1, by omega⟩
    have ho : o = 6 := by omega
    subst ho
    refine ⟨yes, no, yR, yL, nR, nL, q, ?_, ?_⟩
    · show f_X6_byNumbers_L2 z yt nt (nI k) (0 : Int32) (lo8 _ f) (nI 6) yes no yR yL nR nL q = _
      rw [f_X6_byNumbers_L2, if_pos (show (6 : Int32) ≤ nI 6 from by decide)]
    · rw [app_no (fun x c ⟨h3, h4, _⟩ => by have := own6 hw h4; omega)]
      exact ⟨hY, hN, hi⟩
  | succ d ih =>
    intro o fuel e1 e2 yes no yR yL nR nL q s1 s2 hY hN hi
    obtain ⟨f, rfl⟩ : ∃ f, fuel = f + 1 := ⟨fuel - 1, by omega⟩
    have ho : o < 6 := by omega
    have hhead : lo8 (f_X6_byNumbers_L2 z yt nt (nI k) (0 : Int32)) (f + 1) (nI o) yes no yR yL nR nL q = f_X6_byNumbers_L2 z yt nt (nI k) (0 : Int32) (lo8 (f_X6_byNumbers_L2 z yt nt (nI k) (0 : Int32)) f) (nI o) yes no yR yL nR nL q := rfl
    rw [hhead, f_X6_byNumbers_L2, if_neg (show ¬ (6 : Int32) ≤ nI o from nle (a := 6) (by decide) (by omega) ho)]
    obtain ⟨y1, n1, b1, b2, b3, b4, q1, g1, g2, g3, g4⟩ := num5_in hw hz (nt := nt) hy ho (rec := lo8 (f_X6_byNumbers_L2 z yt nt (nI k) (0 : Int32)) f) 3 0 FU rfl (by decide) yes no yR yL nR nL q s1 s2 hY hN hi
    rw [show (0 : Int32) = nI 0 from rfl] at *
    rw [g1]
    obtain ⟨y', n', a1, a2, a3, a4, q', g5, g6, g7, g8⟩ := ih (o + 1) f (by omega) (by omega) y1 n1 b1 b2 b3 b4 q1 _ _ g2 g3 g4
    have c2 : app (app s1 Y 5 (fun x c => x = o ∧ own a o ∧ ∃ κ, 0 ≤ κ ∧ κ < 3 ∧ F5 a nt o κ c)) Y 5 (fun x c => o + 1 ≤ x ∧ own a x ∧ ∃ κ, κ < 3 ∧ F5 a nt x κ c) = app s1 Y 5 (fun x c => o ≤ x ∧ own a x ∧ ∃ κ, κ < 3 ∧ F5 a nt x κ c) := by
      rw [app_or (by decide)]
      refine app_c fun x c => ⟨fun h => ?_, fun ⟨h3, h4, h5⟩ => ?_⟩
      · rcases h with ⟨h3, h4, κ, _, h5⟩ | ⟨h3, h4⟩
        · subst h3
          exact ⟨Nat.le_refl _, h4, κ, h5⟩
        · exact ⟨by omega, h4⟩
      · rcases Nat.lt_or_ge o x with u | u
        · exact Or.inr ⟨u, h4, h5⟩
        · have : x = o := by omega
          subst this
          obtain ⟨κ, h5⟩ := h5
          exact Or.inl ⟨rfl, h4, κ, Nat.zero_le _, h5⟩
    rw [c2] at g6 g8
    exact ⟨y', n', a1, a2, a3, a4, q', g5, g6, g7, g8⟩
