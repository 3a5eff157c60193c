/-! ===== loops; broken sheets in the class and in the document ===== -/
theorem loop {S R : Type} {F : Nat → S → Option R} {B : (S → Option R) → S → Option R} (hF : ∀ f s, F (f + 1) s = B (F f) s) (I : Nat → S → Prop) (Q : R → Prop) (n : Nat) (step : ∀ k s, k < n → I k s → ∀ rec, (∃ r, B rec s = some r ∧ Q r) ∨ ∃ s', B rec s = rec s' ∧ I (k + 1) s') (last : ∀ s, I n s → ∀ rec, ∃ r, B rec s = some r ∧ Q r) : ∀ (d k fuel : Nat) (s : S), k + d = n → d < fuel → I k s → ∃ r, F fuel s = some r ∧ Q r := by
  intro d
  induction d with
  | zero =>
    intro k fuel s h1 h2 hI
    obtain ⟨f, rfl⟩ : ∃ f, fuel = f + 1 := ⟨fuel - 1, by omega⟩
    have hk : k = n := by omega
    subst hk
    rw [hF]
    exact last s hI _
  | succ d ih =>
    intro k fuel s h1 h2 hI
    obtain ⟨f, rfl⟩ : ∃ f, fuel = f + 1 := ⟨fuel - 1, by omega⟩
    rw [hF]
    rcases step k s (by omega) hI (F f) with h | ⟨s', e, h⟩
    · exact h
    · rw [e]
      exact ih (k + 1) f s' (by omega) (by omega) h
def BQ (P : Prop) (r : Int32) : Prop := (r = 1 ∧ P) ∨ (r = 0 ∧ ¬ P)
theorem BQ.iff {P Q : Prop} {r : Int32} (h : P ↔ Q) (q : BQ P r) : BQ Q r := by rw [← propext h]; exact q
def brkC (a : Sh) (Y N : Mk) : Prop := (∃ o c, o < 6 ∧ c < 18 ∧ own a o ∧ Y o c = true ∧ N o c = true) ∨ ∃ c, c < 18 ∧ ∀ o, own a o → N o c = true
def brkH (a : Sh) (Y N : Mk) : Prop := ∃ o κ, own a o ∧ κ < 3 ∧ (hs a o < fb_ct (fun c => Y o c && hin o κ c) 18 ∨ fb_ct (fun c => hin o κ c && !N o c) 18 < hs a o)
def thr (a : Sh) (Y N : Mk) (j : Nat) : Prop := (kd a j = 2 ∧ ∀ c, c < 18 → inF a j c = true → N (ow a j) c = true) ∨ (kd a j = 3 ∧ ∀ c, c < 18 → inF a j c = true → Y (ow a j) c = true)
def brkT (a : Sh) (Y N : Mk) : Prop := ∃ j, j < sn a ∧ thr a Y N j
theorem brk_parts {a : Sh} {Y N : Mk} : brk a Y N ↔ (brkC a Y N ∨ brkH a Y N ∨ brkT a Y N) := by
  unfold brk
  constructor
  · rintro (h | h | h | ⟨j, h1, h2, h3⟩ | ⟨j, h1, h2, h3⟩)
    · exact Or.inl (Or.inl h)
    · exact Or.inr (Or.inl h)
    · exact Or.inl (Or.inr h)
    · exact Or.inr (Or.inr ⟨j, h1, Or.inl ⟨h2, h3⟩⟩)
    · exact Or.inr (Or.inr ⟨j, h1, Or.inr ⟨h2, h3⟩⟩)
  · rintro ((h | h) | h | ⟨j, h1, ⟨h2, h3⟩ | ⟨h2, h3⟩⟩)
    · exact Or.inl h
    · exact Or.inr (Or.inr (Or.inl h))
    · exact Or.inr (Or.inl h)
    · exact Or.inr (Or.inr (Or.inr (Or.inl ⟨j, h1, h2, h3⟩)))
    · exact Or.inr (Or.inr (Or.inr (Or.inr ⟨j, h1, h2, h3⟩)))
def nobI (a : Sh) (N : Mk) (k : Nat) (v : Int32) : Prop := M18 v ∧ ∀ c, c < 18 → (bt v c = true ↔ ∀ o, o < k → own a o → N o c = true)
theorem nob_0 {a : Sh} {N : Mk} : nobI a N 0 262143 := ⟨m18_all, fun c hc => ⟨fun _ o h => absurd h (Nat.not_lt_zero o), fun _ => b_all c hc⟩⟩
theorem nob_step {a : Sh} {N : Mk} {k : Nat} {v x : Int32} (h : nobI a N k v) (w : own a k) (hx : ∀ c, c < 18 → bt x c = N k c) : nobI a N (k + 1) (v &&& x) := by
  refine ⟨m18_and h.1, fun c hc => ?_⟩
  rw [b_and, Bool.and_eq_true, h.2 c hc, hx c hc]
  constructor
  · rintro ⟨h1, h2⟩ o ho w2
    rcases Nat.decEq o k with e | e
    · exact h1 o (by omega) w2
    · rw [e]; exact h2
  · intro h1
    exact ⟨fun o ho w2 => h1 o (by omega) w2, h1 k (by omega) w⟩
theorem nob_skip {a : Sh} {N : Mk} {k : Nat} {v : Int32} (h : nobI a N k v) (w : ¬ own a k) : nobI a N (k + 1) v := by
  refine ⟨h.1, fun c hc => ?_⟩
  rw [h.2 c hc]
  constructor
  · intro h1 o ho w2
    rcases Nat.decEq o k with e | e
    · exact h1 o (by omega) w2
    · subst e; exact absurd w2 w
  · exact fun h1 o ho w2 => h1 o (by omega) w2
theorem nob_end {a : Sh} (hw : WF a) {N : Mk} {v : Int32} (h : nobI a N 6 v) : ¬ v = 0 ↔ ∃ c, c < 18 ∧ ∀ o, own a o → N o c = true := by
  rw [m18_nz h.1]
  constructor
  · rintro ⟨c, hc, q⟩
    exact ⟨c, hc, fun o w => (h.2 c hc).mp q o (own6 hw w) w⟩
  · rintro ⟨c, hc, q⟩
    exact ⟨c, hc, (h.2 c hc).mpr fun o _ w => q o w⟩
theorem both_z {Y N : Mk} {ys ns : Nat → Int32} (my : MB Y ys) (mn : MB N ns) {o : Nat} (ho : o < 6) : (ys o &&& ns o) = 0 ↔ ∀ c, c < 18 → ¬ (Y o c = true ∧ N o c = true) := by
  rw [m18_z (m18_and (my o ho).1)]
  constructor
  · rintro h c hc ⟨h1, h2⟩
    have := h c hc
    rw [b_and, (my o ho).2 c hc, (mn o ho).2 c hc, h1, h2] at this
    exact Bool.noConfusion this
  · intro h c hc
    rw [b_and, (my o ho).2 c hc, (mn o ho).2 c hc]
    have q := h c hc
    cases e1 : Y o c
    · rfl
    · cases e2 : N o c
      · rfl
      · exact absurd ⟨e1, e2⟩ q
theorem card_ok {a : Sh} (hw : WF a) {Y N : Mk} {ys ns : Nat → Int32} (my : MB Y ys) (mn : MB N ns) : ∃ r, f_X2_aCardIsBroken ys ns (nI (sp a)) = some r ∧ BQ (brkC a Y N) r := by
  unfold f_X2_aCardIsBroken
  refine loop (S := Int32 × Int32) (F := fun f s => lo2 (f_X2_aCardIsBroken_L5 ys ns (nI (sp a))) f s.1 s.2) (B := fun rec s => f_X2_aCardIsBroken_L5 ys ns (nI (sp a)) (fun x y => rec (x, y)) s.1 s.2) (fun _ _ => rfl) (fun k s => s.2 = nI k ∧ nobI a N k s.1 ∧ ∀ o, o < k → own a o → ∀ c, c < 18 → ¬ (Y o c = true ∧ N o c = true)) (BQ (brkC a Y N)) 6 ?_ ?_ 6 0 FU (262143, 0) rfl (by decide) ⟨rfl, nob_0, fun o h => absurd h (Nat.not_lt_zero o)⟩
  · rintro k ⟨v, i⟩ hk ⟨e, h1, h2⟩ rec
    have e : i = nI k := e
    subst e
    have h1 : nobI a N k v := h1
    (try dsimp only)
    rw [f_X2_aCardIsBroken_L5, if_neg (show ¬ (6 : Int32) ≤ nI k from nle (a := 6) (by decide) (by omega) hk)]
    rcases Classical.em (own a k) with w | w
    · rw [ob1_r (hasOw_y hw w), if_neg (by decide), ob1_r (of_ok hk)]
      unfold lt'
      dsimp only
      rw [ob1_r (of_ok hk), ob1_r (of_ok hk)]
      rcases Decidable.em (ys k &&& ns k = 0) with z | z
      · rw [if_pos z, nI_1]
        refine Or.inr ⟨(v &&& ns k, nI (k + 1)), rfl, rfl, nob_step h1 w (fun c hc => (mn k hk).2 c hc), fun o ho w2 => ?_⟩
        rcases Nat.decEq o k with e | e
        · exact h2 o (by omega) w2
        · rw [e]; exact (both_z my mn hk).mp z
      · rw [if_neg z]
        refine Or.inl ⟨1, rfl, Or.inl ⟨rfl, Or.inl ?_⟩⟩
        apply Classical.byContradiction
        intro q
        exact z ((both_z my mn hk).mpr fun c hc q2 => q ⟨k, c, hk, hc, w, q2.1, q2.2⟩)
    · rw [ob1_r (hasOw_n hw (by omega) w), if_pos rfl, nI_1]
      refine Or.inr ⟨(v, nI (k + 1)), rfl, rfl, nob_skip h1 w, fun o ho w2 => ?_⟩
      rcases Nat.decEq o k with e | e
      · exact h2 o (by omega) w2
      · subst e; exact absurd w2 w
  · rintro ⟨v, i⟩ ⟨e, h1, h2⟩ rec
    have e : i = nI 6 := e
    subst e
    have h1 : nobI a N 6 v := h1
    (try dsimp only)
    rw [f_X2_aCardIsBroken_L5, if_pos (show (6 : Int32) ≤ nI 6 from by decide)]
    rcases Decidable.em (v = 0) with z | z
    · rw [if_pos z]
      refine ⟨0, rfl, Or.inr ⟨rfl, ?_⟩⟩
      rintro (⟨o, c, ho, hc, w, q1, q2⟩ | q)
      · exact h2 o ho w c hc ⟨q1, q2⟩
      · exact (nob_end hw h1).mpr q z
    · rw [if_neg z]
      exact ⟨1, rfl, Or.inl ⟨rfl, Or.inr ((nob_end hw h1).mp z)⟩⟩
def hbad (a : Sh) (ys ns : Nat → Int32) (h : Nat) : Prop := hZ a h < cnt (hK h &&& ys (hO h)) ∨ cnt (hK h &&& (ns (hO h) ^^^ (-1 : Int32))) < hZ a h
theorem hbad_iff {a : Sh} (hw : WF a) {Y N : Mk} {ys ns : Nat → Int32} (my : MB Y ys) (mn : MB N ns) : brkH a Y N ↔ ∃ h, h < 8 ∧ hOk a h ∧ hbad a ys ns h := by
  have key : ∀ (h o κ : Nat), hO h = o → o < 6 → hs a o = hZ a h → (∀ c, c < 18 → bt (hK h) c = hin o κ c) → (hbad a ys ns h ↔ (hs a o < fb_ct (fun c => Y o c && hin o κ c) 18 ∨ fb_ct (fun c => hin o κ c && !N o c) 18 < hs a o)) := by
    intro h o κ e1 ho e2 e3
    have c1 : cnt (hK h &&& ys o) = fb_ct (fun c => Y o c && hin o κ c) 18 := fb_ct_cong fun c hc => by rw [b_and, (my o ho).2 c hc, e3 c hc, Bool.and_comm]
    have c2 : cnt (hK h &&& (ns o ^^^ (-1 : Int32))) = fb_ct (fun c => hin o κ c && !N o c) 18 := fb_ct_cong fun c hc => by rw [b_and, b_not _ (by omega), (mn o ho).2 c hc, e3 c hc]
    unfold hbad
    rw [e1, c1, c2, e2]
  constructor
  · rintro ⟨o, κ, w, hκ, q⟩
    obtain ⟨h, h8, h1, h2, h3, h4⟩ := own_hand hw w hκ
    exact ⟨h, h8, h1, (key h o κ h2 (own6 hw w) h3 h4).mpr q⟩
  · rintro ⟨h, h8, h1, q⟩
    obtain ⟨g1, κ, g2, g3, g4⟩ := hand_own hw h8 h1
    exact ⟨hO h, κ, g1, g2, (key h (hO h) κ rfl hO6 g3 g4).mp q⟩
theorem hands_ok {a : Sh} (hw : WF a) {Y N : Mk} {ys ns : Nat → Int32} (my : MB Y ys) (mn : MB N ns) : ∃ r, f_X2_aHandIsBroken ys ns (nI (sp a)) = some r ∧ BQ (brkH a Y N) r := by
  unfold f_X2_aHandIsBroken
  refine loop (S := Int32) (F := fun f s => lo1 (f_X2_aHandIsBroken_L2 ys ns (nI (sp a))) f s) (B := fun rec s => f_X2_aHandIsBroken_L2 ys ns (nI (sp a)) rec s) (fun _ _ => rfl) (fun k s => s = nI k ∧ ∀ h, h < k → hOk a h → ¬ hbad a ys ns h) (BQ (brkH a Y N)) 8 ?_ ?_ 8 0 FU 0 rfl (by decide) ⟨rfl, fun o h => absurd h (Nat.not_lt_zero o)⟩
  · rintro h i h8 ⟨rfl, h2⟩ rec
    (try dsimp only)
    rw [f_X2_aHandIsBroken_L2, if_neg (show ¬ (8 : Int32) ≤ nI h from nle (a := 8) (by decide) (by omega) h8)]
    have nxt : ¬ (hOk a h ∧ hbad a ys ns h) → ∀ o, o < h + 1 → hOk a o → ¬ hbad a ys ns o := by
      intro q o ho w2 q2
      rcases Nat.decEq o h with e | e
      · exact h2 o (by omega) w2 q2
      · subst e; exact q ⟨w2, q2⟩
    rcases Classical.em (hOk a h) with w | w
    · have hz := hZ_le hw h
      have hc1 := cnt_le (hK h &&& ys (hO h))
      have hc2 := cnt_le (hK h &&& (ns (hO h) ^^^ (-1 : Int32)))
      rw [ob1_r (hasHand_y hw h8 w), if_neg (by decide), ob1_r (ownerH_ok h8), ob1_r (cardsH_ok h8), ob1_r (sizeH_ok hw h8 w), ob1_r (of_ok hO6), ob1_r (count_18 (m18_and (hK18 h8)))]
      rcases Nat.lt_or_ge (hZ a h) (cnt (hK h &&& ys (hO h))) with u | u
      · rw [if_pos (nI_lt u (by omega))]
        exact Or.inl ⟨1, rfl, Or.inl ⟨rfl, (hbad_iff hw my mn).mpr ⟨h, h8, w, Or.inl u⟩⟩⟩
      · rw [if_neg (nI_nlt u (by omega)), ob1_r (of_ok hO6), ob1_r (count_18 (m18_and (hK18 h8)))]
        rcases Nat.lt_or_ge (cnt (hK h &&& (ns (hO h) ^^^ (-1 : Int32)))) (hZ a h) with v | v
        · rw [if_neg (nle (by omega) (by omega) v)]
          exact Or.inl ⟨1, rfl, Or.inl ⟨rfl, (hbad_iff hw my mn).mpr ⟨h, h8, w, Or.inr v⟩⟩⟩
        · rw [if_pos (nI_le v (by omega)), nI_1]
          exact Or.inr ⟨nI (h + 1), rfl, rfl, nxt (fun q => by rcases q.2 with q | q <;> omega)⟩
    · rw [ob1_r (hasHand_n hw h8 w), if_pos rfl, nI_1]
      exact Or.inr ⟨nI (h + 1), rfl, rfl, nxt (fun q => w q.1)⟩
  · rintro i ⟨rfl, h2⟩ rec
    (try dsimp only)
    rw [f_X2_aHandIsBroken_L2, if_pos (show (8 : Int32) ≤ nI 8 from by decide)]
    refine ⟨0, rfl, Or.inr ⟨rfl, fun q => ?_⟩⟩
    obtain ⟨h, h8, w, q⟩ := (hbad_iff hw my mn).mp q
    exact h2 h h8 w q
theorem left_z {a : Sh} (hw : WF a) {i : Nat} (hi : i < sn a) {m : Int32} (hm : M18 m) (hb : ∀ c, c < 18 → bt m c = inF a i c) {T : Mk} {t : Nat → Int32} (mt : MB T t) : (m &&& (t (ow a i) ^^^ (-1 : Int32))) = 0 ↔ ∀ c, c < 18 → inF a i c = true → T (ow a i) c = true := by
  have ho := ow6 hw hi
  rw [m18_z (m18_and hm)]
  constructor
  · intro h c hc q
    have := h c hc
    rw [b_andnot hm, hb c hc, q, (mt _ ho).2 c hc] at this
    cases e : T (ow a i) c
    · rw [e] at this; exact Bool.noConfusion this
    · rfl
  · intro h c hc
    rw [b_andnot hm, hb c hc, (mt _ ho).2 c hc]
    have := h c hc
    cases e : inF a i c
    · rfl
    · rw [this e]; rfl
theorem three_brk {a : Sh} (hw : WF a) {pl to : Int32} {ks os cs : Nat → Int32} (hf : RF pl to ks os cs a) {Y N : Mk} {ys ns : Nat → Int32} (my : MB Y ys) (mn : MB N ns) : ∃ r, f_X2_aThreeIsBroken ys ns to ks os cs = some r ∧ BQ (brkT a Y N) r := by
  unfold f_X2_aThreeIsBroken
  have h41 := hw.2.2.1
  refine loop (S := Int32) (F := fun f s => lo1 (f_X2_aThreeIsBroken_L2 ys ns to ks os cs) f s) (B := fun rec s => f_X2_aThreeIsBroken_L2 ys ns to ks os cs rec s) (fun _ _ => rfl) (fun k s => s = nI k ∧ ∀ j, j < k → ¬ thr a Y N j) (BQ (brkT a Y N)) (sn a) ?_ ?_ (sn a) 0 FU 0 (by omega) (Nat.lt_of_le_of_lt h41 (by decide)) ⟨rfl, fun o h => absurd h (Nat.not_lt_zero o)⟩
  · rintro i x hi ⟨rfl, h2⟩ rec
    obtain ⟨f1, f2, f3⟩ := hf
    obtain ⟨g1, g2, g3, g4⟩ := f3 i hi
    have k4 := (hw.2.2.2 i hi).1
    (try dsimp only)
    rw [f_X2_aThreeIsBroken_L2, f2, if_neg (nle (by omega) (by omega) hi), gd_r (vp_in_nI (n := i) (by omega) (by decide)), i_cl (by omega), g1]
    have nxt : ¬ thr a Y N i → ∀ o, o < i + 1 → ¬ thr a Y N o := by
      intro q o ho q2
      rcases Nat.decEq o i with e | e
      · exact h2 o (by omega) q2
      · subst e; exact q q2
    have hl := left_ok hw ⟨f1, f2, f3⟩ (ys := ys) (ns := ns) hi
    rcases Nat.decEq (kd a i) 2 with e | e
    · rw [if_neg (show ¬ nI (kd a i) = (2 : Int32) from fun q => e ((i_eq (b := 2) (by omega) (by decide)).mp q)), gd_r (vp_in_nI (n := i) (by omega) (by decide))]
      rcases Nat.decEq (kd a i) 3 with e3 | e3
      · rw [if_neg (show ¬ nI (kd a i) = (3 : Int32) from fun q => e3 ((i_eq (b := 3) (by omega) (by decide)).mp q)), if_pos rfl, nI_1]
        refine Or.inr ⟨nI (i + 1), rfl, rfl, nxt ?_⟩
        rintro (q | q)
        · exact e q.1
        · exact e3 q.1
      · rw [if_pos (show nI (kd a i) = (3 : Int32) from by rw [e3]; rfl), if_neg (by decide), ob1_r hl, if_pos e3]
        have hz := left_z hw hi g3 g4 my
        rcases Decidable.em ((cs i &&& (ys (ow a i) ^^^ (-1 : Int32))) = 0) with z | z
        · rw [if_pos z]
          exact Or.inl ⟨1, rfl, Or.inl ⟨rfl, i, hi, Or.inr ⟨e3, hz.mp z⟩⟩⟩
        · rw [if_neg z, nI_1]
          refine Or.inr ⟨nI (i + 1), rfl, rfl, nxt ?_⟩
          rintro (q | q)
          · exact e q.1
          · exact z (hz.mpr q.2)
    · rw [if_pos (show nI (kd a i) = (2 : Int32) from by rw [e]; rfl), if_neg (by decide), ob1_r hl, if_neg (show ¬ kd a i = 3 by omega)]
      have hz := left_z hw hi g3 g4 mn
      rcases Decidable.em ((cs i &&& (ns (ow a i) ^^^ (-1 : Int32))) = 0) with z | z
      · rw [if_pos z]
        exact Or.inl ⟨1, rfl, Or.inl ⟨rfl, i, hi, Or.inl ⟨e, hz.mp z⟩⟩⟩
      · rw [if_neg z, nI_1]
        refine Or.inr ⟨nI (i + 1), rfl, rfl, nxt ?_⟩
        rintro (q | q)
        · exact z (hz.mpr q.2)
        · omega
  · rintro i ⟨rfl, h2⟩ rec
    (try dsimp only)
    rw [f_X2_aThreeIsBroken_L2, hf.2.1, if_pos (nI_le (Nat.le_refl _) (by omega))]
    exact ⟨0, rfl, Or.inr ⟨rfl, fun ⟨j, hj, q⟩ => h2 j hj q⟩⟩
theorem areBroken_ok {a : Sh} (hw : WF a) {pl to : Int32} {ks os cs : Nat → Int32} (hf : RF pl to ks os cs a) {Y N : Mk} {ys ns : Nat → Int32} (my : MB Y ys) (mn : MB N ns) : ∃ r, f_X2_areBroken ys ns pl to ks os cs = some r ∧ BQ (brk a Y N) r := by
  unfold f_X2_areBroken
  obtain ⟨r1, e1, q1⟩ := card_ok hw my mn
  obtain ⟨r2, e2, q2⟩ := hands_ok hw my mn
  obtain ⟨r3, e3, q3⟩ := three_brk hw hf my mn
  rw [hf.1, ob1_r e1]
  rcases q1 with ⟨rfl, q1⟩ | ⟨rfl, q1⟩
  · rw [if_neg (by decide)]
    exact ⟨1, rfl, Or.inl ⟨rfl, brk_parts.mpr (Or.inl q1)⟩⟩
  · rw [if_pos rfl, ob1_r e2]
    rcases q2 with ⟨rfl, q2⟩ | ⟨rfl, q2⟩
    · rw [if_neg (by decide)]
      exact ⟨1, rfl, Or.inl ⟨rfl, brk_parts.mpr (Or.inr (Or.inl q2))⟩⟩
    · rw [if_pos rfl, ob1_r e3]
      rcases q3 with ⟨rfl, q3⟩ | ⟨rfl, q3⟩
      · rw [if_neg (by decide)]
        exact ⟨1, rfl, Or.inl ⟨rfl, brk_parts.mpr (Or.inr (Or.inr q3))⟩⟩
      · rw [if_pos rfl]
        refine ⟨0, rfl, Or.inr ⟨rfl, fun q => ?_⟩⟩
        rcases brk_parts.mp q with q | q | q
        · exact q1 q
        · exact q2 q
        · exact q3 q

