/-! ===== broken sheets in the reference ===== -/
theorem BQ.t {P : Prop} {r : Int32} (h : BQ P r) (p : P) : r = 1 := by
  rcases h with h | h
  · exact h.1
  · exact absurd p h.2
theorem BQ.f {P : Prop} {r : Int32} (h : BQ P r) (p : ¬ P) : r = 0 := by
  rcases h with h | h
  · exact absurd h.2 p
  · exact h.1
theorem BQ.same {P : Prop} {r s : Int32} (h : BQ P r) (q : BQ P s) : r = s := by
  rcases Classical.em P with p | p
  · rw [h.t p, q.t p]
  · rw [h.f p, q.f p]
theorem isWrong_ok {yes no : Nat → Int32} {o t : Nat} {m : Int32} (ho : o < 6) (hy : M18 (yes o)) (hm : M18 m) (ht : t < 1000) : ∃ r, f_X6_isWrong yes no (nI o) m (nI t) = some r ∧ BQ (t < cnt (yes o &&& m) ∨ cnt (m &&& (no o ^^^ (-1 : Int32))) < t) r := by
  have h1 := cnt_le (yes o &&& m)
  have h2 := cnt_le (m &&& (no o ^^^ (-1 : Int32)))
  unfold f_X6_isWrong
  rw [gd_r (vp_in_nI (n := o) (by omega) (by decide)), i_cl (by omega), ob1_r (bits_18 (m18_and hy))]
  rcases Nat.lt_or_ge t (cnt (yes o &&& m)) with u | u
  · rw [if_pos (nI_lt u (by omega))]
    exact ⟨1, rfl, Or.inl ⟨rfl, Or.inl u⟩⟩
  · rw [if_neg (nI_nlt u (by omega)), gd_r (vp_in_nI (n := o) (by omega) (by decide)), ob1_r (bits_18 (m18_and hm))]
    rcases Nat.lt_or_ge (cnt (m &&& (no o ^^^ (-1 : Int32)))) t with v | v
    · rw [if_neg (nle (by omega) (by omega) v)]
      exact ⟨1, rfl, Or.inl ⟨rfl, Or.inr v⟩⟩
    · rw [if_pos (nI_le v (by omega))]
      exact ⟨0, rfl, Or.inr ⟨rfl, fun q => by omega⟩⟩
def wr (a : Sh) (Y N : Mk) (o κ : Nat) : Prop := hs a o < fb_ct (fun c => Y o c && hin o κ c) 18 ∨ fb_ct (fun c => hin o κ c && !N o c) 18 < hs a o
def both (Y N : Mk) (o : Nat) : Prop := ∃ c, c < 18 ∧ Y o c = true ∧ N o c = true
theorem wr_ok {a : Sh} (hw : WF a) {Y N : Mk} {yes no : Nat → Int32} (my : MB Y yes) (mn : MB N no) {o κ : Nat} (ho : o < 6) (hκ : κ < 3) : ∃ r, f_X6_isWrong yes no (nI o) (hm o κ) (nI (hs a o)) = some r ∧ BQ (wr a Y N o κ) r := by
  have hs16 : hs a o < 1000 := by unfold hs; have := size_le hw o; split <;> omega
  obtain ⟨r, e, q⟩ := isWrong_ok (yes := yes) (no := no) ho (my o ho).1 (hm_18 (o := o) hκ) hs16
  refine ⟨r, e, q.iff ?_⟩
  rw [c_4 my ho hκ, c_5 mn ho hκ]
  exact Iff.rfl
theorem ownBr_ok {a : Sh} (hw : WF a) {z : Nat → Int32} (hz : RZ z a) {Y N : Mk} {yes no : Nat → Int32} (my : MB Y yes) (mn : MB N no) {o : Nat} (w : own a o) : ∃ r, f_X6_isOwnerBroken z yes no (nI o) = some r ∧ BQ (both Y N o ∨ ∃ κ, κ < 3 ∧ wr a Y N o κ) r := by
  have ho := own6 hw w
  have go : ∀ t0, BQ (both Y N o) t0 → ∃ r, f_X6_isOwnerBroken_J21 z yes no (nI o) t0 = some r ∧ BQ (both Y N o ∨ ∃ κ, κ < 3 ∧ wr a Y N o κ) r := by
    intro t0 h0
    unfold f_X6_isOwnerBroken_J21
    refine loop (S := Int32 × Int32) (F := fun f s => lo2 (f_X6_isOwnerBroken_L24 z yes no (nI o)) f s.1 s.2) (B := fun rec s => f_X6_isOwnerBroken_L24 z yes no (nI o) (fun x y => rec (x, y)) s.1 s.2) (fun _ _ => rfl) (fun k s => s.2 = nI k ∧ BQ (both Y N o ∨ ∃ κ, κ < k ∧ wr a Y N o κ) s.1) _ 3 ?_ ?_ 3 0 FU (t0, 0) rfl (by decide) ⟨rfl, h0.iff ⟨Or.inl, fun q => q.resolve_right fun ⟨κ, h, _⟩ => Nat.not_lt_zero κ h⟩⟩
    · rintro k ⟨v, i⟩ hk ⟨e, h1⟩ rec
      replace e : i = nI k := e
      subst e
      replace h1 : BQ (both Y N o ∨ ∃ κ, κ < k ∧ wr a Y N o κ) v := h1
      (try dsimp only)
      rw [f_X6_isOwnerBroken_L24, if_neg (show ¬ (3 : Int32) ≤ nI k from nle (a := 3) (by decide) (by omega) hk)]
      rcases h1 with ⟨rfl, h1⟩ | ⟨rfl, h1⟩
      · rw [if_neg (by decide), nI_1]
        exact Or.inr ⟨(1, nI (k + 1)), rfl, rfl, Or.inl ⟨rfl, h1.imp_right fun ⟨κ, h, q⟩ => ⟨κ, by omega, q⟩⟩⟩
      · rw [if_pos rfl]
        obtain ⟨r, e, q⟩ := wr_ok hw my mn (a := a) ho hk
        have fin : ∃ s' : Int32 × Int32, (if r = (0 : Int32) then rec (0, nI k + 1) else rec (1, nI k + 1)) = rec s' ∧ s'.2 = nI (k + 1) ∧ BQ (both Y N o ∨ ∃ κ, κ < k + 1 ∧ wr a Y N o κ) s'.1 := by
          rcases q with ⟨rfl, q⟩ | ⟨rfl, q⟩
          · rw [if_neg (by decide), nI_1]
            exact ⟨_, rfl, rfl, Or.inl ⟨rfl, Or.inr ⟨k, by omega, q⟩⟩⟩
          · rw [if_pos rfl, nI_1]
            refine ⟨_, rfl, rfl, Or.inr ⟨rfl, ?_⟩⟩
            rintro (u | ⟨κ, h, u⟩)
            · exact h1 (Or.inl u)
            · rcases Nat.decEq κ k with e2 | e2
              · exact h1 (Or.inr ⟨κ, by omega, u⟩)
              · rw [e2] at u; exact q u
        rcases Nat.decEq o 5 with e5 | e5
        · have hp : o < sp a := w.resolve_right e5
          have hh : hm o k = 262143 := if_neg e5
          have hs' : hs a o = size a o := if_neg e5
          rw [if_neg (show ¬ nI o = (5 : Int32) from fun q => e5 ((i_eq (b := 5) (by omega) (by decide)).mp q)), ob1_r (sizeOf_ok hz hw hp)]
          rw [hh, hs'] at e
          rw [ob1_r e]
          exact Or.inr fin
        · subst e5
          rw [if_pos (show nI 5 = (5 : Int32) from rfl), f_X6_kindSet, ob1_r rfl]
          have e' : f_X6_isWrong yes no (nI 5) ((63 : Int32) <<< (((6 : Int32) * nI k) &&& 31)) (1 : Int32) = some r := e
          rw [ob1_r e']
          exact Or.inr fin
    · rintro ⟨v, i⟩ ⟨e, h1⟩ rec
      replace e : i = nI 3 := e
      subst e
      replace h1 : BQ (both Y N o ∨ ∃ κ, κ < 3 ∧ wr a Y N o κ) v := h1
      (try dsimp only)
      rw [f_X6_isOwnerBroken_L24, if_pos (show (3 : Int32) ≤ nI 3 from by decide)]
      refine ⟨v, ?_, h1⟩
      rcases h1 with ⟨rfl, _⟩ | ⟨rfl, _⟩
      · rfl
      · rfl
  have hb : both Y N o ↔ ¬ (yes o &&& no o) = 0 := by
    rw [both_z my mn ho]
    constructor
    · rintro ⟨c, hc, q⟩ h
      exact h c hc q
    · intro h
      apply Classical.byContradiction
      intro q
      exact h fun c hc q2 => q ⟨c, hc, q2⟩
  unfold f_X6_isOwnerBroken
  rw [gd_r (vp_in_nI (n := o) ho (by decide)), gd_r (vp_in_nI (n := o) ho (by decide)), i_cl (by omega)]
  rcases Decidable.em ((yes o &&& no o) = 0) with u | u
  · rw [if_pos u]
    exact go 0 (Or.inr ⟨rfl, fun q => hb.mp q u⟩)
  · rw [if_neg u]
    exact go 1 (Or.inl ⟨rfl, hb.mpr u⟩)
theorem thr_z {a : Sh} (hw : WF a) {z : Nat → Int32} (hz : RZ z a) {Y N : Mk} {yes no : Nat → Int32} (my : MB Y yes) (mn : MB N no) {v1 : Int32} {P : Prop} {v2 : Int32} (h2 : BQ P v2) : ∃ r, lo2 (f_X6_isBroken_L56 z yes no v1) FU v2 0 = some r ∧ BQ (P ∨ brkT a Y N ∨ ¬ v1 = 0) r := by
  have h41 := hw.2.2.1
  refine loop (S := Int32 × Int32) (F := fun f s => lo2 (f_X6_isBroken_L56 z yes no v1) f s.1 s.2) (B := fun rec s => f_X6_isBroken_L56 z yes no v1 (fun x y => rec (x, y)) s.1 s.2) (fun _ _ => rfl) (fun k s => s.2 = nI k ∧ BQ (P ∨ ∃ j, j < k ∧ thr a Y N j) s.1) _ (sn a) ?_ ?_ (sn a) 0 FU (v2, 0) (by omega) (Nat.lt_of_le_of_lt h41 (by decide)) ⟨rfl, h2.iff ⟨Or.inl, fun q => q.resolve_right fun ⟨κ, h, _⟩ => Nat.not_lt_zero κ h⟩⟩
  · rintro k ⟨v, i⟩ hk ⟨e, h1⟩ rec
    replace e : i = nI k := e
    subst e
    replace h1 : BQ (P ∨ ∃ j, j < k ∧ thr a Y N j) v := h1
    obtain ⟨g1, g2, g3, g4, g5, g6⟩ := hz.2.2 k hk
    have k4 := (hw.2.2.2 k hk).1
    (try dsimp only)
    rw [f_X6_isBroken_L56, gd1 (by decide), cl1, hz.2.1, if_neg (nle (by omega) (by omega) hk), fact_0 (by omega), ob1_r rfl, g1]
    have nxt : ∀ t, BQ ((P ∨ ∃ j, j < k ∧ thr a Y N j) ∨ thr a Y N k) t → BQ (P ∨ ∃ j, j < k + 1 ∧ thr a Y N j) t := fun t q => q.iff ⟨fun q => by
      rcases q with (q | ⟨j, h, q⟩) | q
      · exact Or.inl q
      · exact Or.inr ⟨j, by omega, q⟩
      · exact Or.inr ⟨k, by omega, q⟩, fun q => by
      rcases q with q | ⟨j, h, q⟩
      · exact Or.inl (Or.inl q)
      · rcases Nat.decEq j k with e2 | e2
        · exact Or.inl (Or.inr ⟨j, by omega, q⟩)
        · rw [e2] at q; exact Or.inr q⟩
    have fin : ∀ (t : Int32), BQ (kd a k = 2 ∧ ∀ c, c < 18 → inF a k c = true → N (ow a k) c = true) t → ∃ s' : Int32 × Int32, f_X6_isBroken_J103 z yes (fun x y => rec (x, y)) v (nI k) t = rec s' ∧ s'.2 = nI (k + 1) ∧ BQ (P ∨ ∃ j, j < k + 1 ∧ thr a Y N j) s'.1 := by
      intro t ht
      rw [f_X6_isBroken_J103, nI_1]
      rcases h1 with ⟨rfl, h1⟩ | ⟨rfl, h1⟩
      · rw [if_neg (by decide)]
        exact ⟨(1, nI (k + 1)), rfl, rfl, nxt 1 (Or.inl ⟨rfl, Or.inl h1⟩)⟩
      · rw [if_pos rfl]
        rcases ht with ⟨rfl, ht⟩ | ⟨rfl, ht⟩
        · rw [if_neg (by decide)]
          exact ⟨(1, nI (k + 1)), rfl, rfl, nxt 1 (Or.inl ⟨rfl, Or.inr (Or.inl ht)⟩)⟩
        · rw [if_pos rfl, fact_0 (by omega), ob1_r rfl, g1]
          have no' : ¬ (kd a k = 3 ∧ ∀ c, c < 18 → inF a k c = true → Y (ow a k) c = true) → ∃ s' : Int32 × Int32, rec (0, nI (k + 1)) = rec s' ∧ s'.2 = nI (k + 1) ∧ BQ (P ∨ ∃ j, j < k + 1 ∧ thr a Y N j) s'.1 := fun q => ⟨(0, nI (k + 1)), rfl, rfl, nxt 0 (Or.inr ⟨rfl, fun u => by
            rcases u with u | u | u
            · exact h1 u
            · exact ht u
            · exact q u⟩)⟩
          rcases Nat.decEq (kd a k) 3 with e3 | e3
          · rw [if_neg (show ¬ nI (kd a k) = (3 : Int32) from fun q => e3 ((i_eq (b := 3) (by omega) (by decide)).mp q))]
            exact no' fun q => e3 q.1
          · obtain ⟨m, m1, m2, m3⟩ := three_ok hz hw hk (by omega)
            rw [if_pos (show nI (kd a k) = (3 : Int32) from by rw [e3]; rfl), ob1_r m1, gd_r (show vp_in (5 : Int32) 6 from vp_in_nI (n := 5) (by decide) (by decide)), show (5 : Int32).toNatClampNeg = 5 from rfl]
            have o5 : ow a k = 5 := (hw.2.2.2 k hk).2.2.1 e3
            have hz2 := left_z hw hk m2 (fun c _ => m3 c) my
            rw [o5] at hz2 no'
            rcases Decidable.em ((m &&& (yes 5 ^^^ (-1 : Int32))) = 0) with u | u
            · rw [if_pos u]
              exact ⟨(1, nI (k + 1)), rfl, rfl, nxt 1 (Or.inl ⟨rfl, Or.inr (Or.inr ⟨e3, by rw [o5]; exact hz2.mp u⟩)⟩)⟩
            · rw [if_neg u]
              exact no' fun q => u (hz2.mpr q.2)
    rcases Nat.decEq (kd a k) 2 with e2 | e2
    · rw [if_neg (show ¬ nI (kd a k) = (2 : Int32) from fun q => e2 ((i_eq (b := 2) (by omega) (by decide)).mp q)), f_X6_isBroken_J102]
      exact Or.inr (fin 0 (Or.inr ⟨rfl, fun q => e2 q.1⟩))
    · obtain ⟨m, m1, m2, m3⟩ := three_ok hz hw hk (by omega)
      have ho := ow6 hw hk
      rw [if_pos (show nI (kd a k) = (2 : Int32) from by rw [e2]; rfl), ob1_r m1, fact_1 (by omega), ob1_r rfl, g2 (by omega), gd_r (vp_in_nI (n := ow a k) ho (by decide)), i_cl (by omega)]
      have hz2 := left_z hw hk m2 (fun c _ => m3 c) mn
      rcases Decidable.em ((m &&& (no (ow a k) ^^^ (-1 : Int32))) = 0) with u | u
      · rw [if_pos u]
        exact Or.inr (fin 1 (Or.inl ⟨rfl, e2, hz2.mp u⟩))
      · rw [if_neg u, f_X6_isBroken_J102]
        exact Or.inr (fin 0 (Or.inr ⟨rfl, fun q => u (hz2.mpr q.2)⟩))
  · rintro ⟨v, i⟩ ⟨e, h1⟩ rec
    replace e : i = nI (sn a) := e
    subst e
    replace h1 : BQ (P ∨ brkT a Y N) v := h1
    (try dsimp only)
    rw [f_X6_isBroken_L56, gd1 (by decide), cl1, hz.2.1, if_pos (nI_le (Nat.le_refl _) (by omega))]
    rcases h1 with ⟨rfl, h1⟩ | ⟨rfl, h1⟩
    · rw [if_neg (by decide)]
      exact ⟨1, rfl, Or.inl ⟨rfl, by rcases h1 with h | h; exact Or.inl h; exact Or.inr (Or.inl h)⟩⟩
    · rw [if_pos rfl]
      rcases Decidable.em (v1 = 0) with u | u
      · rw [if_pos u]
        refine ⟨0, rfl, Or.inr ⟨rfl, ?_⟩⟩
        rintro (q | q | q)
        · exact h1 (Or.inl q)
        · exact h1 (Or.inr q)
        · exact q u
      · rw [if_neg u]
        exact ⟨1, rfl, Or.inl ⟨rfl, Or.inr (Or.inr u)⟩⟩
theorem isBroken_ok {a : Sh} (hw : WF a) {z : Nat → Int32} (hz : RZ z a) {Y N : Mk} {yes no : Nat → Int32} (my : MB Y yes) (mn : MB N no) : ∃ r, f_X6_isBroken z yes no = some r ∧ BQ (brk a Y N) r := by
  unfold f_X6_isBroken
  refine loop (S := Int32 × Int32 × Int32) (F := fun f s => lo3 (f_X6_isBroken_L7 z yes no) f s.1 s.2.1 s.2.2) (B := fun rec s => f_X6_isBroken_L7 z yes no (fun x y w => rec (x, y, w)) s.1 s.2.1 s.2.2) (fun _ _ => rfl) (fun k s => s.2.2 = nI k ∧ nobI a N k s.1 ∧ BQ (∃ o, o < k ∧ own a o ∧ (both Y N o ∨ ∃ κ, κ < 3 ∧ wr a Y N o κ)) s.2.1) _ 6 ?_ ?_ 6 0 FU (262143, 0, 0) rfl (by decide) ⟨rfl, nob_0, Or.inr ⟨rfl, fun ⟨o, h, _⟩ => Nat.not_lt_zero o h⟩⟩
  · rintro k ⟨v, b, i⟩ hk ⟨e, h1, h2⟩ rec
    replace e : i = nI k := e
    subst e
    replace h1 : nobI a N k v := h1
    replace h2 : BQ (∃ o, o < k ∧ own a o ∧ (both Y N o ∨ ∃ κ, κ < 3 ∧ wr a Y N o κ)) b := h2
    (try dsimp only)
    rw [f_X6_isBroken_L7, if_neg (show ¬ (6 : Int32) ≤ nI k from nle (a := 6) (by decide) (by omega) hk), nI_1]
    rcases Classical.em (own a k) with w | w
    · have n1 := nob_step h1 w (fun c hc => (mn k hk).2 c hc)
      rw [ob1_r (isOw_y hz hw w), if_neg (by decide), gd_r (vp_in_nI (n := k) hk (by decide)), i_cl (by omega)]
      unfold lt'
      dsimp only
      rcases h2 with ⟨rfl, o, ho, h2⟩ | ⟨rfl, h2⟩
      · rw [if_neg (by decide)]
        exact Or.inr ⟨(v &&& no k, 1, nI (k + 1)), rfl, rfl, n1, Or.inl ⟨rfl, o, by omega, h2⟩⟩
      · obtain ⟨r, e, q⟩ := ownBr_ok hw hz my mn w
        rw [if_pos rfl, ob1_r e]
        rcases q with ⟨rfl, q⟩ | ⟨rfl, q⟩
        · rw [if_neg (by decide)]
          exact Or.inr ⟨(v &&& no k, 1, nI (k + 1)), rfl, rfl, n1, Or.inl ⟨rfl, k, by omega, w, q⟩⟩
        · rw [if_pos rfl]
          refine Or.inr ⟨(v &&& no k, 0, nI (k + 1)), rfl, rfl, n1, Or.inr ⟨rfl, ?_⟩⟩
          rintro ⟨o, ho, u⟩
          rcases Nat.decEq o k with e2 | e2
          · exact h2 ⟨o, by omega, u⟩
          · rw [e2] at u; exact q u.2
    · rw [ob1_r (isOw_n hz hw (by omega) w), if_pos rfl]
      refine Or.inr ⟨(v, b, nI (k + 1)), rfl, rfl, nob_skip h1 w, h2.iff ⟨fun ⟨o, ho, u⟩ => ⟨o, by omega, u⟩, fun ⟨o, ho, u⟩ => ?_⟩⟩
      rcases Nat.decEq o k with e2 | e2
      · exact ⟨o, by omega, u⟩
      · rw [e2] at u; exact absurd u.1 w
  · rintro ⟨v, b, i⟩ ⟨e, h1, h2⟩ rec
    replace e : i = nI 6 := e
    subst e
    replace h1 : nobI a N 6 v := h1
    replace h2 : BQ (∃ o, o < 6 ∧ own a o ∧ (both Y N o ∨ ∃ κ, κ < 3 ∧ wr a Y N o κ)) b := h2
    (try dsimp only)
    rw [f_X6_isBroken_L7, if_pos (show (6 : Int32) ≤ nI 6 from by decide)]
    obtain ⟨r, e, q⟩ := thr_z hw hz my mn (v1 := v) h2
    refine ⟨r, e, q.iff ?_⟩
    rw [brk_parts, nob_end hw h1]
    constructor
    · rintro (⟨o, ho, w, ⟨c, hc, q1, q2⟩ | ⟨κ, hκ, q1⟩⟩ | q | q)
      · exact Or.inl (Or.inl ⟨o, c, ho, hc, w, q1, q2⟩)
      · exact Or.inr (Or.inl ⟨o, κ, w, hκ, q1⟩)
      · exact Or.inr (Or.inr q)
      · exact Or.inl (Or.inr q)
    · rintro ((⟨o, c, ho, hc, w, q1, q2⟩ | q) | ⟨o, κ, w, hκ, q1⟩ | q)
      · exact Or.inl ⟨o, ho, w, Or.inl ⟨c, hc, q1, q2⟩⟩
      · exact Or.inr (Or.inr q)
      · exact Or.inl ⟨o, own6 hw w, w, Or.inr ⟨κ, hκ, q1⟩⟩
      · exact Or.inr (Or.inl q)
/-! ===== how many marks ===== -/
def tot (M : Mk) : Nat → Nat
  | 0 => 0
  | k + 1 => tot M k + fb_ct (M k) 18
theorem tot_le (M : Mk) : ∀ k, tot M k ≤ 18 * k
  | 0 => Nat.le_refl 0
  | k + 1 => by have := tot_le M k; have := fb_ct_le (M k) 18; show tot M k + fb_ct (M k) 18 ≤ _; omega
theorem mb_cnt {M : Mk} {t : Nat → Int32} (m : MB M t) {o : Nat} (ho : o < 6) : cnt (t o) = fb_ct (M o) 18 := fb_ct_cong fun c hc => (m o ho).2 c hc
theorem yesMany_ok {M : Mk} {t : Nat → Int32} (m : MB M t) : f_X6_yesMany t = some (nI (tot M 6)) := by
  unfold f_X6_yesMany
  have := loop (S := Int32 × Int32) (F := fun f s => lo2 (f_X6_yesMany_L4 t) f s.1 s.2) (B := fun rec s => f_X6_yesMany_L4 t (fun x y => rec (x, y)) s.1 s.2) (fun _ _ => rfl) (fun k s => s.2 = nI k ∧ s.1 = nI (tot M k)) (fun r => r = nI (tot M 6)) 6 (by
    rintro k ⟨v, i⟩ hk ⟨e, h1⟩ rec
    replace e : i = nI k := e
    replace h1 : v = nI (tot M k) := h1
    subst e h1
    (try dsimp only)
    rw [f_X6_yesMany_L4, if_neg (show ¬ (6 : Int32) ≤ nI k from nle (a := 6) (by decide) (by omega) hk), gd_r (vp_in_nI (n := k) hk (by decide)), i_cl (by omega), ob1_r (bits_18 (m k hk).1), mb_cnt m hk]
    unfold lt'
    dsimp only
    rw [nI_add, nI_1]
    exact Or.inr ⟨(nI (tot M (k + 1)), nI (k + 1)), rfl, rfl, rfl⟩) (by
    rintro ⟨v, i⟩ ⟨e, h1⟩ rec
    replace e : i = nI 6 := e
    replace h1 : v = nI (tot M 6) := h1
    subst e h1
    (try dsimp only)
    rw [f_X6_yesMany_L4, if_pos (show (6 : Int32) ≤ nI 6 from by decide)]
    exact ⟨_, rfl, rfl⟩) 6 0 FU (0, 0) rfl (by decide) ⟨rfl, rfl⟩
  obtain ⟨r, e, rfl⟩ := this
  exact e
theorem noMany_ok {M : Mk} {t : Nat → Int32} (m : MB M t) : f_X6_noMany t = some (nI (tot M 6)) := yesMany_ok m
theorem total_ok {M : Mk} {t : Nat → Int32} (m : MB M t) : f_X4_total t = some (nI (tot M 6)) := by
  unfold f_X4_total
  have := loop (S := Int32 × Int32) (F := fun f s => lo2 (f_X4_total_L4 t) f s.1 s.2) (B := fun rec s => f_X4_total_L4 t (fun x y => rec (x, y)) s.1 s.2) (fun _ _ => rfl) (fun k s => s.2 = nI k ∧ s.1 = nI (tot M k)) (fun r => r = nI (tot M 6)) 6 (by
    rintro k ⟨v, i⟩ hk ⟨e, h1⟩ rec
    replace e : i = nI k := e
    replace h1 : v = nI (tot M k) := h1
    subst e h1
    (try dsimp only)
    rw [f_X4_total_L4, if_neg (show ¬ (6 : Int32) ≤ nI k from nle (a := 6) (by decide) (by omega) hk), gd_r (vp_in_nI (n := k) hk (by decide)), i_cl (by omega), ob1_r (count_18 (m k hk).1), mb_cnt m hk]
    unfold lt'
    dsimp only
    rw [nI_add, nI_1]
    exact Or.inr ⟨(nI (tot M (k + 1)), nI (k + 1)), rfl, rfl, rfl⟩) (by
    rintro ⟨v, i⟩ ⟨e, h1⟩ rec
    replace e : i = nI 6 := e
    replace h1 : v = nI (tot M 6) := h1
    subst e h1
    (try dsimp only)
    rw [f_X4_total_L4, if_pos (show (6 : Int32) ≤ nI 6 from by decide)]
    exact ⟨_, rfl, rfl⟩) 6 0 FU (0, 0) rfl (by decide) ⟨rfl, rfl⟩
  obtain ⟨r, e, rfl⟩ := this
  exact e
