/-! ===== hands, the class ===== -/
def hOk (a : Sh) (h : Nat) : Prop := h < sp a ∨ 5 ≤ h
def hO (h : Nat) : Nat := if 5 < h then 5 else h
def hK (h : Nat) : Int32 := if 5 ≤ h then (63 : Int32) <<< ((nI (h - 5) * 6) &&& 31) else 262143
def hZ (a : Sh) (h : Nat) : Nat := if h < 5 then size a h else 1
theorem hO6 {h : Nat} : hO h < 6 := by unfold hO; split <;> omega
theorem hK18 {h : Nat} (hh : h < 8) : M18 (hK h) := by
  unfold hK
  split
  · exact m18_dec fun i hi h2 => by rw [b_kind (h - 5) (by omega) i hi]; exact decide_eq_false (by omega)
  · exact m18_all
theorem hasHand_y {a : Sh} (hw : WF a) {h : Nat} (h8 : h < 8) (ho : hOk a h) : f_X0_hasHand (nI (sp a)) (nI h) = some 1 := by
  have hp := hw.2.1
  unfold f_X0_hasHand
  rcases Nat.lt_or_ge h 5 with q | q
  · have : h < sp a := ho.resolve_right (by omega)
    rw [if_neg (show ¬ (5 : Int32) ≤ nI h from nle (a := 5) (by decide) (by omega) q), if_neg (nI_pos (by omega)), if_neg (nle (by omega) (by omega) this)]
  · rw [if_pos (show (5 : Int32) ≤ nI h from nI_le (a := 5) q (by omega))]
theorem hasHand_n {a : Sh} (hw : WF a) {h : Nat} (h8 : h < 8) (ho : ¬ hOk a h) : f_X0_hasHand (nI (sp a)) (nI h) = some 0 := by
  have hp := hw.2.1
  unfold f_X0_hasHand
  rw [if_neg (show ¬ (5 : Int32) ≤ nI h from nle (a := 5) (by decide) (by omega) (Nat.lt_of_not_le fun q => ho (Or.inr q))), if_neg (nI_pos (by omega)), if_pos (nI_le (Nat.le_of_not_lt (fun q => ho (Or.inl q))) (by omega))]
theorem ownerH_ok {h : Nat} (h8 : h < 8) : f_X0_ownerOfHand (nI h) = some (nI (hO h)) := by
  unfold f_X0_ownerOfHand hO
  rcases Nat.lt_or_ge 5 h with q | q
  · rw [if_pos (show (5 : Int32) < nI h from nI_lt (a := 5) q (by omega)), if_pos q]
    rfl
  · rw [if_neg (show ¬ (5 : Int32) < nI h from nI_nlt (b := h) (a := 5) q (by decide)), if_neg (by omega)]
theorem cardsH_ok {h : Nat} (h8 : h < 8) : f_X0_cardsForHand (nI h) = some (hK h) := by
  unfold f_X0_cardsForHand hK
  rcases Nat.lt_or_ge h 5 with q | q
  · rw [if_neg (show ¬ (5 : Int32) ≤ nI h from nle (a := 5) (by decide) (by omega) q), if_neg (by omega)]
  · rw [if_pos (show (5 : Int32) ≤ nI h from nI_le (a := 5) q (by omega)), if_pos q]
    have e : nI h - (5 : Int32) = nI (h - 5) := pk_sub (b := 5) q
    rw [e]
    rfl
theorem sizeH_ok {a : Sh} (hw : WF a) {h : Nat} (h8 : h < 8) (ho : hOk a h) : f_X0_sizeOfHand (nI (sp a)) (nI h) = some (nI (hZ a h)) := by
  have h1 := hw.1
  have h2 := hw.2.1
  unfold f_X0_sizeOfHand hZ
  rcases Nat.lt_or_ge h 5 with q | q
  · have hp : h < sp a := ho.resolve_right (by omega)
    rw [if_pos (show nI h < (5 : Int32) from nI_lt (b := 5) q (by decide)), if_pos q, if_pos (show (1 : Int32) < nI (sp a) from nI_lt (a := 1) (by omega) (by omega))]
    rw [nz_r (fun e => by have := (i_eq (b := 0) (by omega) (by decide)).mp e; omega)]
    have e1 : (((15 : Int32) + nI (sp a)) - 1) - nI h = nI (15 + sp a - 1 - h) := by
      rw [show (15 : Int32) + nI (sp a) = nI (15 + sp a) from nI_add 15 _, show nI (15 + sp a) - (1 : Int32) = nI (15 + sp a - 1) from pk_sub (b := 1) (by omega), pk_sub (by omega)]
    rw [e1, pk_div (by omega) (by omega) (by omega)]
    congr 2
    unfold size
    rcases (show sp a = 2 ∨ sp a = 3 ∨ sp a = 4 ∨ sp a = 5 by omega) with e | e | e | e <;> rw [e] <;> rw [e] at hp <;> split <;> omega
  · rw [if_neg (show ¬ nI h < (5 : Int32) from nI_nlt (b := 5) q (by omega)), if_neg (by omega)]
    rfl
def P4 (a : Sh) (ys : Nat → Int32) (h x c : Nat) : Prop := hOk a h ∧ x = hO h ∧ bt (hK h) c = true ∧ hZ a h ≤ cnt (hK h &&& ys x) ∧ bt (ys x) c = false
def P5 (a : Sh) (ns : Nat → Int32) (h x c : Nat) : Prop := hOk a h ∧ x = hO h ∧ bt (hK h) c = true ∧ cnt (hK h &&& (ns x ^^^ (-1 : Int32))) ≤ hZ a h ∧ bt (ns x) c = false
theorem hZ_le {a : Sh} (hw : WF a) (h : Nat) : hZ a h < 1000 := by
  unfold hZ
  have := size_le hw h
  split <;> omega
theorem app_at {σ : Gh} {M : Mk} {r i m : Nat} {P : Nat → Nat → Nat → Prop} (hr : r ≠ 0) {σ' : Gh} (h : σ' = app σ M r (P i)) (hi : i < m) : app σ' M r (fun x c => ∃ j, i + 1 ≤ j ∧ j < m ∧ P j x c) = app σ M r (fun x c => ∃ j, i ≤ j ∧ j < m ∧ P j x c) := by
  rw [h, app_or hr]
  refine app_c fun x c => ⟨fun q => ?_, fun ⟨j, h1, h2, h3⟩ => ?_⟩
  · rcases q with q | ⟨j, h1, h2, h3⟩
    · exact ⟨i, Nat.le_refl _, hi, q⟩
    · exact ⟨j, by omega, h2, h3⟩
  · rcases Nat.lt_or_ge i j with u | u
    · exact Or.inr ⟨j, u, h2, h3⟩
    · have : j = i := by omega
      subst this
      exact Or.inl h3
theorem hand_go {a : Sh} (hw : WF a) {t : Prop} {Y N : Mk} {k : Nat} (hk : k + 1 < 1000) {T1 T2 T3 T4 : Gh} {ys ns : Nat → Int32} : ∀ (d h fuel : Nat), h + d = 8 → d < fuel → ∀ (cy oy cn on : Nat → Int32) (s1 s2 : Gh), RC t Y s1 k T1 T2 ys cy oy → RC t N s2 k T3 T4 ns cn on →
    ∃ cy' oy' cn' on', lo5 (f_X2_followHands_L2 ys (nI (k + 1)) ns (nI (k + 1)) (nI (sp a))) fuel (nI h) cy oy cn on = some (cy', oy', cn', on') ∧ RC t Y (app s1 Y 5 (fun x c => ∃ j, h ≤ j ∧ j < 8 ∧ P5 a ns j x c)) k T1 T2 ys cy' oy' ∧ RC t N (app s2 N 4 (fun x c => ∃ j, h ≤ j ∧ j < 8 ∧ P4 a ys j x c)) k T3 T4 ns cn' on' := by
  intro d
  induction d with
  | zero =>
    intro h fuel h1 h2 cy oy cn on s1 s2 hY hN
    obtain ⟨f, rfl⟩ : ∃ f, fuel = f + 1 := ⟨fuel - 1, by omega⟩
    have hh : h = 8 := by omega
    subst hh
    refine ⟨cy, oy, cn, on, ?_, ?_⟩
    · show f_X2_followHands_L2 ys (nI (k + 1)) ns (nI (k + 1)) (nI (sp a)) (lo5 _ f) (nI 8) cy oy cn on = _
      rw [f_X2_followHands_L2, if_pos (show (8 : Int32) ≤ nI 8 from by decide)]
    · rw [app_no (fun o c ⟨j, h3, h4, _⟩ => by omega), app_no (fun o c ⟨j, h3, h4, _⟩ => by omega)]
      exact ⟨hY, hN⟩
  | succ d ih =>
    intro h fuel h1 h2 cy oy cn on s1 s2 hY hN
    obtain ⟨f, rfl⟩ : ∃ f, fuel = f + 1 := ⟨fuel - 1, by omega⟩
    have h8 : h < 8 := by omega
    have hhead : lo5 (f_X2_followHands_L2 ys (nI (k + 1)) ns (nI (k + 1)) (nI (sp a))) (f + 1) (nI h) cy oy cn on = f_X2_followHands_L2 ys (nI (k + 1)) ns (nI (k + 1)) (nI (sp a)) (lo5 (f_X2_followHands_L2 ys (nI (k + 1)) ns (nI (k + 1)) (nI (sp a))) f) (nI h) cy oy cn on := rfl
    rw [hhead, f_X2_followHands_L2, if_neg (show ¬ (8 : Int32) ≤ nI h from nle (a := 8) (by decide) (by omega) h8)]
    rcases Classical.em (hOk a h) with w | w
    · rw [ob1_r (hasHand_y hw h8 w), if_neg (by decide), ob1_r (ownerH_ok h8), ob1_r (cardsH_ok h8), ob1_r (sizeH_ok hw h8 w), ob1_r (of_ok hO6)]
      unfold lt'
      dsimp only
      rw [ob1_r (of_ok hO6), ob1_r (count_18 (m18_and (hK18 h8)))]
      have hz := hZ_le hw h
      have hc1 := cnt_le (hK h &&& ys (hO h))
      have hc2 := cnt_le (hK h &&& (ns (hO h) ^^^ (-1 : Int32)))
      have fin : ∀ (cn1 on1 : Nat → Int32) (s2' : Gh), s2' = app s2 N 4 (P4 a ys h) → RC t N s2' k T3 T4 ns cn1 on1 → ∃ cy' oy' cn' on', (ob1 (f_J6_bitCount_0f7a4 (hK h &&& (ns (hO h) ^^^ (-1 : Int32)))) (fun (r_90 : Int32) => if nI (hZ a h) < r_90 then (lo5 (f_X2_followHands_L2 ys (nI (k + 1)) ns (nI (k + 1)) (nI (sp a))) f (nI h + 1) cy oy cn1 on1) else (ob2 (f_X4_add ys cy oy (nI (k + 1)) (nI (hO h)) (hK h &&& (ns (hO h) ^^^ (-1 : Int32))) (5 : Int32)) (fun (c106 : Nat → Int32) (o106 : Nat → Int32) => lo5 (f_X2_followHands_L2 ys (nI (k + 1)) ns (nI (k + 1)) (nI (sp a))) f (nI h + 1) c106 o106 cn1 on1)))) = some (cy', oy', cn', on') ∧ RC t Y (app s1 Y 5 (fun x c => ∃ j, h ≤ j ∧ j < 8 ∧ P5 a ns j x c)) k T1 T2 ys cy' oy' ∧ RC t N (app s2 N 4 (fun x c => ∃ j, h ≤ j ∧ j < 8 ∧ P4 a ys j x c)) k T3 T4 ns cn' on' := by
        intro cn1 on1 s2' e2 hN1
        rw [ob1_r (count_18 (m18_and (hK18 h8)))]
        rcases Nat.lt_or_ge (hZ a h) (cnt (hK h &&& (ns (hO h) ^^^ (-1 : Int32)))) with u | u
        · rw [if_pos (nI_lt u (by omega)), nI_1]
          obtain ⟨x1, x2, x3, x4, g1, g2, g3⟩ := ih (h + 1) f (by omega) (by omega) cy oy cn1 on1 s1 s2' hY hN1
          rw [app_at (P := fun j x c => P4 a ys j x c) (by decide) e2 h8] at g3
          have c1 : s1 = app s1 Y 5 (P5 a ns h) := (app_no (fun x c q => by have := q.2.2.2.1; rw [q.2.1] at this; omega)).symm
          rw [app_at (P := fun j x c => P5 a ns j x c) (by decide) c1 h8] at g2
          exact ⟨x1, x2, x3, x4, g1, g2, g3⟩
        · rw [if_neg (nI_nlt u (by omega))]
          obtain ⟨b1, b2, b3, b4⟩ := add_rc hY (o := hO h) hO6 (m18_and (y := (ns (hO h) ^^^ (-1 : Int32))) (hK18 h8)) hk (r := 5) (by decide) (by decide) (rl := 5) rfl
          rw [ob2_r b3, nI_1]
          obtain ⟨x1, x2, x3, x4, g1, g2, g3⟩ := ih (h + 1) f (by omega) (by omega) b1 b2 cn1 on1 _ s2' b4 hN1
          rw [app_at (P := fun j x c => P4 a ys j x c) (by decide) e2 h8] at g3
          have c1 : app s1 Y 5 (one (hO h) (hK h &&& (ns (hO h) ^^^ (-1 : Int32)))) = app s1 Y 5 (P5 a ns h) := app_c fun x c => by
            unfold one P5
            rw [b_andnot (hK18 h8), Bool.and_eq_true, Bool.not_eq_true']
            exact ⟨fun q => by obtain ⟨rfl, q2, q3⟩ := q; exact ⟨w, rfl, q2, u, q3⟩, fun q => by obtain ⟨_, rfl, q2, _, q3⟩ := q; exact ⟨rfl, q2, q3⟩⟩
          rw [app_at (P := fun j x c => P5 a ns j x c) (by decide) c1 h8] at g2
          exact ⟨x1, x2, x3, x4, g1, g2, g3⟩
      rcases Nat.lt_or_ge (cnt (hK h &&& ys (hO h))) (hZ a h) with u | u
      · rw [if_pos (nI_lt u (by omega))]
        exact fin cn on s2 (app_no (fun x c q => by have := q.2.2.2.1; rw [q.2.1] at this; omega)).symm hN
      · rw [if_neg (nI_nlt u (by omega))]
        obtain ⟨b1, b2, b3, b4⟩ := add_rc hN (o := hO h) hO6 (m18_and (y := ((hK h &&& ys (hO h)) ^^^ (-1 : Int32))) (hK18 h8)) hk (r := 4) (by decide) (by decide) (rl := 4) rfl
        rw [ob2_r b3]
        refine fin b1 b2 _ ?_ b4
        refine app_c fun x c => ?_
        unfold one P4
        rw [b_andnot (hK18 h8), b_and, Bool.and_eq_true, Bool.not_eq_true']
        exact ⟨fun q => by
          obtain ⟨rfl, q2, q3⟩ := q
          rw [q2, Bool.true_and] at q3
          exact ⟨w, rfl, q2, u, q3⟩, fun q => by
          obtain ⟨_, rfl, q2, _, q3⟩ := q
          exact ⟨rfl, q2, by rw [q3, Bool.and_false]⟩⟩
    · rw [ob1_r (hasHand_n hw h8 w), if_pos rfl, nI_1]
      obtain ⟨x1, x2, x3, x4, g1, g2, g3⟩ := ih (h + 1) f (by omega) (by omega) cy oy cn on s1 s2 hY hN
      have c1 : s1 = app s1 Y 5 (P5 a ns h) := (app_no (fun x c q => w q.1)).symm
      have c2 : s2 = app s2 N 4 (P4 a ys h) := (app_no (fun x c q => w q.1)).symm
      rw [app_at (P := fun j x c => P5 a ns j x c) (by decide) c1 h8] at g2
      rw [app_at (P := fun j x c => P4 a ys j x c) (by decide) c2 h8] at g3
      exact ⟨x1, x2, x3, x4, g1, g2, g3⟩
theorem b_hK {h : Nat} (h8 : h < 8) {c : Nat} (hc : c < 18) : bt (hK h) c = if 5 ≤ h then decide (c / 6 = h - 5) else true := by
  unfold hK
  split
  · exact b_kind (h - 5) (by omega) c (by omega)
  · exact b_all c hc
/-- a hand of the class is an owner and a kind of the document -/
theorem hand_own {a : Sh} (hw : WF a) {h : Nat} (h8 : h < 8) (w : hOk a h) : own a (hO h) ∧ ∃ κ, κ < 3 ∧ hs a (hO h) = hZ a h ∧ ∀ c, c < 18 → bt (hK h) c = hin (hO h) κ c := by
  have hp := hw.2.1
  rcases Nat.lt_or_ge h 5 with q | q
  · have hp' : h < sp a := w.resolve_right (by omega)
    have e : hO h = h := if_neg (by omega)
    rw [e]
    refine ⟨Or.inl hp', 0, by decide, ?_, fun c hc => ?_⟩
    · unfold hs hZ
      rw [if_neg (by omega), if_pos q]
    · rw [b_hK h8 hc, if_neg (by omega)]
      unfold hin
      rw [if_neg (by omega)]
  · have e : hO h = 5 := by unfold hO; split <;> omega
    rw [e]
    refine ⟨Or.inr rfl, h - 5, by omega, ?_, fun c hc => ?_⟩
    · unfold hs hZ
      rw [if_pos rfl, if_neg (by omega)]
    · rw [b_hK h8 hc, if_pos q]
      rfl
theorem own_hand {a : Sh} (hw : WF a) {x κ : Nat} (w : own a x) (hκ : κ < 3) : ∃ h, h < 8 ∧ hOk a h ∧ hO h = x ∧ hs a x = hZ a h ∧ ∀ c, c < 18 → bt (hK h) c = hin x κ c := by
  have hp := hw.2.1
  rcases Nat.decEq x 5 with q | q
  · have hx : x < sp a := w.resolve_right q
    refine ⟨x, by omega, Or.inl hx, if_neg (by omega), ?_, fun c hc => ?_⟩
    · unfold hs hZ
      rw [if_neg q, if_pos (by omega)]
    · rw [b_hK (by omega) hc, if_neg (by omega)]
      unfold hin
      rw [if_neg q]
  · subst q
    refine ⟨5 + κ, by omega, Or.inr (by omega), by unfold hO; split <;> omega, ?_, fun c hc => ?_⟩
    · unfold hs hZ
      rw [if_pos rfl, if_neg (by omega)]
    · rw [b_hK (by omega) hc, if_pos (by omega), Nat.add_sub_cancel_left]
      rfl
theorem c_P4 {a : Sh} (hw : WF a) {Y : Mk} {ys : Nat → Int32} (m : MB Y ys) : ∀ x c, x < 6 → c < 18 → ((∃ j, 0 ≤ j ∧ j < 8 ∧ P4 a ys j x c) ↔ s4 a Y x c) := by
  intro x c hx hc
  constructor
  · rintro ⟨j, _, h8, h1, h2, h3, h4, h5⟩
    obtain ⟨g1, κ, g2, g3, g4⟩ := hand_own hw h8 h1
    rw [← h2] at g1 g3 g4
    refine ⟨g1, κ, g2, by rw [← g4 c hc]; exact h3, ?_, by rw [← (m x hx).2 c hc]; exact h5⟩
    rw [g3]
    refine Nat.le_trans h4 (Nat.le_of_eq (fb_ct_cong fun c' hc' => ?_))
    rw [b_and, (m x hx).2 c' hc', g4 c' hc', Bool.and_comm]
  · rintro ⟨g1, κ, g2, g3, g4, g5⟩
    obtain ⟨j, h8, h1, h2, h3, h4⟩ := own_hand hw g1 g2
    refine ⟨j, Nat.zero_le _, h8, h1, h2.symm, by rw [h4 c hc]; exact g3, ?_, by rw [(m x hx).2 c hc]; exact g5⟩
    rw [← h3]
    refine Nat.le_trans g4 (Nat.le_of_eq (fb_ct_cong fun c' hc' => ?_))
    rw [b_and, (m x hx).2 c' hc', h4 c' hc', Bool.and_comm]
theorem c_P5 {a : Sh} (hw : WF a) {N : Mk} {ns : Nat → Int32} (m : MB N ns) : ∀ x c, x < 6 → c < 18 → ((∃ j, 0 ≤ j ∧ j < 8 ∧ P5 a ns j x c) ↔ s5 a N x c) := by
  intro x c hx hc
  constructor
  · rintro ⟨j, _, h8, h1, h2, h3, h4, h5⟩
    obtain ⟨g1, κ, g2, g3, g4⟩ := hand_own hw h8 h1
    rw [← h2] at g1 g3 g4
    refine ⟨g1, κ, g2, by rw [← g4 c hc]; exact h3, ?_, by rw [← (m x hx).2 c hc]; exact h5⟩
    rw [g3]
    refine Nat.le_trans (Nat.le_of_eq (fb_ct_cong fun c' hc' => ?_)) h4
    rw [b_and, b_not _ (by omega), (m x hx).2 c' hc', g4 c' hc']
  · rintro ⟨g1, κ, g2, g3, g4, g5⟩
    obtain ⟨j, h8, h1, h2, h3, h4⟩ := own_hand hw g1 g2
    refine ⟨j, Nat.zero_le _, h8, h1, h2.symm, by rw [h4 c hc]; exact g3, ?_, by rw [(m x hx).2 c hc]; exact g5⟩
    rw [← h3]
    refine Nat.le_trans (Nat.le_of_eq (fb_ct_cong fun c' hc' => ?_)) g4
    rw [b_and, b_not _ (by omega), (m x hx).2 c' hc', h4 c' hc']

