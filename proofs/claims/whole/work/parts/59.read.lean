/-! ===== the reference reads the text ===== -/
theorem in_dig : ∀ c, c < 127 → ∀ h, h < 10 → f_X6_in (nI c - 48) 0 (nI h) = some (if 48 ≤ c ∧ c ≤ 48 + h then 1 else 0) := by decide +kernel
theorem in_dig0 : ∀ h, h < 10 → f_X6_in ((-6 : Int32) - 48) 0 (nI h) = some 0 := by decide +kernel
theorem in_ac : ∀ c, c < 127 → f_X6_in (nI c - 97) 0 2 = some (if 97 ≤ c ∧ c ≤ 99 then 1 else 0) := by decide +kernel
theorem in_ac0 : f_X6_in ((-6 : Int32) - 97) 0 2 = some 0 := by decide +kernel
section
variable {t : Nat → Nat} {l : Nat} {pd : Nat → Int32}
theorem letter_ok (h : TX t l pd) {i : Nat} (hi : i < 1000) : f_X6_letter pd (nI l) (nI i) = some (if i < l then nI (t i) else -6) := by
  have h80 := h.1
  unfold f_X6_letter
  rcases Nat.lt_or_ge i l with u | u
  · rw [if_neg (nle (by omega) (by omega) u), gd_r (vp_in_nI (n := i) (by omega) (by decide)), i_cl (by omega), (h.2 i u).2.2, if_pos u]
  · rw [if_pos (nI_le u (by omega)), if_neg (by omega)]
theorem wants_b {i b : Nat} (hb : b < 1000) (v : Int32) : f_X6_wants (nI i) (nI b) v = some (nI i, nI b) := by
  unfold f_X6_wants
  rw [if_neg (ne6 (by omega))]
theorem wants_1 {i : Nat} : f_X6_wants (nI i) (-6) 1 = some (nI (i + 1), -6) := by
  unfold f_X6_wants
  rw [if_pos rfl, if_neg one_ne, lt_r, nI_1]
theorem wants_0 {i : Nat} : f_X6_wants (nI i) (-6) 0 = some (nI (i + 1), nI i) := by
  unfold f_X6_wants
  rw [if_pos rfl, if_pos rfl, lt_r, nI_1]
theorem dig_in (h : TX t l pd) {i hh : Nat} (hi : i < 1000) (h10 : hh < 10) : ∃ v, f_X6_letter pd (nI l) (nI i) = some v ∧ ((i < l ∧ 48 ≤ t i ∧ t i ≤ 48 + hh) → f_X6_in (v - 48) 0 (nI hh) = some 1 ∧ v - 48 = nI (t i - 48)) ∧ (¬ (i < l ∧ 48 ≤ t i ∧ t i ≤ 48 + hh) → f_X6_in (v - 48) 0 (nI hh) = some 0) := by
  refine ⟨_, letter_ok h hi, ?_, ?_⟩
  · rintro ⟨u, v, w⟩
    have hc := (h.2 i u).2.1
    rw [if_pos u, in_dig (t i) (by omega) hh h10, if_pos ⟨v, w⟩]
    exact ⟨rfl, pk_sub (b := 48) v⟩
  · intro q
    rcases Nat.lt_or_ge i l with u | u
    · have hc := (h.2 i u).2.1
      rw [if_pos u, in_dig (t i) (by omega) hh h10, if_neg (fun w => q ⟨u, w⟩)]
    · rw [if_neg (by omega)]
      exact in_dig0 hh h10
theorem digit_y (h : TX t l pd) {i hh : Nat} (hi : i < 1000) (h10 : hh < 10) (q : i < l ∧ 48 ≤ t i ∧ t i ≤ 48 + hh) : f_X6_digit pd (nI l) (nI i) (-6) (nI hh) = some (nI (t i - 48), nI (i + 1), -6) := by
  obtain ⟨v, e1, e2, _⟩ := dig_in h hi h10
  obtain ⟨e2, e3⟩ := e2 q
  unfold f_X6_digit
  rw [ob1_r e1, lt_r, ob1_r e2, ob2_r wants_1, e3]
theorem digit_n (h : TX t l pd) {i hh : Nat} (hi : i < 1000) (h10 : hh < 10) (q : ¬ (i < l ∧ 48 ≤ t i ∧ t i ≤ 48 + hh)) : ∃ v, f_X6_digit pd (nI l) (nI i) (-6) (nI hh) = some (v, nI (i + 1), nI i) := by
  obtain ⟨v, e1, _, e2⟩ := dig_in h hi h10
  unfold f_X6_digit
  rw [ob1_r e1, lt_r, ob1_r (e2 q), ob2_r wants_0]
  exact ⟨_, rfl⟩
theorem digit_b (h : TX t l pd) {i b hh : Nat} (hi : i < 1000) (hb : b < 1000) (h10 : hh < 10) : ∃ v, f_X6_digit pd (nI l) (nI i) (nI b) (nI hh) = some (v, nI i, nI b) := by
  obtain ⟨v, e1, e2, e3⟩ := dig_in h hi h10
  unfold f_X6_digit
  rw [ob1_r e1, lt_r]
  rcases Classical.em (i < l ∧ 48 ≤ t i ∧ t i ≤ 48 + hh) with q | q
  · rw [ob1_r (e2 q).1, ob2_r (wants_b hb _)]
    exact ⟨_, rfl⟩
  · rw [ob1_r (e3 q), ob2_r (wants_b hb _)]
    exact ⟨_, rfl⟩
theorem gd160 {n : Nat} (h : n < 160) {α : Type} {k : Option α} : gd (nI n) 160 k = k := gd_r (vp_in_nI (n := n) h (by decide))
theorem rt_b (h : TX t l pd) {T : Nat} (hT : T + 5 ≤ 160) {i b : Nat} (hi : i < 1000) (hb : b < 1000) : ∀ (d k fuel : Nat), k + d = 5 → d < fuel → ∀ ords : Nat → Int32, ∃ ords', lo4 (f_X6_readThree_L2 pd (nI l) (nI T)) fuel (nI k) ords (nI i) (nI b) = some (ords', nI i, nI b) ∧ ∀ q, q < T + k → ords' q = ords q
  | 0, k, fuel, h1, h2, ords => by
    obtain ⟨f, rfl⟩ : ∃ f, fuel = f + 1 := ⟨fuel - 1, by omega⟩
    have : k = 5 := by omega
    subst this
    refine ⟨ords, ?_, fun _ _ => rfl⟩
    show f_X6_readThree_L2 pd (nI l) (nI T) (lo4 _ f) (nI 5) ords (nI i) (nI b) = _
    rw [f_X6_readThree_L2, if_pos (show (4 : Int32) < nI 5 from by decide)]
  | d + 1, k, fuel, h1, h2, ords => by
    obtain ⟨f, rfl⟩ : ∃ f, fuel = f + 1 := ⟨fuel - 1, by omega⟩
    obtain ⟨v, e⟩ := digit_b (hh := 5) h hi hb (by decide)
    obtain ⟨ords', g1, g2⟩ := rt_b h hT hi hb d (k + 1) f (by omega) (by omega) (upd ords (T + k) v)
    refine ⟨ords', ?_, fun q hq => ?_⟩
    · show f_X6_readThree_L2 pd (nI l) (nI T) (lo4 _ f) (nI k) ords (nI i) (nI b) = _
      rw [f_X6_readThree_L2, if_neg (show ¬ (4 : Int32) < nI k from nI_nlt (a := 4) (by omega) (by decide)), ob3_r (show f_X6_digit pd (nI l) (nI i) (nI b) 5 = _ from e), nI_add, gd160 (by omega), lt_r, i_cl (by omega), nI_1]
      exact g1
    · rw [g2 q (by omega), pk_un (by omega)]
theorem rt_g (h : TX t l pd) {T : Nat} (hT : T + 5 ≤ 160) : ∀ (d k fuel i : Nat), k + d = 5 → d < fuel → i + d < 1000 → ∀ ords : Nat → Int32, ∃ ords' spot' bad', lo4 (f_X6_readThree_L2 pd (nI l) (nI T)) fuel (nI k) ords (nI i) (-6) = some (ords', spot', bad') ∧ (∀ q, q < T + k → ords' q = ords q) ∧ ((seqE t l (List.replicate d d5) i).2 = true → (seqE t l (List.replicate d d5) i).1 = i + d ∧ spot' = nI (i + d) ∧ bad' = -6 ∧ ∀ m, m < d → ords' (T + k + m) = nI (t (i + m) - 48)) ∧ ((seqE t l (List.replicate d d5) i).2 = false → bad' = nI (seqE t l (List.replicate d d5) i).1 ∧ (seqE t l (List.replicate d d5) i).1 < 1000 ∧ ∃ j, j < 1000 ∧ spot' = nI j)
  | 0, k, fuel, i, h1, h2, h3, ords => by
    obtain ⟨f, rfl⟩ : ∃ f, fuel = f + 1 := ⟨fuel - 1, by omega⟩
    have : k = 5 := by omega
    subst this
    refine ⟨ords, nI i, -6, ?_, fun _ _ => rfl, fun _ => ⟨rfl, rfl, rfl, fun m hm => absurd hm (Nat.not_lt_zero m)⟩, fun q => Bool.noConfusion (show true = false from q)⟩
    show f_X6_readThree_L2 pd (nI l) (nI T) (lo4 _ f) (nI 5) ords (nI i) (-6) = _
    rw [f_X6_readThree_L2, if_pos (show (4 : Int32) < nI 5 from by decide)]
  | d + 1, k, fuel, i, h1, h2, h3, ords => by
    obtain ⟨f, rfl⟩ : ∃ f, fuel = f + 1 := ⟨fuel - 1, by omega⟩
    have hhead : lo4 (f_X6_readThree_L2 pd (nI l) (nI T)) (f + 1) (nI k) ords (nI i) (-6) = f_X6_readThree_L2 pd (nI l) (nI T) (lo4 (f_X6_readThree_L2 pd (nI l) (nI T)) f) (nI k) ords (nI i) (-6) := rfl
    rw [hhead, f_X6_readThree_L2, if_neg (show ¬ (4 : Int32) < nI k from nI_nlt (a := 4) (by omega) (by decide))]
    rcases Classical.em (i < l ∧ d5 (t i)) with q | q
    · rw [show seqE t l (List.replicate (d + 1) d5) i = seqE t l (List.replicate d d5) (i + 1) from ifp_t q, ob3_r (show f_X6_digit pd (nI l) (nI i) (-6) 5 = _ from digit_y (hh := 5) h (by omega) (by decide) ⟨q.1, q.2.1, q.2.2⟩), nI_add, gd160 (by omega), lt_r, i_cl (by omega), nI_1]
      obtain ⟨ords', spot', bad', g1, g2, g3, g4⟩ := rt_g h hT d (k + 1) f (i + 1) (by omega) (by omega) (by omega) (upd ords (T + k) (nI (t i - 48)))
      refine ⟨ords', spot', bad', g1, fun q hq => by rw [g2 q (by omega), pk_un (by omega)], fun e => ?_, g4⟩
      obtain ⟨c1, c2, c3, c4⟩ := g3 e
      refine ⟨by omega, by rw [c2]; congr 1; omega, c3, fun m hm => ?_⟩
      rcases Nat.eq_zero_or_pos m with u | u
      · subst u
        rw [Nat.add_zero, Nat.add_zero, g2 (T + k) (by omega), pk_us]
      · obtain ⟨m', rfl⟩ : ∃ m', m = m' + 1 := ⟨m - 1, by omega⟩
        have := c4 m' (by omega)
        rw [show T + (k + 1) + m' = T + k + (m' + 1) by omega, show i + 1 + m' = i + (m' + 1) by omega] at this
        exact this
    · obtain ⟨v, e⟩ := digit_n (hh := 5) h (i := i) (by omega) (by decide) (fun w => q ⟨w.1, w.2.1, w.2.2⟩)
      rw [show seqE t l (List.replicate (d + 1) d5) i = (i, false) from ifp_f q, ob3_r (show f_X6_digit pd (nI l) (nI i) (-6) 5 = _ from e), nI_add, gd160 (by omega), lt_r, i_cl (by omega), nI_1]
      obtain ⟨ords', g1, g2⟩ := rt_b h hT (i := i + 1) (b := i) (by omega) (by omega) d (k + 1) f (by omega) (by omega) (upd ords (T + k) v)
      exact ⟨ords', _, _, g1, fun q hq => by rw [g2 q (by omega), pk_un (by omega)], fun e => Bool.noConfusion (show false = true from e), fun _ => ⟨rfl, by show i < 1000; omega, i + 1, by omega, rfl⟩⟩
/-- how a part of an order is read: E where it ends, C what it leaves -/
def RO (E : Nat × Bool) (T : Nat) (ords : Nat → Int32) (C : (Nat → Int32) → Prop) (r : Option ((Nat → Int32) × Int32 × Int32)) : Prop := ∃ ords' spot' bad', r = some (ords', spot', bad') ∧ (∀ q, q < T → ords' q = ords q) ∧ (E.2 = true → spot' = nI E.1 ∧ bad' = -6 ∧ C ords') ∧ (E.2 = false → bad' = nI E.1 ∧ E.1 < 1000 ∧ ∃ j, j < 1000 ∧ spot' = nI j)
theorem three_g (h : TX t l pd) {T : Nat} (hT : T + 5 ≤ 160) {i : Nat} (hi : i < 900) (ords : Nat → Int32) : RO (seqE t l [d5, d5, d5] i) (T + 2) ords (fun o => ∀ m, m < 3 → o (T + 2 + m) = nI (t (i + m) - 48)) (f_X6_readThree pd (nI l) ords (nI i) (-6) (nI T)) := by
  obtain ⟨ords', spot', bad', g1, g2, g3, g4⟩ := rt_g h hT 3 2 FU i rfl (by decide) (by omega) ords
  exact ⟨ords', spot', bad', g1, g2, fun e => by
    obtain ⟨c1, c2, c3, c4⟩ := g3 e
    exact ⟨by rw [c2]; exact congrArg nI c1.symm, c3, c4⟩, g4⟩
theorem three_b (h : TX t l pd) {T : Nat} (hT : T + 5 ≤ 160) {i b : Nat} (hi : i < 1000) (hb : b < 1000) (C : (Nat → Int32) → Prop) (ords : Nat → Int32) : RO (b, false) (T + 2) ords C (f_X6_readThree pd (nI l) ords (nI i) (nI b) (nI T)) := by
  obtain ⟨ords', g1, g2⟩ := rt_b h hT hi hb 3 2 FU rfl (by decide) ords
  exact ⟨ords', _, _, g1, g2, fun e => Bool.noConfusion (show false = true from e), fun _ => ⟨rfl, hb, i, hi, rfl⟩⟩
theorem ac_in (h : TX t l pd) {i : Nat} (hi : i < 1000) : ∃ v, f_X6_letter pd (nI l) (nI i) = some v ∧ ((i < l ∧ ac (t i)) → f_X6_in (v - 97) 0 2 = some 1 ∧ v - 97 = nI (t i - 97)) ∧ (¬ (i < l ∧ ac (t i)) → f_X6_in (v - 97) 0 2 = some 0) := by
  refine ⟨_, letter_ok h hi, ?_, ?_⟩
  · rintro ⟨u, v, w⟩
    have hc := (h.2 i u).2.1
    rw [if_pos u, in_ac (t i) (by omega), if_pos ⟨v, w⟩]
    exact ⟨rfl, pk_sub (b := 97) v⟩
  · intro q
    rcases Nat.lt_or_ge i l with u | u
    · have hc := (h.2 i u).2.1
      rw [if_pos u, in_ac (t i) (by omega), if_neg (show ¬ (97 ≤ t i ∧ t i ≤ 99) from fun w => q ⟨u, w⟩)]
    · rw [if_neg (by omega)]
      exact in_ac0
theorem card_g (h : TX t l pd) {T : Nat} (hT : T + 5 ≤ 160) {i : Nat} (hi : i < 900) (ords : Nat → Int32) : RO (seqE t l [ac, d5] i) (T + 2) ords (fun o => o (T + 2) = nI (6 * (t i - 97) + (t (i + 1) - 48))) (f_X6_readCard pd (nI l) ords (nI i) (-6) (nI T)) := by
  obtain ⟨v, e1, e2, e3⟩ := ac_in h (i := i) (by omega)
  unfold f_X6_readCard
  rw [ob1_r e1, lt_r]
  have eT : nI T + (2 : Int32) = nI (T + 2) := nI_add T 2
  rcases Classical.em (i < l ∧ ac (t i)) with q | q
  · obtain ⟨e2, e4⟩ := e2 q
    rw [ob1_r e2, ob2_r wants_1, show seqE t l [ac, d5] i = seqE t l [d5] (i + 1) from ifp_t q]
    rcases Classical.em (i + 1 < l ∧ d5 (t (i + 1))) with q2 | q2
    · rw [ob3_r (show f_X6_digit pd (nI l) (nI (i + 1)) (-6) 5 = _ from digit_y (hh := 5) h (by omega) (by decide) ⟨q2.1, q2.2.1, q2.2.2⟩), show seqE t l [d5] (i + 1) = (i + 2, true) from ifp_t q2, eT, gd160 (by omega), lt_r, i_cl (by omega), e4, show (6 : Int32) * nI (t i - 97) = nI (6 * (t i - 97)) from pk_mul 6 _, nI_add]
      exact ⟨_, _, _, rfl, fun q hq => by rw [pk_un (by omega)], fun _ => ⟨rfl, rfl, pk_us⟩, fun e => Bool.noConfusion (show true = false from e)⟩
    · obtain ⟨w, e5⟩ := digit_n (hh := 5) h (i := i + 1) (by omega) (by decide) (fun w => q2 ⟨w.1, w.2.1, w.2.2⟩)
      rw [ob3_r (show f_X6_digit pd (nI l) (nI (i + 1)) (-6) 5 = _ from e5), show seqE t l [d5] (i + 1) = (i + 1, false) from ifp_f q2, eT, gd160 (by omega), lt_r, i_cl (by omega)]
      exact ⟨_, _, _, rfl, fun q hq => by rw [pk_un (by omega)], fun e => Bool.noConfusion (show false = true from e), fun _ => ⟨rfl, by show i + 1 < 1000; omega, _, by omega, rfl⟩⟩
  · obtain ⟨w, e5⟩ := digit_b (hh := 5) h (i := i + 1) (b := i) (by omega) (by omega) (by decide)
    rw [ob1_r (e3 q), ob2_r wants_0, ob3_r (show f_X6_digit pd (nI l) (nI (i + 1)) (nI i) 5 = _ from e5), show seqE t l [ac, d5] i = (i, false) from ifp_f q, eT, gd160 (by omega), lt_r, i_cl (by omega)]
    exact ⟨_, _, _, rfl, fun q hq => by rw [pk_un (by omega)], fun e => Bool.noConfusion (show false = true from e), fun _ => ⟨rfl, by show i < 1000; omega, _, by omega, rfl⟩⟩
theorem card_b (h : TX t l pd) {T : Nat} (hT : T + 5 ≤ 160) {i b : Nat} (hi : i < 1000) (hb : b < 1000) (C : (Nat → Int32) → Prop) (ords : Nat → Int32) : RO (b, false) (T + 2) ords C (f_X6_readCard pd (nI l) ords (nI i) (nI b) (nI T)) := by
  obtain ⟨v, e1, e2, e3⟩ := ac_in h hi
  unfold f_X6_readCard
  obtain ⟨w, e5⟩ := digit_b (hh := 5) h hi hb (by decide)
  have eT : nI T + (2 : Int32) = nI (T + 2) := nI_add T 2
  rw [ob1_r e1, lt_r]
  have fin : ∀ r, RO (b, false) (T + 2) ords C (ob2 (f_X6_wants (nI i) (nI b) r) (fun c_spot_15 c_bad_15 => ob3 (f_X6_digit pd (nI l) c_spot_15 c_bad_15 5) (fun r_31 c_spot_31 c_bad_31 => gd (nI T + 2) 160 (lt' (upd ords (nI T + 2).toNatClampNeg ((6 * (v - 97)) + r_31)) (fun c_orders_35 => some (c_orders_35, c_spot_31, c_bad_31)))))) := by
    intro r
    rw [ob2_r (wants_b hb r), ob3_r (show f_X6_digit pd (nI l) (nI i) (nI b) 5 = _ from e5), eT, gd160 (by omega), lt_r, i_cl (by omega)]
    exact ⟨_, _, _, rfl, fun q hq => by rw [pk_un (by omega)], fun e => Bool.noConfusion (show false = true from e), fun _ => ⟨rfl, hb, i, hi, rfl⟩⟩
  rcases Classical.em (i < l ∧ ac (t i)) with q | q
  · rw [ob1_r (e2 q).1]; exact fin 1
  · rw [ob1_r (e3 q)]; exact fin 0
noncomputable def numV (t : Nat → Nat) (l i : Nat) : Nat := ifp (t i ≠ 48 ∧ i + 1 < l ∧ d9 (t (i + 1))) (10 * (t i - 48) + (t (i + 1) - 48)) (t i - 48)
theorem num_g (h : TX t l pd) {T : Nat} (hT : T + 5 ≤ 160) {i : Nat} (hi : i < 900) (ords : Nat → Int32) : RO (numE t l i) (T + 1) ords (fun o => o (T + 1) = nI (numV t l i)) (f_X6_readNumber pd (nI l) ords (nI i) (-6) (nI T)) := by
  unfold f_X6_readNumber
  have eT : nI T + (1 : Int32) = nI (T + 1) := nI_add T 1
  rcases Classical.em (i < l ∧ d9 (t i)) with q | q
  · obtain ⟨v, e1, e2, e3⟩ := dig_in (hh := 9) h (i := i + 1) (by omega) (by decide)
    have hc := (h.2 i q.1).2.1
    have hq := q.2
    unfold d9 at hq
    rw [ob3_r (show f_X6_digit pd (nI l) (nI i) (-6) 9 = _ from digit_y (hh := 9) h (by omega) (by decide) ⟨q.1, q.2.1, q.2.2⟩), ob1_r e1, lt_r, if_pos rfl, show numE t l i = _ from ifp_t q, eT, gd160 (by omega)]
    rcases Nat.decEq (t i) 48 with w | w
    · rw [if_neg (show ¬ nI (t i - 48) ≤ (0 : Int32) from nle (c := 0) (by omega) (by decide) (by omega))]
      rcases Classical.em (i + 1 < l ∧ d9 (t (i + 1))) with x | x
      · have x9 : i + 1 < l ∧ 48 ≤ t (i + 1) ∧ t (i + 1) ≤ 48 + 9 := ⟨x.1, x.2.1, x.2.2⟩
        obtain ⟨g1, g2⟩ := e2 x9
        rw [ob1_r (show f_X6_in (v - 48) 0 9 = some 1 from g1), if_neg one_ne, lt_r, lt_r, gd160 (by omega), lt_r, ifp_t ⟨w, x.1, x.2⟩, nI_1, i_cl (by omega), g2, show (10 : Int32) * nI (t i - 48) = nI (10 * (t i - 48)) from pk_mul 10 _, nI_add]
        refine ⟨_, _, _, rfl, fun q hq => by rw [pk_un (by omega)], fun _ => ⟨rfl, rfl, ?_⟩, fun e => Bool.noConfusion (show true = false from e)⟩
        dsimp only
        rw [pk_us, show numV t l i = _ from ifp_t ⟨w, x.1, x.2⟩]
      · rw [ob1_r (show f_X6_in (v - 48) 0 9 = some 0 from e3 (fun y => x ⟨y.1, y.2.1, y.2.2⟩)), if_pos rfl, lt_r, ifp_f (fun y => x y.2), i_cl (by omega)]
        refine ⟨_, _, _, rfl, fun q hq => by rw [pk_un (by omega)], fun _ => ⟨rfl, rfl, ?_⟩, fun e => Bool.noConfusion (show true = false from e)⟩
        dsimp only
        rw [pk_us, show numV t l i = _ from ifp_f (fun y => x y.2)]
    · rw [if_pos (show nI (t i - 48) ≤ (0 : Int32) from by rw [w]; decide), lt_r, ifp_f (fun y => y.1 w), i_cl (by omega)]
      refine ⟨_, _, _, rfl, fun q hq => by rw [pk_un (by omega)], fun _ => ⟨rfl, rfl, ?_⟩, fun e => Bool.noConfusion (show true = false from e)⟩
      dsimp only
      rw [pk_us, show numV t l i = _ from ifp_f (fun y => y.1 w)]
  · obtain ⟨v, e⟩ := digit_n (hh := 9) h (i := i) (by omega) (by decide) (fun w => q ⟨w.1, w.2.1, w.2.2⟩)
    rw [ob3_r (show f_X6_digit pd (nI l) (nI i) (-6) 9 = _ from e), ob1_r (letter_ok h (by omega)), lt_r, if_neg (ne6 (by omega)), show numE t l i = (i, false) from ifp_f q, eT, gd160 (by omega), lt_r, i_cl (by omega)]
    exact ⟨_, _, _, rfl, fun q hq => by rw [pk_un (by omega)], fun e => Bool.noConfusion (show false = true from e), fun _ => ⟨rfl, by show i < 1000; omega, _, by omega, rfl⟩⟩
/-- what an order that begins at s leaves -/
def OC (t : Nat → Nat) (l : Nat) (o : Nat → Int32) (T s : Nat) : Prop := o T = nI (t s) ∧ (t s = 45 → o (T + 1) = nI (numV t l (s + 1))) ∧ (t s = 104 → o (T + 1) = nI (t (s + 1) - 48) ∧ o (T + 2) = nI (6 * (t (s + 2) - 97) + (t (s + 3) - 48))) ∧ ((t s = 114 ∨ t s = 115) → o (T + 1) = nI (t (s + 1) - 48) ∧ ∀ m, m < 3 → o (T + 2 + m) = nI (t (s + 2 + m) - 48)) ∧ (t s = 119 → o (T + 1) = -6 ∧ ∀ m, m < 3 → o (T + 2 + m) = nI (t (s + 1 + m) - 48))
/-- an order is read -/
def OR (E : Nat × Bool) (T : Nat) (ords : Nat → Int32) (C : (Nat → Int32) → Prop) (k : Nat) (r : Option ((Nat → Int32) × Int32 × Int32 × Int32)) : Prop := ∃ ords' spot' bad', r = some (ords', nI (k + 1), spot', bad') ∧ (∀ q, q < T → ords' q = ords q) ∧ (E.2 = true → spot' = nI E.1 ∧ bad' = -6 ∧ C ords') ∧ (E.2 = false → bad' = nI E.1 ∧ E.1 < 1000 ∧ ∃ j, j < 1000 ∧ spot' = nI j)
theorem RO.or {E : Nat × Bool} {T T' k : Nat} {ords o1 : Nat → Int32} {C C' : (Nat → Int32) → Prop} {r : Option ((Nat → Int32) × Int32 × Int32)} (h : RO E T' o1 C' r) (hT : T ≤ T') (he : ∀ q, q < T → o1 q = ords q) (hC : ∀ o, (∀ q, q < T' → o q = o1 q) → E.2 = true → C' o → C o) : OR E T ords C k (ob3 r (fun a b c => lt' (nI k + 1) (fun n => some (a, n, b, c)))) := by
  obtain ⟨ords', spot', bad', g1, g2, g3, g4⟩ := h
  rw [ob3_r g1, lt_r, nI_1]
  refine ⟨ords', spot', bad', rfl, fun q hq => by rw [g2 q (by omega), he q hq], fun e => ?_, g4⟩
  obtain ⟨c1, c2, c3⟩ := g3 e
  exact ⟨c1, c2, hC ords' g2 e c3⟩
theorem order_ok (h : TX t l pd) {k : Nat} (hk : k ≤ 30) {s : Nat} (hs : s < 800) (ords : Nat → Int32) : OR (oE t l s) (5 * k) ords (fun o => OC t l o (5 * k) s) k (f_X6_readOrder pd (nI l) ords (nI k) (nI s) (-6)) := by
  have e5 : (5 : Int32) * nI k = nI (5 * k) := pk_mul 5 k
  have e1 : nI (5 * k) + (1 : Int32) = nI (5 * k + 1) := nI_add _ 1
  unfold f_X6_readOrder
  rw [e5, lt_r, ob1_r (letter_ok h (by omega)), gd160 (by omega), lt_r, i_cl (by omega)]
  have no : ∀ c : Int32, ¬ c = 104 → ¬ c = 119 → ¬ c = 45 → OR (s, false) (5 * k) ords (fun o => OC t l o (5 * k) s) k (f_X6_readOrder_J55 pd (nI l) (nI k) (nI s) (-6) (nI (5 * k)) c (upd ords (5 * k) c) 0) := by
    intro c h1 h2 h3
    obtain ⟨v, e⟩ := digit_b (hh := 4) h (i := s + 1) (b := s) (by omega) (by omega) (by decide)
    rw [f_X6_readOrder_J55, ob2_r wants_0, if_neg h3, if_neg h2, ob3_r (show f_X6_digit pd (nI l) (nI (s + 1)) (nI s) 4 = _ from e), f_X6_readOrder_J95, e1, gd160 (by omega), lt_r, i_cl (by omega), if_neg h1]
    refine (three_b h (T := 5 * k) (by omega) (i := s + 1) (b := s) (by omega) (by omega) (fun _ => True) _).or (by omega) (fun q hq => ?_) (fun o _ e => Bool.noConfusion (show false = true from e))
    rw [pk_un (by omega), pk_un (by omega)]
  rcases Nat.lt_or_ge s l with u | u
  rotate_left
  · rw [show oE t l s = (s, false) from ifp_f (by omega), if_neg (show ¬ s < l by omega), if_neg (by decide), if_neg (by decide), if_neg (by decide), if_neg (by decide), if_neg (by decide)]
    exact no (-6) (by decide) (by decide) (by decide)
  have hc := (h.2 s u).2.1
  have ne : ∀ m, m < 127 → t s ≠ m → ¬ nI (t s) = nI m := fun m hm q w => q ((i_eq (by omega) (by omega)).mp w)
  rw [show oE t l s = _ from ifp_t u, if_pos u]
  have rr : ∀ (c : Nat), c = t s → (c = 114 ∨ c = 115) → OR (seqE t l [d4, d5, d5, d5] (s + 1)) (5 * k) ords (fun o => OC t l o (5 * k) s) k (f_X6_readOrder_J50 pd (nI l) (nI k) (nI s) (-6) (nI (5 * k)) (nI c) (upd ords (5 * k) (nI c))) := by
    intro c hcs hc2
    have n1 : ¬ nI c = (45 : Int32) := fun q => by have := (i_eq (a := c) (b := 45) (by omega) (by decide)).mp q; omega
    have n2 : ¬ nI c = (119 : Int32) := fun q => by have := (i_eq (a := c) (b := 119) (by omega) (by decide)).mp q; omega
    have n3 : ¬ nI c = (104 : Int32) := fun q => by have := (i_eq (a := c) (b := 104) (by omega) (by decide)).mp q; omega
    rw [f_X6_readOrder_J50, f_X6_readOrder_J55, ob2_r wants_1, if_neg n1, if_neg n2]
    rcases Classical.em (s + 1 < l ∧ d4 (t (s + 1))) with q | q
    · rw [ob3_r (show f_X6_digit pd (nI l) (nI (s + 1)) (-6) 4 = _ from digit_y (hh := 4) h (by omega) (by decide) ⟨q.1, q.2.1, q.2.2⟩), show seqE t l [d4, d5, d5, d5] (s + 1) = seqE t l [d5, d5, d5] (s + 1 + 1) from ifp_t q, f_X6_readOrder_J95, e1, gd160 (by omega), lt_r, i_cl (by omega), if_neg n3]
      refine (three_g h (T := 5 * k) (by omega) (i := s + 1 + 1) (by omega) _).or (by omega) (fun q hq => ?_) (fun o ho e C => ?_)
      · rw [pk_un (by omega), pk_un (by omega)]
      · have w0 := ho (5 * k) (by omega)
        have w1 := ho (5 * k + 1) (by omega)
        rw [pk_un (by omega), pk_us] at w0
        rw [pk_us] at w1
        refine ⟨by rw [w0, hcs], fun z => by omega, fun z => by omega, fun _ => ⟨w1, fun m hm => ?_⟩, fun z => by omega⟩
        have := C m hm
        rw [this, show s + 1 + 1 + m = s + 2 + m by omega]
    · obtain ⟨v, e⟩ := digit_n (hh := 4) h (i := s + 1) (by omega) (by decide) (fun w => q ⟨w.1, w.2.1, w.2.2⟩)
      rw [ob3_r (show f_X6_digit pd (nI l) (nI (s + 1)) (-6) 4 = _ from e), show seqE t l [d4, d5, d5, d5] (s + 1) = (s + 1, false) from ifp_f q, f_X6_readOrder_J95, e1, gd160 (by omega), lt_r, i_cl (by omega), if_neg n3]
      refine (three_b h (T := 5 * k) (by omega) (i := s + 1 + 1) (b := s + 1) (by omega) (by omega) (fun _ => True) _).or (by omega) (fun q hq => ?_) (fun o _ e => Bool.noConfusion (show false = true from e))
      rw [pk_un (by omega), pk_un (by omega)]
  rcases Nat.decEq (t s) 45 with v | v
  rotate_left
  · rw [if_pos v, if_neg (show ¬ nI (t s) = (104 : Int32) from ne 104 (by decide) (by omega)), if_neg (show ¬ nI (t s) = (114 : Int32) from ne 114 (by decide) (by omega)), if_neg (show ¬ nI (t s) = (115 : Int32) from ne 115 (by decide) (by omega)), if_neg (show ¬ nI (t s) = (119 : Int32) from ne 119 (by decide) (by omega)), if_pos (show nI (t s) = (45 : Int32) from by rw [v]; rfl), f_X6_readOrder_J50, f_X6_readOrder_J55, ob2_r wants_1, if_pos (show nI (t s) = (45 : Int32) from by rw [v]; rfl)]
    refine (num_g h (T := 5 * k) (by omega) (i := s + 1) (by omega) _).or (by omega) (fun q hq => ?_) (fun o ho e C => ?_)
    · rw [pk_un (by omega)]
    · have w0 := ho (5 * k) (by omega)
      rw [pk_us] at w0
      exact ⟨w0, fun _ => C, fun z => by omega, fun z => by omega, fun z => by omega⟩
  rcases Nat.decEq (t s) 104 with w | w
  rotate_left
  · rw [if_neg v, if_pos w, if_pos (show nI (t s) = (104 : Int32) from by rw [w]; rfl), f_X6_readOrder_J50, f_X6_readOrder_J55, ob2_r wants_1, if_neg (show ¬ nI (t s) = (45 : Int32) from ne 45 (by decide) v), if_neg (show ¬ nI (t s) = (119 : Int32) from ne 119 (by decide) (by omega))]
    rcases Classical.em (s + 1 < l ∧ d4 (t (s + 1))) with q | q
    · rw [ob3_r (show f_X6_digit pd (nI l) (nI (s + 1)) (-6) 4 = _ from digit_y (hh := 4) h (by omega) (by decide) ⟨q.1, q.2.1, q.2.2⟩), show seqE t l [d4, ac, d5] (s + 1) = seqE t l [ac, d5] (s + 1 + 1) from ifp_t q, f_X6_readOrder_J95, e1, gd160 (by omega), lt_r, i_cl (by omega), if_pos (show nI (t s) = (104 : Int32) from by rw [w]; rfl)]
      refine (card_g h (T := 5 * k) (by omega) (i := s + 1 + 1) (by omega) _).or (by omega) (fun q hq => ?_) (fun o ho e C => ?_)
      · rw [pk_un (by omega), pk_un (by omega)]
      · have w0 := ho (5 * k) (by omega)
        have w1 := ho (5 * k + 1) (by omega)
        rw [pk_un (by omega), pk_us] at w0
        rw [pk_us] at w1
        exact ⟨w0, fun z => by omega, fun _ => ⟨w1, C⟩, fun z => by omega, fun z => by omega⟩
    · obtain ⟨x, e⟩ := digit_n (hh := 4) h (i := s + 1) (by omega) (by decide) (fun w => q ⟨w.1, w.2.1, w.2.2⟩)
      rw [ob3_r (show f_X6_digit pd (nI l) (nI (s + 1)) (-6) 4 = _ from e), show seqE t l [d4, ac, d5] (s + 1) = (s + 1, false) from ifp_f q, f_X6_readOrder_J95, e1, gd160 (by omega), lt_r, i_cl (by omega), if_pos (show nI (t s) = (104 : Int32) from by rw [w]; rfl)]
      refine (card_b h (T := 5 * k) (by omega) (i := s + 1 + 1) (b := s + 1) (by omega) (by omega) (fun _ => True) _).or (by omega) (fun q hq => ?_) (fun o _ e => Bool.noConfusion (show false = true from e))
      rw [pk_un (by omega), pk_un (by omega)]
  rcases Nat.decEq (t s) 114 with x | x
  rotate_left
  · rw [if_neg v, if_neg w, if_pos x, if_neg (show ¬ nI (t s) = (104 : Int32) from ne 104 (by decide) w), if_pos (show nI (t s) = (114 : Int32) from by rw [x]; rfl)]
    exact rr (t s) rfl (Or.inl x)
  rcases Nat.decEq (t s) 115 with y | y
  rotate_left
  · rw [if_neg v, if_neg w, if_neg x, if_pos y, if_neg (show ¬ nI (t s) = (104 : Int32) from ne 104 (by decide) w), if_neg (show ¬ nI (t s) = (114 : Int32) from ne 114 (by decide) x), if_pos (show nI (t s) = (115 : Int32) from by rw [y]; rfl)]
    exact rr (t s) rfl (Or.inr y)
  rcases Nat.decEq (t s) 119 with z | z
  rotate_left
  · rw [if_neg v, if_neg w, if_neg x, if_neg y, if_pos z, if_neg (show ¬ nI (t s) = (104 : Int32) from ne 104 (by decide) w), if_neg (show ¬ nI (t s) = (114 : Int32) from ne 114 (by decide) x), if_neg (show ¬ nI (t s) = (115 : Int32) from ne 115 (by decide) y), if_pos (show nI (t s) = (119 : Int32) from by rw [z]; rfl), f_X6_readOrder_J50, f_X6_readOrder_J55, ob2_r wants_1, if_neg (show ¬ nI (t s) = (45 : Int32) from ne 45 (by decide) v), if_pos (show nI (t s) = (119 : Int32) from by rw [z]; rfl), f_X6_readOrder_J95, e1, gd160 (by omega), lt_r, i_cl (by omega), if_neg (show ¬ nI (t s) = (104 : Int32) from ne 104 (by decide) w)]
    refine (three_g h (T := 5 * k) (by omega) (i := s + 1) (by omega) _).or (by omega) (fun q hq => ?_) (fun o ho e C => ?_)
    · rw [pk_un (by omega), pk_un (by omega)]
    · have w0 := ho (5 * k) (by omega)
      have w1 := ho (5 * k + 1) (by omega)
      rw [pk_un (by omega), pk_us] at w0
      rw [pk_us] at w1
      exact ⟨w0, fun q => by omega, fun q => by omega, fun q => by omega, fun _ => ⟨w1, C⟩⟩
  rw [if_neg v, if_neg w, if_neg x, if_neg y, if_neg z, if_neg (show ¬ nI (t s) = (104 : Int32) from ne 104 (by decide) w), if_neg (show ¬ nI (t s) = (114 : Int32) from ne 114 (by decide) x), if_neg (show ¬ nI (t s) = (115 : Int32) from ne 115 (by decide) y), if_neg (show ¬ nI (t s) = (119 : Int32) from ne 119 (by decide) z), if_neg (show ¬ nI (t s) = (45 : Int32) from ne 45 (by decide) v)]
  exact no (nI (t s)) (ne 104 (by decide) w) (ne 119 (by decide) z) (ne 45 (by decide) v)
end
