/-! ===== the faults of a text ===== -/
def aft (st c : Nat) : Nat :=
  if st = 0 then (if c = 45 then 7 else if c = 104 then 1 else if c = 114 then 2 else if c = 115 then 2 else if c = 119 then 4 else 10)
  else if st = 1 then (if 48 ≤ c ∧ c ≤ 52 then 3 else 10)
  else if st = 2 then (if 48 ≤ c ∧ c ≤ 52 then 4 else 10)
  else if st = 3 then (if 97 ≤ c ∧ c ≤ 99 then 6 else 10)
  else if st = 4 then (if 48 ≤ c ∧ c ≤ 53 then 5 else 10)
  else if st = 5 then (if 48 ≤ c ∧ c ≤ 53 then 6 else 10)
  else if st = 6 then (if 48 ≤ c ∧ c ≤ 53 then 9 else 10)
  else if st = 7 then (if c = 48 then 9 else if 49 ≤ c ∧ c ≤ 57 then 8 else 10)
  else if st = 8 then (if 48 ≤ c ∧ c ≤ 57 then 9 else if c = 59 then 0 else 10)
  else if st = 9 then (if c = 59 then 0 else 10)
  else 10
theorem after_ok : ∀ st, st < 11 → ∀ c, c < 127 → f_X3_after (nI st) (nI c) = some (nI (aft st c)) := by decide +kernel
theorem aft_lt : ∀ st, st < 11 → ∀ c, c < 127 → aft st c < 11 := by decide +kernel
/-- a text, as numbers -/
def TX (t : Nat → Nat) (l : Nat) (tx : Nat → Int32) : Prop := l ≤ 80 ∧ ∀ i, i < l → 33 ≤ t i ∧ t i ≤ 126 ∧ tx i = nI (t i)
theorem PR.tx {tx pd : Nat → Int32} {tl ty : Int32} {l : Nat} (h : PR tx pd tl ty l) : ∃ t, TX t l tx ∧ TX t l pd ∧ tl = nI l ∧ ty = nI l := by
  obtain ⟨h1, h2, h3, h4⟩ := h
  have key : ∀ i, i < l → 33 ≤ (tx i).toNatClampNeg ∧ (tx i).toNatClampNeg ≤ 126 ∧ tx i = nI (tx i).toNatClampNeg ∧ pd i = nI (tx i).toNatClampNeg := fun i hi => by
    obtain ⟨c, c1, c2, c3, c4⟩ := h4 i hi
    rw [c3, i_cl (by omega)]
    exact ⟨c1, c2, rfl, c4⟩
  exact ⟨fun i => (tx i).toNatClampNeg, ⟨h1, fun i hi => ⟨(key i hi).1, (key i hi).2.1, (key i hi).2.2.1⟩⟩, ⟨h1, fun i hi => ⟨(key i hi).1, (key i hi).2.1, (key i hi).2.2.2⟩⟩, h2, h3⟩
def tt (t : Nat → Nat) (l i : Nat) : Nat := if i < l then t i else 59
theorem at_ok {t : Nat → Nat} {l : Nat} {tx : Nat → Int32} (h : TX t l tx) {i : Nat} (hi : i < 1000) : f_X3_at tx (nI l) (nI i) = some (nI (tt t l i)) := by
  have h80 := h.1
  unfold f_X3_at tt
  rw [if_neg (nI_pos (by omega))]
  rcases Nat.lt_or_ge i l with u | u
  · rw [if_neg (nle (by omega) (by omega) u), if_neg (show ¬ (80 : Int32) ≤ nI i from nle (a := 80) (by decide) (by omega) (by omega)), gd_r (vp_in_nI (n := i) (by omega) (by decide)), i_cl (by omega), (h.2 i u).2.2, if_pos u]
  · rw [if_pos (nI_le u (by omega)), if_neg (by omega)]
    rfl
def cf (t : Nat → Nat) : Nat → Nat → Nat → Option Nat
  | 0, st, i => if st = 9 then none else if st = 8 then none else some i
  | d + 1, st, i => if aft st (t i) = 10 then some i else cf t d (aft st (t i)) (i + 1)
def gF (r : Option Nat) : Int32 := match r with
  | none => -6
  | some n => nI n
theorem ff_go {t : Nat → Nat} {l : Nat} {tx : Nat → Int32} (h : TX t l tx) : ∀ (d i st fuel : Nat), i + d = l → st < 11 → d < fuel → lo2 (f_X3_firstFault_L4 tx (nI l)) fuel (nI st) (nI i) = some (gF (cf t d st i))
  | 0, i, st, fuel, h1, h2, h3 => by
    obtain ⟨f, rfl⟩ : ∃ f, fuel = f + 1 := ⟨fuel - 1, by omega⟩
    have h80 := h.1
    show f_X3_firstFault_L4 tx (nI l) (lo2 (f_X3_firstFault_L4 tx (nI l)) f) (nI st) (nI i) = _
    rw [f_X3_firstFault_L4, if_pos (nI_le (show l ≤ i by omega) (by omega)), cf]
    rcases Nat.decEq st 9 with u | u
    · rw [if_neg (show ¬ nI st = (9 : Int32) from fun q => u ((i_eq (b := 9) (by omega) (by decide)).mp q)), if_neg u]
      rcases Nat.decEq st 8 with v | v
      · rw [if_neg (show ¬ nI st = (8 : Int32) from fun q => v ((i_eq (b := 8) (by omega) (by decide)).mp q)), if_neg v, show l = i by omega]
        rfl
      · rw [if_pos (show nI st = (8 : Int32) from by rw [v]; rfl), if_pos v]
        rfl
    · rw [if_pos (show nI st = (9 : Int32) from by rw [u]; rfl), if_pos u]
      rfl
  | d + 1, i, st, fuel, h1, h2, h3 => by
    obtain ⟨f, rfl⟩ : ∃ f, fuel = f + 1 := ⟨fuel - 1, by omega⟩
    have h80 := h.1
    have hi : i < l := by omega
    have hc := (h.2 i hi).2.1
    have e1 : tt t l i = t i := if_pos hi
    have hlt := aft_lt st h2 (t i) (by omega)
    show f_X3_firstFault_L4 tx (nI l) (lo2 (f_X3_firstFault_L4 tx (nI l)) f) (nI st) (nI i) = _
    rw [f_X3_firstFault_L4, if_neg (nle (by omega) (by omega) hi), ob1_r (at_ok h (by omega)), e1, ob1_r (after_ok st h2 (t i) (by omega)), cf, nI_1]
    rcases Nat.decEq (aft st (t i)) 10 with u | u
    · rw [if_neg (show ¬ nI (aft st (t i)) = (10 : Int32) from fun q => u ((i_eq (b := 10) (by omega) (by decide)).mp q)), if_neg u]
      exact ff_go h d (i + 1) _ f (by omega) hlt (by omega)
    · rw [if_pos (show nI (aft st (t i)) = (10 : Int32) from by rw [u]; rfl), if_pos u]
      rfl
theorem firstFault_ok {t : Nat → Nat} {l : Nat} {tx : Nat → Int32} (h : TX t l tx) : f_X3_firstFault tx (nI l) = some (gF (cf t l 0 0)) := by
  have h80 := h.1
  exact ff_go h l 0 0 FU (by omega) (by decide) (by have := fu_big; omega)
/-! one order: where it ends, or where its fault is -/
def d4 (c : Nat) : Prop := 48 ≤ c ∧ c ≤ 52
def d5 (c : Nat) : Prop := 48 ≤ c ∧ c ≤ 53
def d9 (c : Nat) : Prop := 48 ≤ c ∧ c ≤ 57
def ac (c : Nat) : Prop := 97 ≤ c ∧ c ≤ 99
noncomputable def seqE (t : Nat → Nat) (l : Nat) : List (Nat → Prop) → Nat → Nat × Bool
  | [], i => (i, true)
  | P :: ps, i => ifp (i < l ∧ P (t i)) (seqE t l ps (i + 1)) (i, false)
noncomputable def numE (t : Nat → Nat) (l i : Nat) : Nat × Bool := ifp (i < l ∧ d9 (t i)) (ifp (t i ≠ 48 ∧ i + 1 < l ∧ d9 (t (i + 1))) (i + 2, true) (i + 1, true)) (i, false)
noncomputable def oE (t : Nat → Nat) (l s : Nat) : Nat × Bool := ifp (s < l) (if t s = 45 then numE t l (s + 1) else if t s = 104 then seqE t l [d4, ac, d5] (s + 1) else if t s = 114 then seqE t l [d4, d5, d5, d5] (s + 1) else if t s = 115 then seqE t l [d4, d5, d5, d5] (s + 1) else if t s = 119 then seqE t l [d5, d5, d5] (s + 1) else (s, false)) (s, false)
/-- what follows an order that ends before e -/
def endE (t : Nat → Nat) (l : Nat) (r : Nat × Bool) : Option Nat := if r.2 = true then (if r.1 = l then none else if t r.1 = 59 then cf t (l - r.1 - 1) 0 (r.1 + 1) else some r.1) else some r.1
theorem cf_end {t : Nat → Nat} {l i : Nat} (hi : i ≤ l) : cf t (l - i) 9 i = endE t l (i, true) := by
  unfold endE
  rw [if_pos rfl]
  rcases Nat.eq_or_lt_of_le hi with u | u
  · rw [u, Nat.sub_self, cf, if_pos rfl, if_pos rfl]
  · obtain ⟨d, hd⟩ : ∃ d, l - i = d + 1 := ⟨l - i - 1, by omega⟩
    rw [hd, cf, if_neg (show ¬ i = l by omega)]
    rcases Nat.decEq (t i) 59 with v | v
    · rw [show aft 9 (t i) = 10 from by unfold aft; simp [v], if_pos rfl, if_neg v]
    · rw [show aft 9 (t i) = 0 from by unfold aft; simp [v], if_neg (by decide), if_pos v, show d + 1 - 1 = d by omega]
theorem cf_step {t : Nat → Nat} {l i st st' : Nat} {P : Nat → Prop} (hi : i ≤ l) (h8 : st ≠ 8) (h9 : st ≠ 9) (hy : ∀ c, P c → aft st c = st') (hn : ∀ c, ¬ P c → aft st c = 10) (h10 : st' ≠ 10) {ps : List (Nat → Prop)} (ih : i < l → cf t (l - (i + 1)) st' (i + 1) = endE t l (seqE t l ps (i + 1))) : cf t (l - i) st i = endE t l (seqE t l (P :: ps) i) := by
  rcases Nat.eq_or_lt_of_le hi with u | u
  · rw [u, Nat.sub_self, cf, if_neg h9, if_neg h8]
    unfold seqE
    rw [ifp_f (fun q => Nat.lt_irrefl l q.1)]
    rfl
  · obtain ⟨d, hd⟩ : ∃ d, l - i = d + 1 := ⟨l - i - 1, by omega⟩
    have hd' : d = l - (i + 1) := by omega
    rw [hd, cf]
    rcases Classical.em (P (t i)) with v | v
    · rw [hy _ v, if_neg h10, hd', ih u, show seqE t l (P :: ps) i = seqE t l ps (i + 1) from ifp_t ⟨u, v⟩]
    · rw [hn _ v, if_pos rfl]
      rw [show seqE t l (P :: ps) i = (i, false) from ifp_f (fun q => v q.2)]
      rfl
theorem q9 {t : Nat → Nat} {l i : Nat} (hi : i ≤ l) : cf t (l - i) 9 i = endE t l (seqE t l [] i) := cf_end hi
theorem q6 {t : Nat → Nat} {l i : Nat} (hi : i ≤ l) : cf t (l - i) 6 i = endE t l (seqE t l [d5] i) := cf_step hi (by decide) (by decide) (fun c h => by unfold aft; simp; exact h) (fun c h => by unfold aft; simp; exact fun q => Nat.lt_of_not_le fun w => h ⟨q, w⟩) (st' := 9) (by decide) (fun u => q9 u)
theorem q5 {t : Nat → Nat} {l i : Nat} (hi : i ≤ l) : cf t (l - i) 5 i = endE t l (seqE t l [d5, d5] i) := cf_step hi (by decide) (by decide) (fun c h => by unfold aft; simp; exact h) (fun c h => by unfold aft; simp; exact fun q => Nat.lt_of_not_le fun w => h ⟨q, w⟩) (st' := 6) (by decide) (fun u => q6 u)
theorem q4 {t : Nat → Nat} {l i : Nat} (hi : i ≤ l) : cf t (l - i) 4 i = endE t l (seqE t l [d5, d5, d5] i) := cf_step hi (by decide) (by decide) (fun c h => by unfold aft; simp; exact h) (fun c h => by unfold aft; simp; exact fun q => Nat.lt_of_not_le fun w => h ⟨q, w⟩) (st' := 5) (by decide) (fun u => q5 u)
theorem q3 {t : Nat → Nat} {l i : Nat} (hi : i ≤ l) : cf t (l - i) 3 i = endE t l (seqE t l [ac, d5] i) := cf_step hi (by decide) (by decide) (fun c h => by unfold aft; simp; exact h) (fun c h => by unfold aft; simp; exact fun q => Nat.lt_of_not_le fun w => h ⟨q, w⟩) (st' := 6) (by decide) (fun u => q6 u)
theorem q2 {t : Nat → Nat} {l i : Nat} (hi : i ≤ l) : cf t (l - i) 2 i = endE t l (seqE t l [d4, d5, d5, d5] i) := cf_step hi (by decide) (by decide) (fun c h => by unfold aft; simp; exact h) (fun c h => by unfold aft; simp; exact fun q => Nat.lt_of_not_le fun w => h ⟨q, w⟩) (st' := 4) (by decide) (fun u => q4 u)
theorem q1 {t : Nat → Nat} {l i : Nat} (hi : i ≤ l) : cf t (l - i) 1 i = endE t l (seqE t l [d4, ac, d5] i) := cf_step hi (by decide) (by decide) (fun c h => by unfold aft; simp; exact h) (fun c h => by unfold aft; simp; exact fun q => Nat.lt_of_not_le fun w => h ⟨q, w⟩) (st' := 3) (by decide) (fun u => q3 u)
theorem q7 {t : Nat → Nat} {l i : Nat} (hi : i ≤ l) : cf t (l - i) 7 i = endE t l (numE t l i) := by
  rcases Nat.eq_or_lt_of_le hi with u | u
  · rw [show numE t l i = (i, false) from ifp_f (fun q => by omega), u, Nat.sub_self, cf, if_neg (by decide), if_neg (by decide)]
    rfl
  · obtain ⟨d, hd⟩ : ∃ d, l - i = d + 1 := ⟨l - i - 1, by omega⟩
    have hd' : d = l - (i + 1) := by omega
    rw [hd, cf]
    rcases Classical.em (d9 (t i)) with v | v
    · rcases Nat.decEq (t i) 48 with w | w
      · have ha : aft 7 (t i) = 8 := by unfold aft; simp [w]; unfold d9 at v; omega
        rw [ha, if_neg (by decide), show numE t l i = _ from ifp_t ⟨u, v⟩, hd']
        rcases Nat.eq_or_lt_of_le (show i + 1 ≤ l from u) with x | x
        · rw [ifp_f (fun q => by omega), x, Nat.sub_self, cf, if_neg (by decide), if_pos rfl]
          unfold endE
          rw [if_pos rfl, if_pos rfl]
        · obtain ⟨d', hd2⟩ : ∃ d', l - (i + 1) = d' + 1 := ⟨l - (i + 1) - 1, by omega⟩
          have hd3 : d' = l - (i + 1 + 1) := by omega
          rw [hd2, cf]
          rcases Classical.em (d9 (t (i + 1))) with y | y
          · rw [show aft 8 (t (i + 1)) = 9 from by unfold aft; simp; intro z; unfold d9 at y; omega, if_neg (by decide), ifp_t ⟨w, x, y⟩, hd3, cf_end (by omega)]
          · rw [ifp_f (fun q => y q.2.2)]
            unfold endE
            rw [if_pos rfl, if_neg (show ¬ (i + 1, true).1 = l from by show ¬ i + 1 = l; omega)]
            rcases Nat.decEq (t (i + 1)) 59 with z | z
            · rw [show aft 8 (t (i + 1)) = 10 from by unfold aft; simp [z]; exact fun q => Nat.lt_of_not_le fun w => y ⟨q, w⟩, if_pos rfl, if_neg z]
            · rw [show aft 8 (t (i + 1)) = 0 from by unfold aft; simp [z], if_neg (by decide), if_pos z, show l - (i + 1) - 1 = d' by omega]
      · have ha : aft 7 (t i) = 9 := by unfold aft; simp [w]
        rw [ha, if_neg (by decide), show numE t l i = _ from ifp_t ⟨u, v⟩, ifp_f (fun q => q.1 w), hd', cf_end (by omega)]
    · have ha : aft 7 (t i) = 10 := by
        unfold aft
        unfold d9 at v
        simp
        rw [if_neg (show ¬ t i = 48 by omega), if_neg (by omega)]
      rw [ha, if_pos rfl, show numE t l i = (i, false) from ifp_f (fun q => v q.2)]
      rfl
theorem cf_order {t : Nat → Nat} {l s : Nat} (hs : s ≤ l) : cf t (l - s) 0 s = endE t l (oE t l s) := by
  rcases Nat.eq_or_lt_of_le hs with u | u
  · rw [show oE t l s = (s, false) from ifp_f (fun q => by omega), u, Nat.sub_self, cf, if_neg (by decide), if_neg (by decide)]
    rfl
  · obtain ⟨d, hd⟩ : ∃ d, l - s = d + 1 := ⟨l - s - 1, by omega⟩
    have hd' : d = l - (s + 1) := by omega
    rw [hd, cf, show oE t l s = _ from ifp_t u, hd']
    rcases Nat.decEq (t s) 45 with v | v
    rotate_left
    · rw [show aft 0 (t s) = 7 from by unfold aft; simp [v], if_neg (by decide), if_pos v, q7 (by omega)]
    rcases Nat.decEq (t s) 104 with w | w
    rotate_left
    · rw [show aft 0 (t s) = 1 from by unfold aft; simp [w], if_neg (by decide), if_neg v, if_pos w, q1 (by omega)]
    rcases Nat.decEq (t s) 114 with x | x
    rotate_left
    · rw [show aft 0 (t s) = 2 from by unfold aft; simp [x], if_neg (by decide), if_neg v, if_neg w, if_pos x, q2 (by omega)]
    rcases Nat.decEq (t s) 115 with y | y
    rotate_left
    · rw [show aft 0 (t s) = 2 from by unfold aft; simp [y], if_neg (by decide), if_neg v, if_neg w, if_neg x, if_pos y, q2 (by omega)]
    rcases Nat.decEq (t s) 119 with z | z
    rotate_left
    · rw [show aft 0 (t s) = 4 from by unfold aft; simp [z], if_neg (by decide), if_neg v, if_neg w, if_neg x, if_neg y, if_pos z, q4 (by omega)]
    rw [show aft 0 (t s) = 10 from by unfold aft; simp [v, w, x, y, z], if_pos rfl, if_neg v, if_neg w, if_neg x, if_neg y, if_neg z]
    rfl
