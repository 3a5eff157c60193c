/-! ===== bestQuestion ===== -/
def lsr (g h : Nat) : Nat := if g = 0 then (if h = 0 then 0 else h - 1) else if h = 0 then g - 1 else if h ≤ g then h - 1 else g - 1
theorem gI_ne {g : Nat} (hg : g < 1000) (h : g ≠ 0) : gI g = nI (g - 1) ∧ ¬ gI g = (-6 : Int32) := by
  have e : gI g = nI (g - 1) := if_neg h
  exact ⟨e, by rw [e]; exact ne6 (by omega)⟩
theorem gI_0 : gI 0 = (-6 : Int32) := rfl
theorem lsr_lt {g h : Nat} (hg : g < 1000) (hh : h < 1000) : lsr g h < 1000 := by
  unfold lsr
  split
  · split <;> omega
  · split
    · omega
    · split <;> omega
theorem lesser_ok {g h : Nat} (hg : g < 1000) (hh : h < 1000) : f_X5_lesser (gI g) (gI h) = some (nI (lsr g h)) := by
  unfold f_X5_lesser lsr
  rcases Nat.decEq g 0 with u | u
  · obtain ⟨e1, n1⟩ := gI_ne hg u
    rw [if_neg n1, if_neg u]
    rcases Nat.decEq h 0 with v | v
    · obtain ⟨e2, n2⟩ := gI_ne hh v
      rw [if_neg n2, if_neg v, e1, e2]
      rcases Nat.lt_or_ge h g with w | w
      · rw [if_pos (nI_lt (a := h - 1) (b := g - 1) (by omega) (by omega)), if_pos (by omega)]
      · rw [if_neg (nI_nlt (a := h - 1) (b := g - 1) (by omega) (by omega))]
        split
        · rw [show h - 1 = g - 1 by omega]
        · rfl
    · rw [v, gI_0, if_pos rfl, if_pos rfl, e1]
  · rw [u, gI_0, if_pos rfl, if_pos rfl]
    rcases Nat.decEq h 0 with v | v
    · obtain ⟨e2, n2⟩ := gI_ne hh v
      rw [if_neg n2, if_neg v, e2]
    · rw [v, gI_0, if_pos rfl, if_pos rfl]
      rfl
abbrev S11 : Type := (Nat → Int32) × S10
noncomputable def lvq (a : Sh) (j k : Nat) : Nat := lsr (GN a (1, j, k / 36, 6 + k / 6 % 6, 12 + k % 6)) (GN a (2, j, k / 36, 6 + k / 6 % 6, 12 + k % 6))
theorem lvq_lt (a : Sh) (j k : Nat) : lvq a j k < 1000 := lsr_lt (by have := GN_le a (1, j, k / 36, 6 + k / 6 % 6, 12 + k % 6); omega) (by have := GN_le a (2, j, k / 36, 6 + k / 6 % 6, 12 + k % 6); omega)
/-- the best of the first k questions: its number, what it tells -/
noncomputable def bst (a : Sh) (j : Nat) : Nat → Nat × Nat
  | 0 => (0, 0)
  | k + 1 => if k = 0 then (0, lvq a j 0) else if lvq a j k ≤ (bst a j k).2 then bst a j k else (k, lvq a j k)
theorem bst_lt (a : Sh) (j : Nat) : ∀ k, (bst a j k).1 ≤ k ∧ (bst a j k).2 < 1000
  | 0 => ⟨Nat.le_refl 0, by show 0 < 1000; decide⟩
  | k + 1 => by
    have h := bst_lt a j k
    have h2 := lvq_lt a j k
    have h3 := lvq_lt a j 0
    unfold bst
    split
    · exact ⟨Nat.zero_le _, h3⟩
    · split
      · exact ⟨by omega, h.2⟩
      · exact ⟨by show k ≤ k + 1; omega, h2⟩
theorem bst_lt2 (a : Sh) (j : Nat) : ∀ k, 0 < k → (bst a j k).1 < k
  | 0, h => absurd h (by decide)
  | k + 1, _ => by
    unfold bst
    split
    · exact Nat.succ_pos k
    · split
      · have := bst_lt2 a j k (by omega)
        omega
      · exact Nat.lt_succ_self k
def KC (a : Sh) (j k : Nat) (v3 v4 : Int32) : Prop := (k = 0 ∧ v3 = -1 ∧ v4 = 0) ∨ (0 < k ∧ v3 = nI (bst a j k).2 ∧ v4 = th3 ((bst a j k).1 / 36) ((bst a j k).1 / 6 % 6) ((bst a j k).1 % 6))
def KR (a : Sh) (j k : Nat) (v3 v4 : Int32) : Prop := (k = 0 ∧ v3 = 0 ∧ v4 = -6) ∨ (0 < k ∧ v3 = nI (bst a j k).1 ∧ v4 = nI (bst a j k).2)
theorem bst_0 (a : Sh) (j : Nat) : bst a j 1 = (0, lvq a j 0) := if_pos rfl
theorem bst_s (a : Sh) (j : Nat) {k : Nat} (h : 0 < k) : bst a j (k + 1) = if lvq a j k ≤ (bst a j k).2 then bst a j k else (k, lvq a j k) := if_neg (by omega)
theorem KC_step {a : Sh} {j k : Nat} {v3 v4 : Int32} (h : KC a j k v3 v4) : if nI (lvq a j k) ≤ v3 then KC a j (k + 1) v3 v4 else KC a j (k + 1) (nI (lvq a j k)) (th3 (k / 36) (k / 6 % 6) (k % 6)) := by
  have h1 := lvq_lt a j k
  have h2 := (bst_lt a j k).2
  rcases h with ⟨rfl, rfl, rfl⟩ | ⟨h0, rfl, rfl⟩
  · rw [if_neg (fun q => by
      have := nI_pos' (n := lvq a j 0) (by omega)
      rw [Int32.le_iff_toInt_le] at q this
      rw [show (-1 : Int32).toInt = -1 from by decide] at q
      rw [show (0 : Int32).toInt = 0 from by decide] at this
      omega)]
    exact Or.inr ⟨by omega, by rw [bst_0], by rw [bst_0]⟩
  · rcases Nat.lt_or_ge (bst a j k).2 (lvq a j k) with u | u
    · rw [if_neg (nle (by omega) (by omega) u)]
      exact Or.inr ⟨by omega, by rw [bst_s a j h0, if_neg (by omega)], by rw [bst_s a j h0, if_neg (by omega)]⟩
    · rw [if_pos (nI_le u (by omega))]
      exact Or.inr ⟨by omega, by rw [bst_s a j h0, if_pos u], by rw [bst_s a j h0, if_pos u]⟩
theorem KR_step {a : Sh} {j k : Nat} {v3 v4 : Int32} (h : KR a j k v3 v4) : if nI (lvq a j k) ≤ v4 then KR a j (k + 1) v3 v4 else KR a j (k + 1) (nI k) (nI (lvq a j k)) := by
  have h1 := lvq_lt a j k
  have h2 := (bst_lt a j k).2
  rcases h with ⟨rfl, rfl, rfl⟩ | ⟨h0, rfl, rfl⟩
  · rw [if_neg (fun q => by
      have := nI_pos' (n := lvq a j 0) (by omega)
      rw [Int32.le_iff_toInt_le] at q this
      rw [show (-6 : Int32).toInt = -6 from by decide] at q
      rw [show (0 : Int32).toInt = 0 from by decide] at this
      omega)]
    exact Or.inr ⟨by omega, by rw [bst_0], by rw [bst_0]⟩
  · rcases Nat.lt_or_ge (bst a j k).2 (lvq a j k) with u | u
    · rw [if_neg (nle (by omega) (by omega) u)]
      exact Or.inr ⟨by omega, by rw [bst_s a j h0, if_neg (by omega)], by rw [bst_s a j h0, if_neg (by omega)]⟩
    · rw [if_pos (nI_le u (by omega))]
      exact Or.inr ⟨by omega, by rw [bst_s a j h0, if_pos u], by rw [bst_s a j h0, if_pos u]⟩
abbrev C13 : Type := Int32 × (Nat → Int32) × (Nat → Int32) × (Nat → Int32) × S9
abbrev RQ : Type := Int32 × Int32 × (Nat → Int32) × (Nat → Int32) × (Nat → Int32) × S9
section
variable {a : Sh} {m : Nat} {L : Nat → Sh} {pl to : Int32} {ks os cs ys cy oy ns cn on : Nat → Int32} {rd len : Int32} {st : Nat → StT} {z past : Nat → Int32} {pm : Int32}
def CG (a : Sh) (pl : Int32) (t : C13) : Prop := RF pl t.1 t.2.1 t.2.2.1 t.2.2.2.1 a ∧ Zc t.2.2.2.2.2.1 ∧ Zc t.2.2.2.2.2.2.2.2.2.1
theorem bc_in (hw : WF a) (h40 : sn a ≤ 40) (my : MB (FY a) ys) (mn : MB (FN a) ns) {j : Nat} (hj : j < sp a) {x y : Nat} (hx : x < 6) (hy : y < 6) (rec43 : Int32 → Int32 → Int32 → Int32 → (Nat → Int32) → (Nat → Int32) → (Nat → Int32) → (Nat → Int32) → (Nat → Int32) → (Nat → Int32) → Int32 → (Nat → Int32) → (Nat → Int32) → (Nat → Int32) → Int32 → Int32 → Option RQ) (v3 v4 : Int32) (hK : KC a j (36 * x + 6 * y) v3 v4) (t : C13) (ht : CG a pl t) :
    ∃ v3' v4' t', lo16 (f_X5_bestQuestion_L53 pl ys ns (nI j) (nI x) rec43 (nI y)) FU v3 v4 0 t.1 t.2.1 t.2.2.1 t.2.2.2.1 t.2.2.2.2.1 t.2.2.2.2.2.1 t.2.2.2.2.2.2.1 t.2.2.2.2.2.2.2.1 t.2.2.2.2.2.2.2.2.1 t.2.2.2.2.2.2.2.2.2.1 t.2.2.2.2.2.2.2.2.2.2.1 t.2.2.2.2.2.2.2.2.2.2.2.1 t.2.2.2.2.2.2.2.2.2.2.2.2 = rec43 v3' v4' (nI (y + 1)) t'.1 t'.2.1 t'.2.2.1 t'.2.2.2.1 t'.2.2.2.2.1 t'.2.2.2.2.2.1 t'.2.2.2.2.2.2.1 t'.2.2.2.2.2.2.2.1 t'.2.2.2.2.2.2.2.2.1 t'.2.2.2.2.2.2.2.2.2.1 t'.2.2.2.2.2.2.2.2.2.2.1 t'.2.2.2.2.2.2.2.2.2.2.2.1 t'.2.2.2.2.2.2.2.2.2.2.2.2 ∧ KC a j (36 * x + 6 * (y + 1)) v3' v4' ∧ CG a pl t' := by
  obtain ⟨rec, q, e, h⟩ := loopE (S := Int32 × Int32 × Int32 × C13) (F := fun f q => lo16 (f_X5_bestQuestion_L53 pl ys ns (nI j) (nI x) rec43 (nI y)) f q.1 q.2.1 q.2.2.1 q.2.2.2.1 q.2.2.2.2.1 q.2.2.2.2.2.1 q.2.2.2.2.2.2.1 q.2.2.2.2.2.2.2.1 q.2.2.2.2.2.2.2.2.1 q.2.2.2.2.2.2.2.2.2.1 q.2.2.2.2.2.2.2.2.2.2.1 q.2.2.2.2.2.2.2.2.2.2.2.1 q.2.2.2.2.2.2.2.2.2.2.2.2.1 q.2.2.2.2.2.2.2.2.2.2.2.2.2.1 q.2.2.2.2.2.2.2.2.2.2.2.2.2.2.1 q.2.2.2.2.2.2.2.2.2.2.2.2.2.2.2) (B := fun rec q => f_X5_bestQuestion_L53 pl ys ns (nI j) (nI x) rec43 (nI y) (fun u v w t0 t1 t2 t3 s1 s2 s3 s4 s5 s6 s7 s8 s9 => rec (u, v, w, t0, t1, t2, t3, s1, s2, s3, s4, s5, s6, s7, s8, s9)) q.1 q.2.1 q.2.2.1 q.2.2.2.1 q.2.2.2.2.1 q.2.2.2.2.2.1 q.2.2.2.2.2.2.1 q.2.2.2.2.2.2.2.1 q.2.2.2.2.2.2.2.2.1 q.2.2.2.2.2.2.2.2.2.1 q.2.2.2.2.2.2.2.2.2.2.1 q.2.2.2.2.2.2.2.2.2.2.2.1 q.2.2.2.2.2.2.2.2.2.2.2.2.1 q.2.2.2.2.2.2.2.2.2.2.2.2.2.1 q.2.2.2.2.2.2.2.2.2.2.2.2.2.2.1 q.2.2.2.2.2.2.2.2.2.2.2.2.2.2.2) (fun _ _ => rfl) (fun k q => q.2.2.1 = nI k ∧ KC a j (36 * x + 6 * y + k) q.1 q.2.1 ∧ CG a pl q.2.2.2) 6 (by
    rintro w ⟨v3, v4, i, to, ks, os, cs, s1, s2, s3, s4, s5, s6, s7, s8, s9⟩ hw6 ⟨h1, h2, h3, h4, h5⟩ rec
    replace h1 : i = nI w := h1
    subst h1
    replace h2 : KC a j (36 * x + 6 * y + w) v3 v4 := h2
    replace h3 : RF pl to ks os cs a := h3
    replace h4 : Zc s2 := h4
    replace h5 : Zc s6 := h5
    (try dsimp only)
    rw [f_X5_bestQuestion_L53, if_neg (show ¬ (6 : Int32) ≤ nI w from nle (a := 6) (by decide) (by omega) hw6), ob1_r th3_ok, nI_1]
    obtain ⟨to', ks', os', cs', d1, d2, d3, d4, d5, d6, d7, d8, d9, e1, e2, e3, e4⟩ := gainOf_ok hw h40 h3 my mn (fw_3 (k := 1) (j := j) (by omega) (by omega) (fun _ => hj) (fun h => by omega) hx hy hw6) (fa_3 (by omega) hx hy hw6) h4 h5 s1 s3 s5 s7 s4 s8 s9
    obtain ⟨to2, ks2, os2, cs2, f1, f2, f3, f4, f5, f6, f7, f8, f9, g1, g2, g3, g4⟩ := gainOf_ok hw h40 e2 my mn (fw_3 (k := 2) (j := j) (by omega) (by omega) (fun _ => hj) (fun h => by omega) hx hy hw6) (fa_3 (by omega) hx hy hw6) e3 e4 d1 d3 d5 d7 d4 d8 d9
    have e1' : f_X5_gainOf pl to ks os cs ys ns s1 s2 s3 s4 s5 s6 s7 s8 s9 1 (nI j) (th3 x y w) = _ := e1
    have g1' : f_X5_gainOf pl to' ks' os' cs' ys ns d1 d2 d3 d4 d5 d6 d7 d8 d9 2 (nI j) (th3 x y w) = _ := g1
    have b1 := GN_le a (1, j, x, 6 + y, 12 + w)
    have b2 := GN_le a (2, j, x, 6 + y, 12 + w)
    rw [ob14_r e1', ob14_r g1', ob1_r (lesser_ok (by omega) (by omega))]
    have hl : lsr (GN a (1, j, x, 6 + y, 12 + w)) (GN a (2, j, x, 6 + y, 12 + w)) = lvq a j (36 * x + 6 * y + w) := by
      unfold lvq
      rw [show (36 * x + 6 * y + w) / 36 = x by omega, show (36 * x + 6 * y + w) / 6 % 6 = y by omega, show (36 * x + 6 * y + w) % 6 = w by omega]
    have hs := KC_step h2
    rw [hl]
    rw [show (36 * x + 6 * y + w) / 36 = x by omega, show (36 * x + 6 * y + w) / 6 % 6 = y by omega, show (36 * x + 6 * y + w) % 6 = w by omega] at hs
    rcases Decidable.em (nI (lvq a j (36 * x + 6 * y + w)) ≤ v3) with u | u
    · rw [if_pos u] at hs ⊢
      exact ⟨(v3, v4, nI (w + 1), to2, ks2, os2, cs2, f1, f2, f3, f4, f5, f6, f7, f8, f9), rfl, rfl, hs, g2, g3, g4⟩
    · rw [if_neg u] at hs ⊢
      exact ⟨(_, _, nI (w + 1), to2, ks2, os2, cs2, f1, f2, f3, f4, f5, f6, f7, f8, f9), rfl, rfl, hs, g2, g3, g4⟩) 6 0 FU (v3, v4, 0, t) rfl (by decide) ⟨rfl, hK, ht⟩
  obtain ⟨v3', v4', i, to, ks, os, cs, s1, s2, s3, s4, s5, s6, s7, s8, s9⟩ := q
  obtain ⟨h1, h2, h3⟩ := h
  replace h1 : i = nI 6 := h1
  subst h1
  refine ⟨v3', v4', (to, ks, os, cs, s1, s2, s3, s4, s5, s6, s7, s8, s9), ?_, h2, h3⟩
  refine Eq.trans e ?_
  (try dsimp only)
  rw [f_X5_bestQuestion_L53, if_pos (show (6 : Int32) ≤ nI 6 from by decide), nI_1]
theorem bc_mid (hw : WF a) (h40 : sn a ≤ 40) (my : MB (FY a) ys) (mn : MB (FN a) ns) {j : Nat} (hj : j < sp a) {x : Nat} (hx : x < 6) (rec33 : Int32 → Int32 → Int32 → Int32 → (Nat → Int32) → (Nat → Int32) → (Nat → Int32) → (Nat → Int32) → (Nat → Int32) → (Nat → Int32) → Int32 → (Nat → Int32) → (Nat → Int32) → (Nat → Int32) → Int32 → Int32 → Option RQ) (v3 v4 : Int32) (hK : KC a j (36 * x) v3 v4) (t : C13) (ht : CG a pl t) :
    ∃ v3' v4' t', lo16 (f_X5_bestQuestion_L43 pl ys ns (nI j) rec33 (nI x)) FU v3 v4 0 t.1 t.2.1 t.2.2.1 t.2.2.2.1 t.2.2.2.2.1 t.2.2.2.2.2.1 t.2.2.2.2.2.2.1 t.2.2.2.2.2.2.2.1 t.2.2.2.2.2.2.2.2.1 t.2.2.2.2.2.2.2.2.2.1 t.2.2.2.2.2.2.2.2.2.2.1 t.2.2.2.2.2.2.2.2.2.2.2.1 t.2.2.2.2.2.2.2.2.2.2.2.2 = rec33 v3' v4' (nI (x + 1)) t'.1 t'.2.1 t'.2.2.1 t'.2.2.2.1 t'.2.2.2.2.1 t'.2.2.2.2.2.1 t'.2.2.2.2.2.2.1 t'.2.2.2.2.2.2.2.1 t'.2.2.2.2.2.2.2.2.1 t'.2.2.2.2.2.2.2.2.2.1 t'.2.2.2.2.2.2.2.2.2.2.1 t'.2.2.2.2.2.2.2.2.2.2.2.1 t'.2.2.2.2.2.2.2.2.2.2.2.2 ∧ KC a j (36 * (x + 1)) v3' v4' ∧ CG a pl t' := by
  obtain ⟨rec, q, e, h⟩ := loopE (S := Int32 × Int32 × Int32 × C13) (F := fun f q => lo16 (f_X5_bestQuestion_L43 pl ys ns (nI j) rec33 (nI x)) f q.1 q.2.1 q.2.2.1 q.2.2.2.1 q.2.2.2.2.1 q.2.2.2.2.2.1 q.2.2.2.2.2.2.1 q.2.2.2.2.2.2.2.1 q.2.2.2.2.2.2.2.2.1 q.2.2.2.2.2.2.2.2.2.1 q.2.2.2.2.2.2.2.2.2.2.1 q.2.2.2.2.2.2.2.2.2.2.2.1 q.2.2.2.2.2.2.2.2.2.2.2.2.1 q.2.2.2.2.2.2.2.2.2.2.2.2.2.1 q.2.2.2.2.2.2.2.2.2.2.2.2.2.2.1 q.2.2.2.2.2.2.2.2.2.2.2.2.2.2.2) (B := fun rec q => f_X5_bestQuestion_L43 pl ys ns (nI j) rec33 (nI x) (fun u v w t0 t1 t2 t3 s1 s2 s3 s4 s5 s6 s7 s8 s9 => rec (u, v, w, t0, t1, t2, t3, s1, s2, s3, s4, s5, s6, s7, s8, s9)) q.1 q.2.1 q.2.2.1 q.2.2.2.1 q.2.2.2.2.1 q.2.2.2.2.2.1 q.2.2.2.2.2.2.1 q.2.2.2.2.2.2.2.1 q.2.2.2.2.2.2.2.2.1 q.2.2.2.2.2.2.2.2.2.1 q.2.2.2.2.2.2.2.2.2.2.1 q.2.2.2.2.2.2.2.2.2.2.2.1 q.2.2.2.2.2.2.2.2.2.2.2.2.1 q.2.2.2.2.2.2.2.2.2.2.2.2.2.1 q.2.2.2.2.2.2.2.2.2.2.2.2.2.2.1 q.2.2.2.2.2.2.2.2.2.2.2.2.2.2.2) (fun _ _ => rfl) (fun k q => q.2.2.1 = nI k ∧ KC a j (36 * x + 6 * k) q.1 q.2.1 ∧ CG a pl q.2.2.2) 6 (by
    rintro y ⟨v3, v4, i, t⟩ hy ⟨h1, h2, h3⟩ rec
    replace h1 : i = nI y := h1
    subst h1
    replace h2 : KC a j (36 * x + 6 * y) v3 v4 := h2
    (try dsimp only)
    rw [f_X5_bestQuestion_L43, if_neg (show ¬ (6 : Int32) ≤ nI y from nle (a := 6) (by decide) (by omega) hy)]
    obtain ⟨v3', v4', t', e1, e2, e3⟩ := bc_in hw h40 my mn hj hx hy (fun u v w t0 t1 t2 t3 s1 s2 s3 s4 s5 s6 s7 s8 s9 => rec (u, v, w, t0, t1, t2, t3, s1, s2, s3, s4, s5, s6, s7, s8, s9)) v3 v4 h2 t h3
    exact ⟨(v3', v4', nI (y + 1), t'), e1, rfl, e2, e3⟩) 6 0 FU (v3, v4, 0, t) rfl (by decide) ⟨rfl, hK, ht⟩
  obtain ⟨v3', v4', i, t'⟩ := q
  obtain ⟨h1, h2, h3⟩ := h
  replace h1 : i = nI 6 := h1
  subst h1
  refine ⟨v3', v4', t', ?_, h2, h3⟩
  refine Eq.trans e ?_
  (try dsimp only)
  rw [f_X5_bestQuestion_L43, if_pos (show (6 : Int32) ≤ nI 6 from by decide), nI_1]
theorem low_th {x y w : Nat} (hx : x < 6) (hy : y < 6) (hw : w < 6) {κ : Nat} (hκ : κ < 3) {q : Int32} (h5 : ∀ i, i < 32 → bt q i = decide (i / 6 = κ)) : f_X5_lowestOf (th3 x y w &&& q) = some (nI (if κ = 0 then x else if κ = 1 then 6 + y else 12 + w)) := by
  have hb : ∀ i, i < 18 → bt (th3 x y w) i = (decide (i = x) || decide (i = 6 + y) || decide (i = 12 + w)) := fun i _ => by
    unfold th3
    rw [b_or, b_or, b_one' _ (by omega), b_one' _ (by omega), b_one' _ (by omega)]
  have go : ∀ c, c < 18 → c / 6 = κ → (c = x ∨ c = 6 + y ∨ c = 12 + w) → f_X5_lowestOf (th3 x y w &&& q) = some (nI c) := by
    intro c hc h1 h2
    refine (lowest_ok (m18_and (th3_18 hx hy hw)) hc ?_ fun i hi => ?_).1
    · rw [b_and, hb c hc, h5 c (by omega), decide_eq_true h1, Bool.and_true]
      rcases h2 with h2 | h2 | h2 <;> simp [h2]
    · rw [b_and, hb i (by omega), h5 i (by omega)]
      rcases Nat.decEq (i / 6) κ with u | u
      · rw [decide_eq_false u, Bool.and_false]
      · rw [decide_eq_false (show ¬ i = x by omega), decide_eq_false (show ¬ i = 6 + y by omega), decide_eq_false (show ¬ i = 12 + w by omega)]
        rfl
  rcases (show κ = 0 ∨ κ = 1 ∨ κ = 2 by omega) with rfl | rfl | rfl
  · rw [if_pos rfl]; exact go x (by omega) (by omega) (Or.inl rfl)
  · rw [if_neg (by decide), if_pos rfl]; exact go (6 + y) (by omega) (by omega) (Or.inr (Or.inl rfl))
  · rw [if_neg (by decide), if_neg (by decide)]; exact go (12 + w) (by omega) (by omega) (Or.inr (Or.inr rfl))
def qans (b : Nat × Nat) (v : Nat) : Nat := if v = 0 then b.1 / 36 else if v = 1 then b.1 / 6 % 6 else if v = 2 then b.1 % 6 else b.2
theorem bc_ok (hw : WF a) (h40 : sn a ≤ 40) (my : MB (FY a) ys) (mn : MB (FN a) ns) {j : Nat} (hj : j < sp a) {v : Nat} (hv : v < 4) (t : C13) (ht : CG a pl t) :
    ∃ t', lo16 (f_X5_bestQuestion_L33 pl ys ns (nI j) (nI v)) FU (-1) 0 0 t.1 t.2.1 t.2.2.1 t.2.2.2.1 t.2.2.2.2.1 t.2.2.2.2.2.1 t.2.2.2.2.2.2.1 t.2.2.2.2.2.2.2.1 t.2.2.2.2.2.2.2.2.1 t.2.2.2.2.2.2.2.2.2.1 t.2.2.2.2.2.2.2.2.2.2.1 t.2.2.2.2.2.2.2.2.2.2.2.1 t.2.2.2.2.2.2.2.2.2.2.2.2 = some (nI (qans (bst a j 216) v), t') ∧ CG a pl t' := by
  obtain ⟨rec, q, e, h⟩ := loopE (S := Int32 × Int32 × Int32 × C13) (F := fun f q => lo16 (f_X5_bestQuestion_L33 pl ys ns (nI j) (nI v)) f q.1 q.2.1 q.2.2.1 q.2.2.2.1 q.2.2.2.2.1 q.2.2.2.2.2.1 q.2.2.2.2.2.2.1 q.2.2.2.2.2.2.2.1 q.2.2.2.2.2.2.2.2.1 q.2.2.2.2.2.2.2.2.2.1 q.2.2.2.2.2.2.2.2.2.2.1 q.2.2.2.2.2.2.2.2.2.2.2.1 q.2.2.2.2.2.2.2.2.2.2.2.2.1 q.2.2.2.2.2.2.2.2.2.2.2.2.2.1 q.2.2.2.2.2.2.2.2.2.2.2.2.2.2.1 q.2.2.2.2.2.2.2.2.2.2.2.2.2.2.2) (B := fun rec q => f_X5_bestQuestion_L33 pl ys ns (nI j) (nI v) (fun u v w t0 t1 t2 t3 s1 s2 s3 s4 s5 s6 s7 s8 s9 => rec (u, v, w, t0, t1, t2, t3, s1, s2, s3, s4, s5, s6, s7, s8, s9)) q.1 q.2.1 q.2.2.1 q.2.2.2.1 q.2.2.2.2.1 q.2.2.2.2.2.1 q.2.2.2.2.2.2.1 q.2.2.2.2.2.2.2.1 q.2.2.2.2.2.2.2.2.1 q.2.2.2.2.2.2.2.2.2.1 q.2.2.2.2.2.2.2.2.2.2.1 q.2.2.2.2.2.2.2.2.2.2.2.1 q.2.2.2.2.2.2.2.2.2.2.2.2.1 q.2.2.2.2.2.2.2.2.2.2.2.2.2.1 q.2.2.2.2.2.2.2.2.2.2.2.2.2.2.1 q.2.2.2.2.2.2.2.2.2.2.2.2.2.2.2) (fun _ _ => rfl) (fun k q => q.2.2.1 = nI k ∧ KC a j (36 * k) q.1 q.2.1 ∧ CG a pl q.2.2.2) 6 (by
    rintro x ⟨v3, v4, i, t⟩ hx ⟨h1, h2, h3⟩ rec
    replace h1 : i = nI x := h1
    subst h1
    replace h2 : KC a j (36 * x) v3 v4 := h2
    (try dsimp only)
    rw [f_X5_bestQuestion_L33, if_neg (show ¬ (6 : Int32) ≤ nI x from nle (a := 6) (by decide) (by omega) hx)]
    obtain ⟨v3', v4', t', e1, e2, e3⟩ := bc_mid hw h40 my mn hj hx (fun u v w t0 t1 t2 t3 s1 s2 s3 s4 s5 s6 s7 s8 s9 => rec (u, v, w, t0, t1, t2, t3, s1, s2, s3, s4, s5, s6, s7, s8, s9)) v3 v4 h2 t h3
    exact ⟨(v3', v4', nI (x + 1), t'), e1, rfl, e2, e3⟩) 6 0 FU (-1, 0, 0, t) rfl (by decide) ⟨rfl, Or.inl ⟨rfl, rfl, rfl⟩, ht⟩
  obtain ⟨v3', v4', i, t'⟩ := q
  obtain ⟨h1, h2, h3⟩ := h
  replace h1 : i = nI 6 := h1
  subst h1
  refine ⟨t', ?_, h3⟩
  refine Eq.trans e ?_
  (try dsimp only)
  obtain ⟨h216, h1000⟩ := bst_lt a j 216
  have h2' : KC a j 216 v3' v4' := h2
  have h2'' := h2'.resolve_left (fun q => absurd q.1 (by decide))
  obtain ⟨_, rfl, rfl⟩ := h2''
  rw [f_X5_bestQuestion_L33, if_pos (show (6 : Int32) ≤ nI 6 from by decide)]
  have h36 : (bst a j 216).1 / 36 < 6 := by
    have := bst_lt2 a j 216 (by omega)
    omega
  rcases Nat.decEq v 3 with u | u
  · rw [if_neg (show ¬ nI v = (3 : Int32) from fun q => u ((i_eq (b := 3) (by omega) (by decide)).mp q))]
    obtain ⟨q, k1, k2, k3, k5⟩ := kind5 (k := v) (by omega)
    rw [ob1_r k1, ob1_r (low_th h36 (Nat.mod_lt _ (by decide)) (Nat.mod_lt _ (by decide)) (κ := v) (by omega) k5)]
    have ev : nI v * (6 : Int32) = nI (v * 6) := pk_mul v 6
    rw [ev]
    unfold qans
    rcases (show v = 0 ∨ v = 1 ∨ v = 2 by omega) with rfl | rfl | rfl
    · rw [if_pos rfl, if_pos rfl, pk_sub (by omega)]
      rfl
    · rw [if_neg (by decide), if_pos rfl, if_neg (by decide), if_pos rfl, pk_sub (by omega), show 6 + (bst a j 216).1 / 6 % 6 - 1 * 6 = (bst a j 216).1 / 6 % 6 by omega]
    · rw [if_neg (by decide), if_neg (by decide), if_neg (by decide), if_neg (by decide), if_pos rfl, pk_sub (by omega), show 12 + (bst a j 216).1 % 6 - 2 * 6 = (bst a j 216).1 % 6 by omega]
  · subst u
    rw [if_pos (show nI 3 = (3 : Int32) from rfl)]
    rfl
theorem div_nI (n : Nat) (hn : n < 1000) : nI n / (36 : Int32) = nI (n / 36) ∧ ((nI n / (6 : Int32)) - (nI n / (6 : Int32)) / (6 : Int32) * (6 : Int32)) = nI (n / 6 % 6) ∧ (nI n - nI n / (6 : Int32) * (6 : Int32)) = nI (n % 6) := by
  have d6 : ∀ m, m < 1000 → nI m / (6 : Int32) = nI (m / 6) := fun m hm => pk_div (d := 6) (by omega) (by decide) (by decide)
  have m6 : ∀ m, nI m * (6 : Int32) = nI (m * 6) := fun m => pk_mul m 6
  refine ⟨pk_div (d := 36) (by omega) (by decide) (by decide), ?_, ?_⟩
  · rw [d6 n hn, d6 (n / 6) (by omega), m6, pk_sub (by omega)]
    congr 1
    omega
  · rw [d6 n hn, m6, pk_sub (by omega)]
    congr 1
    omega
end

