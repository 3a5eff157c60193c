/-! ===== put, wipe: characters out of a number of eight bytes ===== -/
def qN (x : Int64) : Nat := x.toBitVec.toNat
def qL (n : Nat) : Int64 := Int64.ofNat n
theorem qN_lt (x : Int64) : qN x < 2 ^ 64 := x.toBitVec.isLt
theorem qN_z (x : Int64) : lg_cmp x 0 = 0 ↔ qN x = 0 := by
  rw [lg_cmp_eq]
  constructor
  · rintro rfl; rfl
  · intro h
    apply Int64.toBitVec_inj.mp
    apply BitVec.eq_of_toNat_eq
    exact h
theorem qN_and (x : Int64) : x &&& (255 : Int64) = qL (qN x % 256) := by
  apply Int64.toBitVec_inj.mp
  apply BitVec.eq_of_toNat_eq
  rw [Int64.toBitVec_and, BitVec.toNat_and]
  show qN x &&& 255 = (BitVec.ofNat 64 (qN x % 256)).toNat
  rw [show (255 : Nat) = 2 ^ 8 - 1 from rfl, Nat.and_two_pow_sub_one_eq_mod, BitVec.toNat_ofNat]
  omega
theorem qN_shr (x : Int64) (s : UInt64) (k : Nat) (h : s.toNat % 64 = k) : qN ((x.toUInt64 >>> s).toInt64) = qN x / 2 ^ k := by
  show (x.toUInt64 >>> s).toNat = x.toUInt64.toNat / 2 ^ k
  rw [UInt64.toNat_shiftRight, h, Nat.shiftRight_eq_div_pow]
theorem c256_a : ∀ c, c < 256 → (lg_cmp (qL c) 33 < 0 ↔ c < 33) := by decide +kernel
theorem c256_b : ∀ c, c < 256 → (lg_cmp (qL c) 126 ≤ 0 ↔ c ≤ 126) := by decide +kernel
theorem c256_c : ∀ c, c < 256 → (qL c).toInt32 = nI c := by decide +kernel
theorem c256_d : ∀ c, c < 256 → f_X6_in (nI c) 33 126 = some (if 33 ≤ c ∧ c ≤ 126 then 1 else 0) := by decide +kernel
theorem c256_e : ∀ c, c < 127 → vp_nar .byte ((nI c).toInt8.toInt32) = nI c := by decide +kernel
theorem c256_f : ∀ c, c < 127 → vp_nar .char ((((nI c)).toUInt32 % 65536).toInt32) = nI c := by decide +kernel
theorem sh8k : ∀ k, k < 8 → (((8 : Int32) * nI k).toInt64.toUInt64 &&& Int64.toUInt64 63).toNat % 64 = 8 * k := by decide +kernel
theorem qN_i32 (x : Int64) : x.toInt32 &&& (255 : Int32) = nI (qN x % 256) := by
  apply Int32.toBitVec_inj.mp
  apply BitVec.eq_of_toNat_eq
  rw [Int32.toBitVec_and, BitVec.toNat_and]
  show (BitVec.ofInt 32 x.toInt).toNat &&& 255 = (BitVec.ofNat 32 (qN x % 256)).toNat
  rw [show (255 : Nat) = 2 ^ 8 - 1 from rfl, Nat.and_two_pow_sub_one_eq_mod, BitVec.toNat_ofNat, BitVec.toNat_ofInt]
  have h1 : x.toInt = x.toBitVec.toInt := rfl
  have h2 := BitVec.toInt_eq_toNat_bmod x.toBitVec
  have h3 : x.toBitVec.toInt = if 2 * qN x < 2 ^ 64 then (qN x : Int) else (qN x : Int) - 2 ^ 64 := BitVec.toInt_eq_toNat_cond x.toBitVec
  have h4 := qN_lt x
  rw [h1, h3]
  split <;> omega
/-- the text as both have it -/
def PR (tx pd : Nat → Int32) (tl ty : Int32) (l : Nat) : Prop := l ≤ 80 ∧ tl = nI l ∧ ty = nI l ∧ ∀ i, i < l → ∃ c, 33 ≤ c ∧ c ≤ 126 ∧ tx i = nI c ∧ pd i = nI c
def chr (x : Int64) (i : Nat) : Nat := qN x / 2 ^ (8 * i) % 256
theorem p256 (n m : Nat) : n / 2 ^ (8 * m) / 256 = n / 2 ^ (8 * (m + 1)) := by
  rw [Nat.div_div_eq_div_mul, show (256 : Nat) = 2 ^ 8 from rfl, ← Nat.pow_add, show 8 * m + 8 = 8 * (m + 1) by omega]
theorem put_scan (v : Int64) (pd : Nat → Int32) (ty : Int32) : ∀ (d m f1 f2 : Nat), m + d = 8 → d < f1 → d + 1 < f2 → ∀ x, qN x = qN v / 2 ^ (8 * m) → (∀ i, i < m → 33 ≤ chr v i ∧ chr v i ≤ 126) →
    (∃ n, m ≤ n ∧ n ≤ 8 ∧ (n = 0 → qN v = 0) ∧ (∀ i, i < n → 33 ≤ chr v i ∧ chr v i ≤ 126) ∧ lo2 f_X5_charactersIn_L4 f1 (nI m) x = some (nI n) ∧ lo3 (f_X6_put_L8 pd ty v) f2 (nI m) x 1 = f_X6_put_J49 pd ty v (nI n) 1) ∨ (lo2 f_X5_charactersIn_L4 f1 (nI m) x = some 0 ∧ lo3 (f_X6_put_L8 pd ty v) f2 (nI m) x 1 = some (-2, pd, ty)) := by
  intro d
  induction d with
  | zero =>
    intro m f1 f2 h1 h2 h3 x hx hg
    obtain ⟨g1, rfl⟩ : ∃ g, f1 = g + 1 := ⟨f1 - 1, by omega⟩
    obtain ⟨g2, rfl⟩ : ∃ g, f2 = g + 1 := ⟨f2 - 1, by omega⟩
    have hm : m = 8 := by omega
    subst hm
    have hx0 : qN x = 0 := by have := qN_lt v; rw [hx]; exact Nat.div_eq_of_lt (by omega)
    refine Or.inl ⟨8, Nat.le_refl _, Nat.le_refl _, fun h => absurd h (by decide), hg, ?_, ?_⟩
    · show f_X5_charactersIn_L4 (lo2 f_X5_charactersIn_L4 g1) (nI 8) x = _
      rw [f_X5_charactersIn_L4, if_pos (show (8 : Int32) ≤ nI 8 from by decide)]
    · show f_X6_put_L8 pd ty v (lo3 (f_X6_put_L8 pd ty v) g2) (nI 8) x 1 = _
      rw [f_X6_put_L8, if_pos ((qN_z x).mpr hx0)]
  | succ d ih =>
    intro m f1 f2 h1 h2 h3 x hx hg
    obtain ⟨g1, rfl⟩ : ∃ g, f1 = g + 1 := ⟨f1 - 1, by omega⟩
    obtain ⟨g2, rfl⟩ : ∃ g, f2 = g + 2 := ⟨f2 - 2, by omega⟩
    have hh1 : lo2 f_X5_charactersIn_L4 (g1 + 1) (nI m) x = f_X5_charactersIn_L4 (lo2 f_X5_charactersIn_L4 g1) (nI m) x := rfl
    have hh2 : lo3 (f_X6_put_L8 pd ty v) (g2 + 2) (nI m) x 1 = f_X6_put_L8 pd ty v (lo3 (f_X6_put_L8 pd ty v) (g2 + 1)) (nI m) x 1 := rfl
    rw [hh1, hh2, f_X5_charactersIn_L4, f_X6_put_L8, if_neg (show ¬ (8 : Int32) ≤ nI m from nle (a := 8) (by decide) (by omega) (by omega))]
    rcases Nat.decEq (qN x) 0 with hx0 | hx0
    · have hc : qN x % 256 = chr v m := by rw [hx]; rfl
      have hlt : chr v m < 256 := Nat.mod_lt _ (by decide)
      have hsh : qN ((x.toUInt64 >>> ((8 : Int32).toInt64.toUInt64 &&& Int64.toUInt64 63)).toInt64) = qN v / 2 ^ (8 * (m + 1)) := by
        rw [qN_shr x _ 8 (by decide), hx, show (2 : Nat) ^ 8 = 256 from rfl, p256]
      rw [if_neg (fun q => hx0 ((qN_z x).mp q)), if_neg (fun q => hx0 ((qN_z x).mp q)), if_neg one_ne, lt_r, qN_and, hc, c256_c _ hlt, ob1_r (c256_d _ hlt), lt_r, nI_1]
      rcases Decidable.em (33 ≤ chr v m ∧ chr v m ≤ 126) with u | u
      · rw [if_neg (fun q => by have := (c256_a _ hlt).mp q; omega), if_pos ((c256_b _ hlt).mpr u.2), if_pos u, lt_r, lt_r]
        have hg' : ∀ i, i < m + 1 → 33 ≤ chr v i ∧ chr v i ≤ 126 := fun i hi => by
          rcases Nat.decEq i m with e | e
          · exact hg i (by omega)
          · rw [e]; exact u
        rcases ih (m + 1) g1 (g2 + 1) (by omega) (by omega) (by omega) _ hsh hg' with ⟨n, i1, i2, i3, i4, i5, i6⟩ | ⟨i5, i6⟩
        · exact Or.inl ⟨n, by omega, i2, i3, i4, i5, i6⟩
        · exact Or.inr ⟨i5, i6⟩
      · refine Or.inr ⟨?_, ?_⟩
        · rcases Nat.lt_or_ge (chr v m) 33 with w | w
          · rw [if_pos ((c256_a _ hlt).mpr w)]
          · rw [if_neg (fun q => by have := (c256_a _ hlt).mp q; omega), if_neg (fun q => u ⟨w, (c256_b _ hlt).mp q⟩)]
        · rw [if_neg u]
          have hJ : f_X6_put_J49 pd ty v (nI (m + 1)) 0 = some (-2, pd, ty) := by
            rw [f_X6_put_J49, if_neg (fun q => by have := (i_eq (b := 0) (by omega) (by decide)).mp q; omega), if_pos rfl]
          show f_X6_put_L8 pd ty v (lo3 (f_X6_put_L8 pd ty v) g2) (nI (m + 1)) _ 0 = _
          rw [f_X6_put_L8, hJ]
          split
          · rfl
          · rw [if_pos rfl]
    · rw [if_pos ((qN_z x).mpr hx0), if_pos ((qN_z x).mpr hx0)]
      refine Or.inl ⟨m, Nat.le_refl _, by omega, fun h => ?_, hg, rfl, rfl⟩
      subst h
      rw [hx] at hx0
      rw [← hx0, Nat.mul_zero, Nat.pow_zero, Nat.div_one]
theorem put_write (v : Int64) : ∀ (n f1 f2 : Nat), n ≤ 8 → n < f1 → n < f2 → (∀ i, i < n → 33 ≤ chr v i ∧ chr v i ≤ 126) → ∀ (tx pd : Nat → Int32) (tl ty : Int32) (l : Nat), PR tx pd tl ty l → l + n ≤ 80 →
    ∃ tx' pd', lo3 (f_X5_put_L34 v) f1 (nI n - 1) tx tl = some (nI (l + n), tx', nI (l + n)) ∧ lo3 (f_X6_put_L80 v) f2 (nI n - 1) pd ty = some (nI (l + n), pd', nI (l + n)) ∧ PR tx' pd' (nI (l + n)) (nI (l + n)) (l + n)
  | 0, f1, f2, _, h1, h2, _, tx, pd, tl, ty, l, hP, _ => by
    obtain ⟨g1, rfl⟩ : ∃ g, f1 = g + 1 := ⟨f1 - 1, by omega⟩
    obtain ⟨g2, rfl⟩ : ∃ g, f2 = g + 1 := ⟨f2 - 1, by omega⟩
    obtain ⟨p1, rfl, rfl, p4⟩ := hP
    refine ⟨tx, pd, ?_, ?_, p1, rfl, rfl, p4⟩
    · show f_X5_put_L34 v (lo3 (f_X5_put_L34 v) g1) (nI 0 - 1) tx (nI l) = _
      rw [f_X5_put_L34, if_pos (show nI 0 - 1 < (0 : Int32) from by decide)]
      rfl
    · show f_X6_put_L80 v (lo3 (f_X6_put_L80 v) g2) (nI 0 - 1) pd (nI l) = _
      rw [f_X6_put_L80, if_pos (show nI 0 - 1 < (0 : Int32) from by decide)]
      rfl
  | n + 1, f1, f2, h8, h1, h2, hg, tx, pd, tl, ty, l, hP, hl => by
    obtain ⟨g1, rfl⟩ : ∃ g, f1 = g + 1 := ⟨f1 - 1, by omega⟩
    obtain ⟨g2, rfl⟩ : ∃ g, f2 = g + 1 := ⟨f2 - 1, by omega⟩
    obtain ⟨p1, rfl, rfl, p4⟩ := hP
    obtain ⟨u1, u2⟩ := hg n (Nat.lt_succ_self n)
    have e1 : nI (n + 1) - (1 : Int32) = nI n := pk_sub (a := n + 1) (b := 1) (by omega)
    have em : nI n + (-1 : Int32) = nI n - 1 := (Int32.sub_eq_add_neg (nI n) 1).symm
    have hs : ∀ y : Int64, y = (v.toUInt64 >>> (((8 : Int32) * nI n).toInt64.toUInt64 &&& Int64.toUInt64 63)).toInt64 → qN y % 256 = chr v n := fun y hy => by
      rw [hy, qN_shr v _ (8 * n) (sh8k n (by omega))]
      rfl
    have hlt : chr v n < 256 := by omega
    have hP' : PR (upd tx l (nI (chr v n))) (upd pd l (nI (chr v n))) (nI (l + 1)) (nI (l + 1)) (l + 1) := ⟨by omega, rfl, rfl, fun i hi => by
      rcases Nat.decEq i l with e | e
      · rw [pk_un e, pk_un e]; exact p4 i (by omega)
      · rw [e, pk_us, pk_us]; exact ⟨chr v n, u1, u2, rfl, rfl⟩⟩
    obtain ⟨tx', pd', i1, i2, i3⟩ := put_write v n g1 g2 (by omega) (by omega) (by omega) (fun i hi => hg i (by omega)) _ _ _ _ _ hP' (by omega)
    rw [show l + 1 + n = l + (n + 1) by omega] at i1 i2 i3
    refine ⟨tx', pd', ?_, ?_, i3⟩
    · show f_X5_put_L34 v (lo3 (f_X5_put_L34 v) g1) (nI (n + 1) - 1) tx (nI l) = _
      rw [f_X5_put_L34, e1, if_neg (nI_pos (by omega)), qN_i32, hs _ rfl, f_X3_append, if_neg (show ¬ (80 : Int32) ≤ nI l from nle (a := 80) (by decide) (by omega) (by omega)), gd_r (vp_in_nI (n := l) (by omega) (by decide)), lt_r, lt_r, ob2_r rfl, i_cl (by omega), c256_e _ (by omega), nI_1, em]
      exact i1
    · show f_X6_put_L80 v (lo3 (f_X6_put_L80 v) g2) (nI (n + 1) - 1) pd (nI l) = _
      rw [f_X6_put_L80, e1, if_neg (nI_pos (by omega)), gd_r (vp_in_nI (n := l) (by omega) (by decide)), qN_and, hs _ rfl, c256_c _ hlt, c256_f _ (by omega), lt_r, lt_r, i_cl (by omega), nI_1, em]
      exact i2
theorem put_ok {tx pd : Nat → Int32} {tl ty : Int32} {l : Nat} (hP : PR tx pd tl ty l) (v : Int64) : ∃ r tx' pd' tl' ty' l', f_X5_put tx tl v = some (r, tx', tl') ∧ f_X6_put pd ty v = some (r, pd', ty') ∧ PR tx' pd' tl' ty' l' := by
  unfold f_X5_put f_X6_put f_X5_charactersIn
  have h8 := fu_big
  rcases put_scan v pd ty 8 0 FU FU rfl (by omega) (by omega) v (by rw [Nat.mul_zero, Nat.pow_zero, Nat.div_one]) (fun i h => absurd h (Nat.not_lt_zero i)) with ⟨n, _, i2, i3, i4, i5, i6⟩ | ⟨i5, i6⟩
  · rw [show lo2 f_X5_charactersIn_L4 FU 0 v = _ from i5, ob1_r rfl, show lo3 (f_X6_put_L8 pd ty v) FU 0 v 1 = _ from i6, f_X6_put_J49]
    rcases Nat.eq_zero_or_pos n with e | e
    · subst e
      rw [if_pos (show nI 0 = (0 : Int32) from rfl), if_pos (show nI 0 = (0 : Int32) from rfl)]
      exact ⟨_, _, _, _, _, l, rfl, rfl, hP⟩
    · have hn : ¬ nI n = (0 : Int32) := fun q => by have := (i_eq (b := 0) (by omega) (by decide)).mp q; omega
      have hl80 := hP.1
      have hadd : tl + nI n = nI (l + n) := by rw [hP.2.1, nI_add]
      have hadd2 : ty + nI n = nI (l + n) := by rw [hP.2.2.1, nI_add]
      rw [if_neg hn, if_neg hn, if_neg one_ne, hadd, hadd2]
      rcases Nat.lt_or_ge 80 (l + n) with u | u
      · have hno : ¬ nI (l + n) ≤ (80 : Int32) := nle (c := 80) (by omega) (by decide) u
        rw [if_neg hno, if_neg hno]
        exact ⟨_, _, _, _, _, l, rfl, rfl, hP⟩
      · have hyes : nI (l + n) ≤ (80 : Int32) := nI_le (b := 80) u (by decide)
        rw [if_pos hyes, if_pos hyes, lt_r, lt_r]
        obtain ⟨tx', pd', w1, w2, w3⟩ := put_write v n FU FU i2 (by omega) (by omega) i4 tx pd tl ty l hP u
        exact ⟨_, _, _, _, _, _, w1, w2, w3⟩
  · rw [show lo2 f_X5_charactersIn_L4 FU 0 v = _ from i5, ob1_r rfl, show lo3 (f_X6_put_L8 pd ty v) FU 0 v 1 = _ from i6, if_pos rfl]
    exact ⟨_, _, _, _, _, l, rfl, rfl, hP⟩
theorem wipe_ok {tx pd : Nat → Int32} {tl ty : Int32} {l : Nat} (hP : PR tx pd tl ty l) : ∃ r, f_X5_wipe tl = some (r, 0) ∧ f_X6_wipe ty = some (r, 0) ∧ PR tx pd 0 0 0 := by
  unfold f_X5_wipe f_X6_wipe
  exact ⟨nI l, by rw [hP.2.1], by rw [hP.2.2.1], Nat.zero_le _, rfl, rfl, fun i h => absurd h (Nat.not_lt_zero i)⟩
