/-! ===== carryOut alike ===== -/
section
variable {pl : Int32} {ys cy oy ns cn on : Nat → Int32} {yr nr rd : Int32} {tx : Nat → Int32} {ad : AdT} {len : Int32} {st : Nat → StT}
noncomputable def cL (pl : Int32) (ys cy oy : Nat → Int32) (yr : Int32) (ns cn on : Nat → Int32) (nr rd : Int32) (tx : Nat → Int32) (l : Nat) (ad : AdT) (len : Int32) (st : Nat → StT) := f_X5_carryOut_L30 pl ys cy oy yr ns cn on nr rd tx (nI l) ad len st
/-- the end of the class' loop -/
noncomputable def cE (pl : Int32) (ys cy oy : Nat → Int32) (yr : Int32) (ns cn on : Nat → Int32) (nr rd : Int32) (ad : AdT) (len : Int32) (st : Nat → StT) (v to : Int32) (ks os cs : Nat → Int32) : Option (Int32 × Int32 × (Nat → Int32) × (Nat → Int32) × (Nat → Int32) × (Nat → Int32) × (Nat → Int32) × (Nat → Int32) × Int32 × (Nat → Int32) × (Nat → Int32) × (Nat → Int32) × Int32 × Int32 × (Nat → Nat × Nat × Nat × Nat) × Int32 × (Nat → Int32 × Int32 × (Nat → Int32) × (Nat → Int32) × (Nat → Int32)) × Int32) :=
  ob9 (f_X2_makeFrom ys cy oy yr ns cn on nr rd pl to ks os cs) (fun a1 a2 a3 a4 a5 a6 a7 a8 a9 => some (v, to, ks, os, cs, a1, a2, a3, a4, a5, a6, a7, a8, a9, ad, len, st, (0 : Int32)))
theorem begins_no {t : Nat → Nat} {l : Nat} (h : TX t l tx) {p : Nat} (hp : 0 < p) (hpl : p < l) (hn : t (p - 1) ≠ 59) : f_X3_beginsOrder tx (nI l) (nI p) = some 0 := by
  have h80 := h.1
  have hc := (h.2 (p - 1) (by omega)).2.1
  unfold f_X3_beginsOrder
  rw [show nI p - (1 : Int32) = nI (p - 1) from pk_sub (b := 1) hp, ob1_r (at_ok h (by omega)), show tt t l (p - 1) = t (p - 1) from if_pos (by omega), if_neg (show ¬ nI (t (p - 1)) = (59 : Int32) from fun q => hn ((i_eq (b := 59) (by omega) (by decide)).mp q))]
theorem begins_yes {t : Nat → Nat} {l : Nat} (h : TX t l tx) {p : Nat} (hpl : p < l) (hn : p = 0 ∨ t (p - 1) = 59) : f_X3_beginsOrder tx (nI l) (nI p) = some 1 := by
  have h80 := h.1
  unfold f_X3_beginsOrder
  rcases Nat.eq_zero_or_pos p with u | u
  · subst u
    have : f_X3_at tx (nI l) (nI 0 - 1) = some 59 := by
      unfold f_X3_at
      rw [if_pos (show nI 0 - 1 < (0 : Int32) from by decide)]
    rw [ob1_r this, if_pos rfl]
  · have hn' := hn.resolve_left (by omega)
    rw [show nI p - (1 : Int32) = nI (p - 1) from pk_sub (b := 1) u, ob1_r (at_ok h (by omega)), show tt t l (p - 1) = t (p - 1) from if_pos (by omega), hn', if_pos (show nI 59 = (59 : Int32) from rfl)]
theorem skip_ok {t : Nat → Nat} {l : Nat} (h : TX t l tx) {v to : Int32} {ks os cs : Nat → Int32} : ∀ (d p fuel : Nat), 0 < p → p + d ≤ l → d ≤ fuel → (∀ r, p ≤ r → r < p + d → t (r - 1) ≠ 59) → lo6 (f_X5_carryOut_L30 pl ys cy oy yr ns cn on nr rd tx (nI l) ad len st) fuel v (nI p) to ks os cs = lo6 (f_X5_carryOut_L30 pl ys cy oy yr ns cn on nr rd tx (nI l) ad len st) (fuel - d) v (nI (p + d)) to ks os cs
  | 0, p, fuel, _, _, _, _ => rfl
  | d + 1, p, fuel, hp, hl, hf, hn => by
    have h80 := h.1
    obtain ⟨f, rfl⟩ : ∃ f, fuel = f + 1 := ⟨fuel - 1, by omega⟩
    have hhead : lo6 (f_X5_carryOut_L30 pl ys cy oy yr ns cn on nr rd tx (nI l) ad len st) (f + 1) v (nI p) to ks os cs = f_X5_carryOut_L30 pl ys cy oy yr ns cn on nr rd tx (nI l) ad len st (lo6 (f_X5_carryOut_L30 pl ys cy oy yr ns cn on nr rd tx (nI l) ad len st) f) v (nI p) to ks os cs := rfl
    rw [hhead, f_X5_carryOut_L30, if_neg (nle (by omega) (by omega) (show p < l by omega)), ob1_r (begins_no h hp (by omega) (hn p (Nat.le_refl _) (by omega))), if_pos rfl, nI_1, skip_ok h d (p + 1) f (by omega) (by omega) (by omega) (fun r h1 h2 => hn r (by omega) (by omega)), show f - d = f + 1 - (d + 1) by omega, show p + 1 + d = p + (d + 1) by omega]
theorem scan_ok {t : Nat → Nat} {l : Nat} (h : TX t l tx) {ords : Nat → Int32} {N sp bd : Int32} {past : Nat → Int32} {pm : Int32} : ∀ (m i s : Nat), CH t l ords m i s → N = nI (i + m) → i + m ≤ 30 → (s = 0 ∨ t (s - 1) = 59) → ∀ (a : Sh) (to : Int32) (ks os cs z : Nat → Int32), FR a pl to ks os cs z → ∀ (f1 f2 : Nat), l < f1 + s → m < f2 →
    ∃ n' to' ks' os' cs' z' a', lo6 (f_X5_carryOut_L30 pl ys cy oy yr ns cn on nr rd tx (nI l) ad len st) f1 (nI i) (nI s) to ks os cs = cE pl ys cy oy yr ns cn on nr rd ad len st n' to' ks' os' cs' ∧ lo2 (f_X6_carryOut_L18 ords N sp bd past pm) f2 (nI i) z = some (n', z', past, pm, 0, ords, N, sp, bd) ∧ FR a' pl to' ks' os' cs' z'
  | 0, _, _, hCH, _, _, _, _, _, _, _, _, _, _, _, _, _, _ => hCH.elim
  | m + 1, i, s, hCH, hN, h30, hb, a, to, ks, os, cs, z, hFR, f1, f2, hf1, hf2 => by
    have h80 := h.1
    obtain ⟨e, hE, hO, hnext⟩ := hCH
    have hE2 : (oE t l s).2 = true := by rw [hE]
    obtain ⟨o1, o2, o3, o4⟩ := oE_t hE2
    have he1 : (oE t l s).1 = e := by rw [hE]
    rw [he1] at o2 o3 o4
    have he : e = l ∨ t e = 59 := by
      rcases hnext with ⟨_, q⟩ | ⟨_, q, _⟩
      · exact Or.inl q
      · exact Or.inr q
    obtain ⟨f, rfl⟩ : ∃ f, f1 = f + 1 := ⟨f1 - 1, by omega⟩
    obtain ⟨g, rfl⟩ : ∃ g, f2 = g + 1 := ⟨f2 - 1, by omega⟩
    have hhead : lo6 (f_X5_carryOut_L30 pl ys cy oy yr ns cn on nr rd tx (nI l) ad len st) (f + 1) (nI i) (nI s) to ks os cs = f_X5_carryOut_L30 pl ys cy oy yr ns cn on nr rd tx (nI l) ad len st (lo6 (f_X5_carryOut_L30 pl ys cy oy yr ns cn on nr rd tx (nI l) ad len st) f) (nI i) (nI s) to ks os cs := rfl
    have hhead2 : lo2 (f_X6_carryOut_L18 ords N sp bd past pm) (g + 1) (nI i) z = f_X6_carryOut_L18 ords N sp bd past pm (lo2 (f_X6_carryOut_L18 ords N sp bd past pm) g) (nI i) z := rfl
    rw [hhead, hhead2, f_X5_carryOut_L30, f_X6_carryOut_L18, if_neg (nle (by omega) (by omega) o1), if_neg (show ¬ N ≤ nI i from by rw [hN]; exact nle (by omega) (by omega) (by omega)), ob1_r (begins_yes h o1 hb), if_neg one_ne]
    rcases exec_ok hFR h (k := i) (by omega) hE hO he with ⟨to', ks', os', cs', z', a', x1, x2, x3⟩ | ⟨x1, x2⟩
    · rw [ob5_r x1, ob2_r x2, if_neg one_ne, if_neg one_ne, lt_r, nI_1, nI_1]
      rcases hnext with ⟨rfl, q⟩ | ⟨q1, q2, q3⟩
      · subst q
        have hsk := skip_ok (pl := pl) (ys := ys) (cy := cy) (oy := oy) (yr := yr) (ns := ns) (cn := cn) (on := on) (nr := nr) (rd := rd) (ad := ad) (len := len) (st := st) (v := nI (i + 1)) (to := to') (ks := ks') (os := os') (cs := cs') h (e - (s + 1)) (s + 1) f (by omega) (by omega) (by omega) (fun r h1 h2 => o4 (r - 1) (by omega) (by omega))
        rw [hsk, show s + 1 + (e - (s + 1)) = e by omega]
        obtain ⟨f', hf'⟩ : ∃ f', f - (e - (s + 1)) = f' + 1 := ⟨f - (e - (s + 1)) - 1, by omega⟩
        obtain ⟨g', hg'⟩ : ∃ g', g = g' + 1 := ⟨g - 1, by omega⟩
        rw [hf', hg']
        refine ⟨nI (i + 1), to', ks', os', cs', z', a', ?_, ?_, x3⟩
        · show f_X5_carryOut_L30 pl ys cy oy yr ns cn on nr rd tx (nI e) ad len st _ (nI (i + 1)) (nI e) to' ks' os' cs' = _
          rw [f_X5_carryOut_L30, if_pos (nI_le (Nat.le_refl _) (by omega))]
          rfl
        · show f_X6_carryOut_L18 ords N sp bd past pm _ (nI (i + 1)) z' = _
          rw [f_X6_carryOut_L18, if_pos (show N ≤ nI (i + 1) from by rw [hN]; exact nI_le (by omega) (by omega))]
      · have hsk := skip_ok (pl := pl) (ys := ys) (cy := cy) (oy := oy) (yr := yr) (ns := ns) (cn := cn) (on := on) (nr := nr) (rd := rd) (ad := ad) (len := len) (st := st) (v := nI (i + 1)) (to := to') (ks := ks') (os := os') (cs := cs') h (e + 1 - (s + 1)) (s + 1) f (by omega) (by omega) (by omega) (fun r h1 h2 => o4 (r - 1) (by omega) (by omega))
        rw [hsk, show s + 1 + (e + 1 - (s + 1)) = e + 1 by omega]
        exact scan_ok h m (i + 1) (e + 1) q3 (by rw [hN]; congr 1; omega) (by omega) (Or.inr q2) a' to' ks' os' cs' z' x3 _ g (by omega) (by omega)
    · rw [ob5_r x1, ob2_r x2, if_pos rfl, if_pos rfl]
      exact ⟨nI i, to, ks, os, cs, z, a, rfl, rfl, hFR⟩
end
section
variable {a : Sh} {m : Nat} {L : Nat → Sh} {pl to : Int32} {ks os cs ys cy oy ns cn on : Nat → Int32} {rd len : Int32} {st : Nat → StT} {z past : Nat → Int32} {pm : Int32}
theorem CH_len {t : Nat → Nat} {l : Nat} {o : Nat → Int32} : ∀ (m k s : Nat), CH t l o m k s → s + 3 * m ≤ l + 1
  | 0, _, _, h => h.elim
  | m + 1, k, s, h => by
    obtain ⟨e, hE, _, hn⟩ := h
    obtain ⟨o1, o2, o3, _⟩ := oE_t (show (oE t l s).2 = true by rw [hE])
    rw [show (oE t l s).1 = e by rw [hE]] at o2 o3
    rcases hn with ⟨rfl, _⟩ | ⟨_, _, h2⟩
    · omega
    · have := CH_len m (k + 1) (e + 1) h2
      omega
theorem cf_le (t : Nat → Nat) : ∀ (d st i b : Nat), cf t d st i = some b → b ≤ i + d
  | 0, st, i, b, h => by
    unfold cf at h
    split at h
    · cases h
    · split at h
      · cases h
      · cases h; omega
  | d + 1, st, i, b, h => by
    unfold cf at h
    split at h
    · cases h; omega
    · have := cf_le t d _ (i + 1) b h
      omega
theorem carryOut_ok (H : CHG a m L pl to ks os cs ys cy oy ns cn on rd len st z past pm) {tx pd : Nat → Int32} {tl ty : Int32} {l : Nat} (hP : PR tx pd tl ty l) (yr nr : Int32) (ad : AdT) (ords : Nat → Int32) (a1 a2 a3 : Int32) :
    ∃ r to' ks' os' cs' ys' cy' oy' yr' ns' cn' on' nr' rd' ad' len' st' tl' z' past' pm' ty' d1 d2 d3 d4 a' m' L' l', f_X5_carryOut pl to ks os cs ys cy oy yr ns cn on nr rd ad len st tx tl = some (r, to', ks', os', cs', ys', cy', oy', yr', ns', cn', on', nr', rd', ad', len', st', tl') ∧ f_X6_carryOut z past pm pd ty ords a1 a2 a3 = some (r, z', past', pm', ty', d1, d2, d3, d4) ∧ CHG a' m' L' pl to' ks' os' cs' ys' cy' oy' ns' cn' on' rd' len' st' z' past' pm' ∧ PR tx pd tl' ty' l' := by
  have H0 := H
  obtain ⟨hFR, hm, hh⟩ := H
  have hFR0 := hFR
  obtain ⟨hw, h40, hf, hz⟩ := hFR
  have hP0 := hP
  obtain ⟨t, h1, h2, rfl, rfl⟩ := hP.tx
  have h80 := h1.1
  obtain ⟨o', n, sp, g1, g2⟩ := readPad_ok h2 ords a1 a2 a3
  unfold f_X5_carryOut f_X6_carryOut
  rw [ob1_r (firstFault_ok h1), ob5_r g1]
  cases e : cf t l 0 0 with
  | some b =>
    have hb : ¬ gF (some b) = (-6 : Int32) := by
      have hlt : b < 1000 := by
        have := cf_le t l 0 0 b e
        omega
      exact ne6 hlt
    rw [if_neg hb, if_neg hb]
    exact ⟨_, _, _, _, _, _, _, _, _, _, _, _, _, _, _, _, _, _, _, _, _, _, _, _, _, _, a, m, L, l, rfl, rfl, H0, hP0⟩
  | none =>
    obtain ⟨n1, hCH⟩ := g2 e
    have hlen := CH_len n 0 0 hCH
    obtain ⟨ad', len', st', past', pm', r1, r2, r3⟩ := record_ok hw h40 hh hf hz ad
    rw [if_pos (show gF none = (-6 : Int32) from rfl), if_pos (show gF none = (-6 : Int32) from rfl), ob3_r r1, ob2_r r2]
    obtain ⟨n', to', ks', os', cs', z', a', x1, x2, x3⟩ := scan_ok (pl := pl) (ys := ys) (cy := cy) (oy := oy) (yr := yr) (ns := ns) (cn := cn) (on := on) (nr := nr) (rd := rd) (ad := ad') (len := len') (st := st') (N := nI n) (sp := sp) (bd := gF none) (past := past') (pm := pm') h1 n 0 0 hCH (by rw [Nat.zero_add]) (by omega) (Or.inl rfl) a to ks os cs z hFR0 FU FU (by have := fu_big; omega) (by have := fu_big; omega)
    obtain ⟨_, _, hy, hcn⟩ := hm.y
    obtain ⟨ys', cy', oy', yr', ns', cn', on', nr', rd', m1, m2⟩ := makeFrom_ok x3.1 x3.2.2.1 hy hcn ys oy ns on yr nr rd
    have x1' : lo6 (f_X5_carryOut_L30 pl ys cy oy yr ns cn on nr rd tx (nI l) ad' len' st') FU 0 0 to ks os cs = some (n', to', ks', os', cs', ys', cy', oy', yr', ns', cn', on', nr', rd', ad', len', st', 0) := by
      refine Eq.trans x1 ?_
      unfold cE
      rw [ob9_r m1]
    rw [x1', show lo2 (f_X6_carryOut_L18 o' (nI n) sp (gF none) past' pm') FU 0 z = _ from x2]
    exact ⟨_, _, _, _, _, _, _, _, _, _, _, _, _, _, _, _, _, _, _, _, _, _, _, _, _, _, a', hisN m, hisL m L a, 0, rfl, rfl, ⟨x3, m2, r3⟩, Nat.zero_le _, rfl, rfl, fun i h => absurd h (Nat.not_lt_zero i)⟩
end
