/-! ===== a sheet that is broken; going on from marks is as good as making them anew ===== -/
def brk (a : Sh) (Y N : Mk) : Prop := (∃ o c, o < 6 ∧ c < 18 ∧ own a o ∧ Y o c = true ∧ N o c = true) ∨ (∃ o κ, own a o ∧ κ < 3 ∧ (hs a o < fb_ct (fun c => Y o c && hin o κ c) 18 ∨ fb_ct (fun c => hin o κ c && !N o c) 18 < hs a o)) ∨ (∃ c, c < 18 ∧ ∀ o, own a o → N o c = true) ∨ (∃ j, j < sn a ∧ kd a j = 2 ∧ ∀ c, c < 18 → inF a j c = true → N (ow a j) c = true) ∨ (∃ j, j < sn a ∧ kd a j = 3 ∧ ∀ c, c < 18 → inF a j c = true → Y (ow a j) c = true)
def sub (Y Y' : Mk) : Prop := ∀ o c, o < 6 → c < 18 → Y o c = true → Y' o c = true
def le (a a' : Sh) : Prop := sp a = sp a' ∧ ∀ j, j < sn a → ∃ j', j' < sn a' ∧ a.2.2 j = a'.2.2 j'
theorem le.rf (a : Sh) : le a a := ⟨rfl, fun j h => ⟨j, h, rfl⟩⟩
theorem le_own {a a' : Sh} (h : le a a') (o : Nat) : own a o ↔ own a' o := by unfold own; rw [h.1]
theorem le_hs {a a' : Sh} (h : le a a') (o : Nat) : hs a o = hs a' o := by unfold hs size; rw [h.1]
theorem le_inF {a a' : Sh} {j j' : Nat} (e : a.2.2 j = a'.2.2 j') (c : Nat) : inF a j c = inF a' j' c := by unfold inF; rw [show kd a j = kd a' j' from congrArg (·.1) e, show ca a j = ca a' j' from congrArg (·.2.2.1) e, show cb a j = cb a' j' from congrArg (·.2.2.2.1) e, show cc a j = cc a' j' from congrArg (·.2.2.2.2) e]
theorem app_iff {σ : Gh} {M : Mk} {r : Nat} {P : Nat → Nat → Prop} (hr : r ≠ 0) (o c : Nat) : app σ M r P o c ≠ 0 ↔ σ o c ≠ 0 ∨ (M o c = false ∧ P o c) := by
  rcases Classical.em (σ o c = 0 ∧ M o c = false ∧ P o c) with h | h
  · rw [show app σ M r P o c = r from ifp_t h]
    exact ⟨fun _ => Or.inr h.2, fun _ => hr⟩
  · rw [show app σ M r P o c = σ o c from ifp_f h]
    constructor
    · exact Or.inl
    · rintro (q | q)
      · exact q
      · exact fun z => h ⟨z, q⟩
def ruY (a : Sh) (N : Mk) (o c : Nat) : Prop := r1y a 0 o c ∨ s3 a N o c ∨ s5 a N o c ∨ sT a 2 N o c
def ruN (a : Sh) (Y : Mk) (o c : Nat) : Prop := r1n a 0 o c ∨ s2 a Y o c ∨ s4 a Y o c ∨ sT a 3 Y o c
theorem gY_iff {a : Sh} {Y N : Mk} (o c : Nat) : gY a Y N o c ≠ 0 ↔ Y o c = false ∧ ruY a N o c := by
  unfold gY
  rw [app_iff (by decide), app_iff (by decide), app_iff (by decide), app_iff (by decide)]
  unfold ruY
  have : ¬ (g0 o c ≠ 0) := fun h => h rfl
  constructor
  · rintro (((h | h) | h) | h)
    · rcases h with h | h
      · exact absurd h this
      · exact ⟨h.1, Or.inl h.2⟩
    · exact ⟨h.1, Or.inr (Or.inl h.2)⟩
    · exact ⟨h.1, Or.inr (Or.inr (Or.inl h.2))⟩
    · exact ⟨h.1, Or.inr (Or.inr (Or.inr h.2))⟩
  · rintro ⟨h, q | q | q | q⟩
    · exact Or.inl (Or.inl (Or.inl (Or.inr ⟨h, q⟩)))
    · exact Or.inl (Or.inl (Or.inr ⟨h, q⟩))
    · exact Or.inl (Or.inr ⟨h, q⟩)
    · exact Or.inr ⟨h, q⟩
theorem gN_iff {a : Sh} {Y N : Mk} (o c : Nat) : gN a Y N o c ≠ 0 ↔ N o c = false ∧ ruN a Y o c := by
  unfold gN
  rw [app_iff (by decide), app_iff (by decide), app_iff (by decide), app_iff (by decide)]
  unfold ruN
  have : ¬ (g0 o c ≠ 0) := fun h => h rfl
  constructor
  · rintro (((h | h) | h) | h)
    · rcases h with h | h
      · exact absurd h this
      · exact ⟨h.1, Or.inl h.2⟩
    · exact ⟨h.1, Or.inr (Or.inl h.2)⟩
    · exact ⟨h.1, Or.inr (Or.inr (Or.inl h.2))⟩
    · exact ⟨h.1, Or.inr (Or.inr (Or.inr h.2))⟩
  · rintro ⟨h, q | q | q | q⟩
    · exact Or.inl (Or.inl (Or.inl (Or.inr ⟨h, q⟩)))
    · exact Or.inl (Or.inl (Or.inr ⟨h, q⟩))
    · exact Or.inl (Or.inr ⟨h, q⟩)
    · exact Or.inr ⟨h, q⟩
theorem own6' {a : Sh} (hp : sp a ≤ 5) {o : Nat} (h : own a o) : o < 6 := by rcases h with h | h <;> omega
/-- what follows in a part of the marks follows in all of them, if they aren't broken -/
theorem ru_up {a a' : Sh} (hw' : WF a') (hl : le a a') (hw : WF a) {Y N Y' N' : Mk} (hY : sub Y Y') (hN : sub N N') (hb : ¬ brk a' Y' N') {o c : Nat} (ho : o < 6) (hc : c < 18) : (ruY a N o c → Y' o c = true ∨ ruY a' N' o c) ∧ (ruN a Y o c → N' o c = true ∨ ruN a' Y' o c) := by
  have hp := hw'.2.1
  constructor
  · rintro (⟨j, _, hj, k0, e1, e2⟩ | ⟨w, h1, h2⟩ | ⟨w, κ, hκ, h1, h2, h3⟩ | ⟨j, hj, k2, e1, h1, h2, h3⟩)
    · obtain ⟨j', hj', e⟩ := hl.2 j hj
      exact Or.inr (Or.inl ⟨j', Nat.zero_le _, hj', by rw [← k0]; exact (congrArg (·.1) e).symm, by rw [← e1]; exact (congrArg (·.2.1) e).symm, by rw [e2]; exact congrArg (·.2.2.1) e⟩)
    · have w' := (le_own hl o).mp w
      refine Or.inr (Or.inr (Or.inl ⟨w', ?_, fun o' ho' hne hw2 => hN o' c ho' hc (h2 o' ho' hne ((le_own hl o').mpr hw2))⟩))
      cases e : N' o c
      · rfl
      · refine absurd (Or.inr (Or.inr (Or.inl ⟨c, hc, fun o' hw2 => ?_⟩))) hb
        rcases Nat.decEq o' o with q | q
        · exact hN o' c (own6' hp hw2) hc (h2 o' (own6' hp hw2) q ((le_own hl o').mpr hw2))
        · rw [q]; exact e
    · have w' := (le_own hl o).mp w
      have hle : fb_ct (fun c => hin o κ c && !N' o c) 18 ≤ fb_ct (fun c => hin o κ c && !N o c) 18 := fb_ct_sub fun c' hc' q => by
        rw [Bool.and_eq_true, Bool.not_eq_true'] at q ⊢
        refine ⟨q.1, ?_⟩
        cases e : N o c'
        · rfl
        · rw [hN o c' ho hc' e] at q
          exact Bool.noConfusion q.2
      cases e : N' o c
      · exact Or.inr (Or.inr (Or.inr (Or.inl ⟨w', κ, hκ, h1, by rw [← le_hs hl]; omega, e⟩)))
      · refine absurd (Or.inr (Or.inl ⟨o, κ, w', hκ, Or.inr ?_⟩)) hb
        have := ct_lt (p := fun c => hin o κ c && !N' o c) (q := fun c => hin o κ c && !N o c) (n := 18) (fun c' hc' q => by
          rw [Bool.and_eq_true, Bool.not_eq_true'] at q ⊢
          refine ⟨q.1, ?_⟩
          cases e : N o c'
          · rfl
          · rw [hN o c' ho hc' e] at q
            exact Bool.noConfusion q.2) ⟨c, hc, by rw [e]; simp, by rw [h1, h3]; rfl⟩
        rw [← le_hs hl]
        omega
    · obtain ⟨j', hj', e⟩ := hl.2 j hj
      have ek : kd a' j' = 2 := by rw [← k2]; exact (congrArg (·.1) e).symm
      have eo : ow a' j' = o := by rw [e1]; exact (congrArg (·.2.1) e).symm
      have ho2 : ow a j = ow a' j' := congrArg (·.2.1) e
      have h3' := ct_three hw hj (by omega)
      have hsp := ct_split (fun c => inF a j c) (fun c => N (ow a j) c) 18
      have h3'' := ct_three hw' hj' (by omega)
      have hsp' := ct_split (fun c => inF a' j' c) (fun c => N' (ow a' j') c) 18
      have hmono : fb_ct (fun c => inF a j c && N (ow a j) c) 18 ≤ fb_ct (fun c => inF a' j' c && N' (ow a' j') c) 18 := fb_ct_sub fun c' hc' q => by
        rw [Bool.and_eq_true] at q ⊢
        exact ⟨by rw [← le_inF e]; exact q.1, by rw [← ho2]; exact hN _ c' (ow6 hw hj) hc' q.2⟩
      cases e4 : N' (ow a' j') c
      · refine Or.inr (Or.inr (Or.inr (Or.inr ⟨j', hj', ek, eo.symm, by rw [← le_inF e]; exact h1, e4, ?_⟩)))
        have : 0 < fb_ct (fun c => inF a' j' c && !N' (ow a' j') c) 18 := fb_ct_pos.mpr ⟨c, hc, by rw [← le_inF e, h1, e4]; rfl⟩
        omega
      · refine absurd (Or.inr (Or.inr (Or.inr (Or.inl ⟨j', hj', ek, fun c' hc' hi => ?_⟩)))) hb
        have hlt := ct_lt (p := fun c => inF a j c && N (ow a j) c) (q := fun c => inF a' j' c && N' (ow a' j') c) (n := 18) (fun c' hc' q => by
          rw [Bool.and_eq_true] at q ⊢
          exact ⟨by rw [← le_inF e]; exact q.1, by rw [← ho2]; exact hN _ c' (ow6 hw hj) hc' q.2⟩) ⟨c, hc, by rw [h2, Bool.and_false], by rw [← le_inF e, h1, e4]; rfl⟩
        have hz : fb_ct (fun c => inF a' j' c && !N' (ow a' j') c) 18 = 0 := by omega
        have := fb_ct_zero.mp hz c' hc'
        rw [hi] at this
        cases e5 : N' (ow a' j') c'
        · rw [e5] at this
          cases this
        · rfl
  · rintro (⟨j, _, hj, k0, e1, e2⟩ | ⟨w, o', ho', hne, w2, h1⟩ | ⟨w, κ, hκ, h1, h2, h3⟩ | ⟨j, hj, k3, e1, h1, h2, h3⟩)
    · obtain ⟨j', hj', e⟩ := hl.2 j hj
      exact Or.inr (Or.inl ⟨j', Nat.zero_le _, hj', by rw [← k0]; exact (congrArg (·.1) e).symm, by rw [← e1]; exact (congrArg (·.2.1) e).symm, by rw [← le_inF e]; exact e2⟩)
    · exact Or.inr (Or.inr (Or.inl ⟨(le_own hl o).mp w, o', ho', hne, (le_own hl o').mp w2, hY o' c ho' hc h1⟩))
    · have w' := (le_own hl o).mp w
      have hle : fb_ct (fun c => Y o c && hin o κ c) 18 ≤ fb_ct (fun c => Y' o c && hin o κ c) 18 := fb_ct_sub fun c' hc' q => by
        rw [Bool.and_eq_true] at q ⊢
        exact ⟨hY o c' ho hc' q.1, q.2⟩
      cases e : Y' o c
      · exact Or.inr (Or.inr (Or.inr (Or.inl ⟨w', κ, hκ, h1, by rw [← le_hs hl]; omega, e⟩)))
      · refine absurd (Or.inr (Or.inl ⟨o, κ, w', hκ, Or.inl ?_⟩)) hb
        have := ct_lt (p := fun c => Y o c && hin o κ c) (q := fun c => Y' o c && hin o κ c) (n := 18) (fun c' hc' q => by
          rw [Bool.and_eq_true] at q ⊢
          exact ⟨hY o c' ho hc' q.1, q.2⟩) ⟨c, hc, by rw [h3]; rfl, by rw [h1, e]; rfl⟩
        rw [← le_hs hl]
        omega
    · obtain ⟨j', hj', e⟩ := hl.2 j hj
      have ek : kd a' j' = 3 := by rw [← k3]; exact (congrArg (·.1) e).symm
      have eo : ow a' j' = o := by rw [e1]; exact (congrArg (·.2.1) e).symm
      have ho2 : ow a j = ow a' j' := congrArg (·.2.1) e
      have h3' := ct_three hw hj (by omega)
      have hsp := ct_split (fun c => inF a j c) (fun c => Y (ow a j) c) 18
      have h3'' := ct_three hw' hj' (by omega)
      have hsp' := ct_split (fun c => inF a' j' c) (fun c => Y' (ow a' j') c) 18
      have hmono : fb_ct (fun c => inF a j c && Y (ow a j) c) 18 ≤ fb_ct (fun c => inF a' j' c && Y' (ow a' j') c) 18 := fb_ct_sub fun c' hc' q => by
        rw [Bool.and_eq_true] at q ⊢
        exact ⟨by rw [← le_inF e]; exact q.1, by rw [← ho2]; exact hY _ c' (ow6 hw hj) hc' q.2⟩
      cases e4 : Y' (ow a' j') c
      · refine Or.inr (Or.inr (Or.inr (Or.inr ⟨j', hj', ek, eo.symm, by rw [← le_inF e]; exact h1, e4, ?_⟩)))
        have : 0 < fb_ct (fun c => inF a' j' c && !Y' (ow a' j') c) 18 := fb_ct_pos.mpr ⟨c, hc, by rw [← le_inF e, h1, e4]; rfl⟩
        omega
      · refine absurd (Or.inr (Or.inr (Or.inr (Or.inr ⟨j', hj', ek, fun c' hc' hi => ?_⟩)))) hb
        have hlt := ct_lt (p := fun c => inF a j c && Y (ow a j) c) (q := fun c => inF a' j' c && Y' (ow a' j') c) (n := 18) (fun c' hc' q => by
          rw [Bool.and_eq_true] at q ⊢
          exact ⟨by rw [← le_inF e]; exact q.1, by rw [← ho2]; exact hY _ c' (ow6 hw hj) hc' q.2⟩) ⟨c, hc, by rw [h2, Bool.and_false], by rw [← le_inF e, h1, e4]; rfl⟩
        have hz : fb_ct (fun c => inF a' j' c && !Y' (ow a' j') c) 18 = 0 := by omega
        have := fb_ct_zero.mp hz c' hc'
        rw [hi] at this
        cases e5 : Y' (ow a' j') c'
        · rw [e5] at this
          cases this
        · rfl

