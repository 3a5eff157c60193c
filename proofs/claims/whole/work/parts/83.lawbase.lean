/-! ===== the law: worlds that hold both objects, calls inside them ===== -/
section LAWJ
variable {D : va_G} {cl : List vw_C} {A0 : Nat → Prop} {wk wx wc wr w1 wn tl tl' : va_W} {H H1 : Heap}
theorem wl_pre {k : Nat} {q : Nat × va_E} (h : wk[k]? = some q) : (wk ++ wx)[k]? = some q := by
  rw [List.getElem?_append_left (List.getElem?_eq_some_iff.mp h).1]
  exact h
theorem wl_suf {k : Nat} {q : Nat × va_E} (h : wx[k]? = some q) : (wk ++ wx)[wk.length + k]? = some q := by
  rw [List.getElem?_append_right (Nat.le_add_right _ _), Nat.add_sub_cancel_left]
  exact h
theorem jw_Ppre (h : va_P D cl (wk ++ wx) H) : va_P D cl wk H := fun k q hk => h k q (wl_pre hk)
theorem jw_Psuf (h : va_P D cl (wk ++ wx) H) : va_P D cl wx H := fun k q hk => h _ q (wl_suf hk)
theorem jw_Dpre (h : va_D A0 (wk ++ wx)) : va_D A0 wk := ⟨fun i j x y hx hy e => h.1 i j x y (wl_pre hx) (wl_pre hy) e, fun k q hk => h.2 k q (wl_pre hk)⟩
theorem jw_Dsuf (h : va_D A0 (wk ++ wx)) : va_D A0 wx := ⟨fun i j x y hx hy e => by
  have := h.1 _ _ x y (wl_suf hx) (wl_suf hy) e
  omega, fun k q hk => h.2 _ q (wl_suf hk)⟩
theorem wl_apart (h : va_D A0 (wk ++ wx)) {i j : Nat} {x y : Nat × va_E} (hx : wk[i]? = some x) (hy : wx[j]? = some y) : x.1 ≠ y.1 := fun e => by
  have h1 := h.1 _ _ x y (wl_pre hx) (wl_suf hy) e
  have h2 := (List.getElem?_eq_some_iff.mp hx).1
  omega
theorem wl_at {is : List Nat} {w ws : va_W} (hs : is.map (fun i => ws[i]?) = w.map some) {k : Nat} {q : Nat × va_E} (hq : w[k]? = some q) : ∃ i, is[k]? = some i ∧ ws[i]? = some q := by
  have h1 : (is.map (fun i => ws[i]?))[k]? = some (some q) := by rw [hs, List.getElem?_map, hq]; rfl
  rw [List.getElem?_map] at h1
  cases hi : is[k]? with
  | none => rw [hi] at h1; cases h1
  | some i => rw [hi] at h1; exact ⟨i, rfl, Option.some.inj h1⟩
theorem jw_join (hP : va_P D cl (wk ++ wx) H) (hD : va_D A0 (wk ++ wx)) (isC isR isN : List Nat) (hC : isC.map (fun i => wk[i]?) = wc.map some) (hR : isR.map (fun i => wk[i]?) = wr.map some) (hRn : va_nd isR = true) (hdis : ∀ i ∈ isR, i ∉ isC) (hN : isN.map (fun i => (wr ++ w1)[i]?) = wn.map some) (hNn : va_nd isN = true)
    (hk : ∀ q : Nat, q < H.size → ¬ va_A wc H.size q → H1[q]? = H[q]?) (hF : ∀ q, va_A wc H.size q → A0 q) (hP1 : va_P D cl w1 H1) (hD1 : va_D (va_A wc H.size) w1) : va_P D cl (wn ++ wx) H1 ∧ va_D A0 (wn ++ wx) := by
  obtain ⟨hP2, hD2⟩ := va_join (wr := wr) (w1 := w1) (jw_Ppre hP) (jw_Dpre hD) isC isR hC hR hRn hdis hk hF hP1 hD1
  have out : ∀ (k : Nat) (q : Nat × va_E), wx[k]? = some q → q.1 < H.size ∧ ¬ va_A wc H.size q.1 := by
    intro k q hq
    have hl := (jw_Psuf hP k q hq).lt
    refine ⟨hl, fun h => ?_⟩
    rcases h with ⟨k2, e, h⟩ | h
    · obtain ⟨j, _, h4⟩ := wl_at hC h
      exact wl_apart hD h4 hq rfl
    · omega
  have hP3 : va_P D cl ((wr ++ w1) ++ wx) H1 := hP2.app (fun k q hq => (jw_Psuf hP k q hq).kept (hk q.1 (out k q hq).1 (out k q hq).2))
  have hD3 : va_D A0 ((wr ++ w1) ++ wx) := va_D.app hD2 (jw_Dsuf hD) (fun i j x y hx hy e => by
    rcases Nat.lt_or_ge i wr.length with u | u
    · rw [List.getElem?_append_left u] at hx
      obtain ⟨i', _, h4⟩ := wl_at hR hx
      exact wl_apart hD h4 hy e
    · rw [List.getElem?_append_right u] at hx
      exact (out j y hy).2 (by rw [← e]; exact hD1.2 _ x hx))
  exact ⟨hP3.part isN hN, hD3.part isN hNn hN⟩
theorem jw_joint (hP : va_P D cl (wk ++ tl) H) (hD : va_D A0 (wk ++ tl)) (isC isR isN : List Nat) (hC : isC.map (fun i => wk[i]?) = wc.map some) (hR : isR.map (fun i => wk[i]?) = wr.map some) (hRn : va_nd isR = true) (hdis : ∀ i ∈ isR, i ∉ isC) (hN : isN.map (fun i => (wr ++ w1)[i]?) = wn.map some) (hNn : va_nd isN = true)
    (hk : ∀ q : Nat, q < H.size → ¬ va_A (wc ++ tl) H.size q → H1[q]? = H[q]?) (hF : ∀ q, va_A (wc ++ tl) H.size q → A0 q) (hP1 : va_P D cl (w1 ++ tl') H1) (hD1 : va_D (va_A (wc ++ tl) H.size) (w1 ++ tl')) : va_P D cl (wn ++ tl') H1 ∧ va_D A0 (wn ++ tl') := by
  have out : ∀ (k : Nat) (q : Nat × va_E), wr[k]? = some q → q.1 < H.size ∧ ¬ va_A (wc ++ tl) H.size q.1 := by
    intro k q hq
    obtain ⟨i, h1, h2⟩ := wl_at hR hq
    have hl := (hP i q (wl_pre h2)).lt
    refine ⟨hl, fun h => ?_⟩
    rcases h with ⟨k2, e, h⟩ | h
    · rcases Nat.lt_or_ge k2 wc.length with u | u
      · rw [List.getElem?_append_left u] at h
        obtain ⟨j, h3, h4⟩ := wl_at hC h
        have hij := hD.1 i j q (q.1, e) (wl_pre h2) (wl_pre h4) rfl
        subst hij
        exact hdis i (List.mem_of_getElem? h1) (List.mem_of_getElem? h3)
      · rw [List.getElem?_append_right u] at h
        exact wl_apart hD h2 h rfl
    · omega
  have hPr : va_P D cl (wr ++ (w1 ++ tl')) H1 := va_P.app (fun k q hq => by
    obtain ⟨i, _, h2⟩ := wl_at hR hq
    exact (hP i q (wl_pre h2)).kept (hk q.1 (out k q hq).1 (out k q hq).2)) hP1
  have hDr : va_D A0 (wr ++ (w1 ++ tl')) := va_D.app ((jw_Dpre hD).sub isR hRn hR) (hD1.weaken (fun k q _ h => hF q.1 h)) (fun i j x y hx hy e => (out i x hx).2 (by rw [e]; exact hD1.2 j y hy))
  rw [← List.append_assoc] at hPr hDr
  exact ⟨hPr.part isN hN, hDr.part isN hNn hN⟩
theorem jw_rotP {a b c : va_W} (h : va_P D cl (a ++ (b ++ c)) H) : va_P D cl (b ++ (a ++ c)) H := by
  have h1 : va_P D cl (([] ++ a) ++ (b ++ c)) H := h
  have h2 : va_P D cl ((b ++ c) ++ a) H := h1.swap
  have h3 := h2.swap
  rw [List.append_assoc] at h3
  exact h3
theorem jw_rotD {a b c : va_W} (h : va_D A0 (a ++ (b ++ c))) : va_D A0 (b ++ (a ++ c)) := by
  have h1 : va_D A0 (([] ++ a) ++ (b ++ c)) := h
  have h2 : va_D A0 ((b ++ c) ++ a) := h1.swap
  have h3 := h2.swap
  rw [List.append_assoc] at h3
  exact h3
end LAWJ
section STEPS3
variable {p : Program} {l : Launch} {e : Env} {R : Room} {s : State} {m : MethodId} {args : Array Value} {below : List Frame} {meth : Method} {c : Code} {H : Heap} {locs : List Loc} {cells slots : Nat} {Q : State → Prop}
variable {y : MethodName} {bytes cc : ByteArray} {maxL nL n index pc mc ms : Nat} {ret : Option FieldType} {ws : List Cond} {rm : Room} {Ts : List Cond} {own C : String} {b : Addr} {As rest st0 : List Value} {ls : Array Slot} {D : va_G} {ck : Nat → ClassId} {wk wx wc wr w1 wn tl tl2 : va_W} {r : Int32} {A : Nat → Prop} {H0 : Heap}
/-- a call of a virtual method on a part of the world -/
theorem lawMI (S : CallFix p m c cc nL s args Ts own) (hK : KN D ck s) (hP : va_P D vwCl (wk ++ wx) H) (hD : va_D A (wk ++ wx)) (hS : va_S A H0 H locs) (hA : ∀ q, H0.size ≤ q → A q) (isC isR isN : List Nat) (hC : isC.map (fun i => wk[i]?) = wc.map some) (hCn : va_nd isC = true) (hR : isR.map (fun i => wk[i]?) = wr.map some) (hRn : va_nd isR = true) (hdis : ∀ i ∈ isR, i ∉ isC) (hN : isN.map (fun i => (wr ++ w1)[i]?) = wn.map some) (hNn : va_nd isN = true) (hM : MI l y ws rm (.ref b :: As) D ck wc w1 r) (cw : CallW R s args own C index y bytes maxL ret ws rm 0 0 n) (q0 : Nat) {ci N : Nat} {T : u_T} {fs : List Value} (he : wk[q0]? = some (b, .inr (ci, fs))) (hq : vwCl[ci]? = some (C, T, N)) (hn : As.length = n) (hsz : ls.size = nL) (hst : st0 = As.reverse ++ .ref b :: rest) (hroom : (rest.map fun v => v.category).sum ≤ 8) (hdg : decode cc pc = .ok (.invokevirtual index, 3)) (hf : cells ≤ R.cells ∧ slots ≤ R.slots)
    (kk : ∀ (H1 : Heap) (locs1 : List Loc), va_P D vwCl (wn ++ wx) H1 → va_D A (wn ++ wx) → va_S A H0 H1 locs1 → W p l e R s m args below meth c H1 locs1 cells slots Q (F0 m (pc + 3) ls (.int r :: rest))) : W p l e R s m args below meth c H locs cells slots Q (F0 m pc ls st0) := by
  have hPk := jw_Ppre hP
  have hPc := hPk.subm isC hC
  have hDc := (jw_Dpre hD).sub isC hCn hC
  have hFc := va_free (wc := wc) (jw_Dpre hD) hS hA isC hC
  refine va_calli (va_runV (g := F0 m pc ls st0) S (hM H.size) cw ⟨B1.blind, va_recv hK.1 hPk hq he, fun U hU hW => ⟨rfl, by rw [hU], by rw [hU]; exact hPc, hK.warm hW, hDc.weaken (fun _ _ _ _ => trivial)⟩⟩ rfl hn hsz hst (lv_room hroom) hdg hf) hS (fun q _ h => hFc q h) hFc (fun r' u t H1 locs1 ht hvm hw hB hz hk hS1 => ?_)
  subst hw
  obtain ⟨hP1, hD1⟩ := hB
  rw [ht] at hP1
  obtain ⟨hP2, hD2⟩ := jw_join (wr := wr) (w1 := w1) hP hD isC isR isN hC hR hRn hdis hN hNn hk hFc hP1 hD1
  exact kk H1 locs1 hP2 hD2 hS1
/-- the same, with all that stands behind -/
theorem lawTI (S : CallFix p m c cc nL s args Ts own) (hK : KN D ck s) (hP : va_P D vwCl (wk ++ tl) H) (hD : va_D A (wk ++ tl)) (hS : va_S A H0 H locs) (hA : ∀ q, H0.size ≤ q → A q) (isC isR isN : List Nat) (hC : isC.map (fun i => wk[i]?) = wc.map some) (hCn : va_nd isC = true) (hR : isR.map (fun i => wk[i]?) = wr.map some) (hRn : va_nd isR = true) (hdis : ∀ i ∈ isR, i ∉ isC) (hN : isN.map (fun i => (wr ++ w1)[i]?) = wn.map some) (hNn : va_nd isN = true) (hM : MI l y ws rm (.ref b :: As) D ck (wc ++ tl) (w1 ++ tl2) r) (cw : CallW R s args own C index y bytes maxL ret ws rm 0 0 n) (q0 : Nat) {ci N : Nat} {T : u_T} {fs : List Value} (he : wk[q0]? = some (b, .inr (ci, fs))) (hq : vwCl[ci]? = some (C, T, N)) (hn : As.length = n) (hsz : ls.size = nL) (hst : st0 = As.reverse ++ .ref b :: rest) (hroom : (rest.map fun v => v.category).sum ≤ 8) (hdg : decode cc pc = .ok (.invokevirtual index, 3)) (hf : cells ≤ R.cells ∧ slots ≤ R.slots)
    (kk : ∀ (H1 : Heap) (locs1 : List Loc), va_P D vwCl (wn ++ tl2) H1 → va_D A (wn ++ tl2) → va_S A H0 H1 locs1 → W p l e R s m args below meth c H1 locs1 cells slots Q (F0 m (pc + 3) ls (.int r :: rest))) : W p l e R s m args below meth c H locs cells slots Q (F0 m pc ls st0) := by
  have hPc : va_P D vwCl (wc ++ tl) H := hP.part isC hC
  have hDc : va_D A (wc ++ tl) := hD.part isC hCn hC
  have hFc : ∀ q, va_A (wc ++ tl) H.size q → A q := fun q h => by
    rcases h with ⟨k, e, h⟩ | h
    · exact hDc.2 k (q, e) h
    · exact hA q (Nat.le_trans hS.1 h)
  refine va_calli (va_runV (g := F0 m pc ls st0) S (hM H.size) cw ⟨B1.blind, va_recv hK.1 (jw_Ppre hP) hq he, fun U hU hW => ⟨rfl, by rw [hU], by rw [hU]; exact hPc, hK.warm hW, hDc.weaken (fun _ _ _ _ => trivial)⟩⟩ rfl hn hsz hst (lv_room hroom) hdg hf) hS (fun q _ h => hFc q h) hFc (fun r' u t H1 locs1 ht hvm hw hB hz hk hS1 => ?_)
  subst hw
  obtain ⟨hP1, hD1⟩ := hB
  rw [ht] at hP1
  obtain ⟨hP2, hD2⟩ := jw_joint (wr := wr) (w1 := w1) hP hD isC isR isN hC hR hRn hdis hN hNn hk hFc hP1 hD1
  exact kk H1 locs1 hP2 hD2 hS1
/-- the same, of a method that makes cells -/
theorem lawNI {P : Int32 → va_W → Prop} {P' : Int32 → va_W → Prop} (S : CallFix p m c cc nL s args Ts own) (hK : K2 D ck s) (hP : va_P D vwCl (wk ++ tl) H) (hD : va_D A (wk ++ tl)) (hS : va_S A H0 H locs) (hA : ∀ q, H0.size ≤ q → A q) (isC isR isN : List Nat) (hC : isC.map (fun i => wk[i]?) = wc.map some) (hCn : va_nd isC = true) (hR : isR.map (fun i => wk[i]?) = wr.map some) (hRn : va_nd isR = true) (hdis : ∀ i ∈ isR, i ∉ isC) (hN : isN.map (fun i => (wr ++ w1)[i]?) = wn.map some) (hNn : va_nd isN = true) (hM : MNi l y ws rm (.ref b :: As) D ck (wc ++ tl) mc ms P) (hPp : ∀ r w, P r w → ∃ tl', w = w1 ++ tl' ∧ P' r tl') (cw : CallW R s args own C index y bytes maxL ret ws rm mc ms n) (q0 : Nat) {ci N : Nat} {T : u_T} {fs : List Value} (he : wk[q0]? = some (b, .inr (ci, fs))) (hq : vwCl[ci]? = some (C, T, N)) (hn : As.length = n) (hsz : ls.size = nL) (hst : st0 = As.reverse ++ .ref b :: rest) (hroom : (rest.map fun v => v.category).sum ≤ 8) (hdg : decode cc pc = .ok (.invokevirtual index, 3)) (hf : cells + mc ≤ R.cells ∧ slots + ms ≤ R.slots)
    (kk : ∀ (r : Int32) (tl' : va_W) (H1 : Heap) (locs1 : List Loc), P' r tl' → va_P D vwCl (wn ++ tl') H1 → va_D A (wn ++ tl') → va_S A H0 H1 locs1 → W p l e R s m args below meth c H1 locs1 (cells + mc) (slots + ms) Q (F0 m (pc + 3) ls (.int r :: rest))) : W p l e R s m args below meth c H locs cells slots Q (F0 m pc ls st0) := by
  have hPc : va_P D vwCl (wc ++ tl) H := hP.part isC hC
  have hDc : va_D A (wc ++ tl) := hD.part isC hCn hC
  have hFc : ∀ q, va_A (wc ++ tl) H.size q → A q := fun q h => by
    rcases h with ⟨k, e, h⟩ | h
    · exact hDc.2 k (q, e) h
    · exact hA q (Nat.le_trans hS.1 h)
  refine va_calli (va_runV (g := F0 m pc ls st0) S (hM H.size) cw ⟨BN.blind, va_recv hK.1.1 (jw_Ppre hP) hq he, fun U hU hW => ⟨rfl, by rw [hU], by rw [hU]; exact hPc, hK.warm hW, hDc.weaken (fun _ _ _ _ => trivial)⟩⟩ rfl hn hsz hst (lv_room hroom) hdg hf) hS (fun q _ h => hFc q h) hFc (fun r' u t H1 locs1 ht hvm hw hB hz hk hS1 => ?_)
  obtain ⟨hP1, hD1⟩ := hB
  rw [ht] at hP1
  obtain ⟨tl', rfl, hp⟩ := hPp r' u hw
  obtain ⟨hP2, hD2⟩ := jw_joint (wr := wr) (w1 := w1) hP hD isC isR isN hC hR hRn hdis hN hNn hk hFc hP1 hD1
  exact kk r' tl' H1 locs1 hp hP2 hD2 hS1
end STEPS3
def W5 (ck : Nat → ClassId) (AD : Nat → Nat) (pl : Int32) (to : Int32) (ks : Nat → Int32) (os : Nat → Int32) (cs : Nat → Int32) (ys : Nat → Int32) (cy : Nat → Int32) (oy : Nat → Int32) (yr : Int32) (ns : Nat → Int32) (cn : Nat → Int32) (on : Nat → Int32) (nr : Int32) (rd : Int32) (sy : Nat → Int32) (sc : Nat → Int32) (so : Nat → Int32) (syr : Int32) (sn_ : Nat → Int32) (sd : Nat → Int32) (son : Nat → Int32) (snr : Int32) (srd : Int32) (ad : Nat → Nat × Nat × Nat × Nat) (len : Int32) (st : Nat → Int32 × Int32 × (Nat → Int32) × (Nat → Int32) × (Nat → Int32)) (tx : Nat → Int32) (tln : Int32) : va_W := [(AD 0, .inr (5, [.ref (AD 1), .ref (AD 5), .ref (AD 14), .ref (AD 23), .ref (AD 27), .ref (AD 25)]))] ++ wX0 ck (AD 1) (AD 2) (AD 3) (AD 4) pl to ks os cs ++ wX2 ck (AD 5) (AD 6) (AD 7) (AD 8) (AD 9) (AD 10) (AD 11) (AD 12) (AD 13) ys cy oy yr ns cn on nr rd ++ wX2 ck (AD 14) (AD 15) (AD 16) (AD 17) (AD 18) (AD 19) (AD 20) (AD 21) (AD 22) sy sc so syr sn_ sd son snr srd ++ wX1 ck (AD 23) (AD 24) ad len st ++ wX3 ck (AD 25) (AD 26) tx tln
def W6 (ck : Nat → ClassId) (AD : Nat → Nat) (z : Nat → Int32) (past : Nat → Int32) (sl : Nat → Int32) (isv : Nat → Int32) (pm : Int32) (pd : Nat → Int32) (ty : Int32) (b1 : Nat → Int32) (b2 : Nat → Int32) (b3 : Nat → Int32) (b4 : Nat → Int32) (b5 : Nat → Int32) (b6 : Nat → Int32) (b7 : Nat → Int32) (b8 : Nat → Int32) (b9 : Int32) (b10 : Int32) (ords : Nat → Int32) (a1 : Int32) (a2 : Int32) (a3 : Int32) : va_W := wX6 ck (AD 28) (AD 29) (AD 30) (AD 31) (AD 32) (AD 33) (AD 34) (AD 35) (AD 36) (AD 37) (AD 38) (AD 39) (AD 40) (AD 41) (AD 42) z past sl isv pm pd ty b1 b2 b3 b4 b5 b6 b7 b8 b9 b10 ords a1 a2 a3
/-- both objects of the law, alike -/
def INV (ck : Nat → ClassId) (AD : Nat → Nat) (w5 w6 tl : va_W) : Prop := ∃ (pl : Int32) (to : Int32) (ks : Nat → Int32) (os : Nat → Int32) (cs : Nat → Int32) (ys : Nat → Int32) (cy : Nat → Int32) (oy : Nat → Int32) (yr : Int32) (ns : Nat → Int32) (cn : Nat → Int32) (on : Nat → Int32) (nr : Int32) (rd : Int32) (sy : Nat → Int32) (sc : Nat → Int32) (so : Nat → Int32) (syr : Int32) (sn_ : Nat → Int32) (sd : Nat → Int32) (son : Nat → Int32) (snr : Int32) (srd : Int32) (ad : Nat → Nat × Nat × Nat × Nat) (len : Int32) (st : Nat → Int32 × Int32 × (Nat → Int32) × (Nat → Int32) × (Nat → Int32)) (tx : Nat → Int32) (tln : Int32) (z : Nat → Int32) (past : Nat → Int32) (sl : Nat → Int32) (isv : Nat → Int32) (pm : Int32) (pd : Nat → Int32) (ty : Int32) (b1 : Nat → Int32) (b2 : Nat → Int32) (b3 : Nat → Int32) (b4 : Nat → Int32) (b5 : Nat → Int32) (b6 : Nat → Int32) (b7 : Nat → Int32) (b8 : Nat → Int32) (b9 : Int32) (b10 : Int32) (ords : Nat → Int32) (a1 : Int32) (a2 : Int32) (a3 : Int32) (a : Sh) (m : Nat) (L : Nat → Sh) (l : Nat) (x0 x1 : SLo), w5 = W5 ck AD pl to ks os cs ys cy oy yr ns cn on nr rd sy sc so syr sn_ sd son snr srd ad len st tx tln ∧ w6 = W6 ck AD z past sl isv pm pd ty b1 b2 b3 b4 b5 b6 b7 b8 b9 b10 ords a1 a2 a3 ∧ tl = wSl ck (AD 27) x0 x1 ∧ CHG a m L pl to ks os cs ys cy oy ns cn on rd len st z past pm ∧ PR tx pd tln ty l ∧ Zc sc ∧ Zc sd ∧ SR x0 x1 isv sl
def CE (k : Nat) : Nat := 67 + 4 * k
def CS (k : Nat) : Nat := 4078 + 128 * k
def LC (p : Program) (s : State) (m : MethodId) (c : Code) (b L : Nat) (xs : Nat → Int32) : Prop := p.tables.exec = Jvm.exec ∧ c.code = cL_law ∧ c.maxLocals = 4 ∧ s.vm.findClass RL = some m.cls ∧ (∀ w ∈ wsL_law, w.before #[Value.ref b] s = true) ∧ va_X b L xs s s.heap ∧ b < s.heap.size ∧ L ≤ 3072
def LL (b : Nat) (AD : Nat → Nat) (i : Nat) : List (Nat × Value) := [(0, .ref b), (1, .ref (AD 0)), (2, .ref (AD 28)), (3, .int (nI i))]
/-- the law goes on behind a call of both -/
def NX (p : Program) (l : Launch) (e : Env) (s : State) (m : MethodId) (below : List Frame) (meth : Method) (c : Code) (b : Nat) (D : va_G) (ck : Nat → ClassId) (AD : Nat → Nat) (Q : State → Prop) (i k : Nat) : Prop := ∀ (w5 w6 tl : va_W) (H : Heap) (locs : List Loc) (ls : Array Slot), INV ck AD w5 w6 tl → va_P D vwCl (w5 ++ (w6 ++ tl)) H → va_D (fun q => s.heap.size ≤ q) (w5 ++ (w6 ++ tl)) → va_S (fun q => s.heap.size ≤ q) s.heap H locs → lv_has ls 4 (LL b AD i) → W p l e room_1 s m #[Value.ref b] below meth c H locs (CE (k + 1)) (CS (k + 1)) Q (F0 m 775 ls [])
theorem lwin {i L : Nat} (j : Nat) (hL : L ≤ 3072) (hi : i + 6 ≤ L) (hj : j < 6) : vp_in (nI i + nI j) L := by
  rw [nI_add]
  exact vp_in_nI (by omega) (by omega)
