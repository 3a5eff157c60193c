theorem lw_go {L i : Nat} (hL : L ≤ 3072) (hi : i ≤ L) (h : ¬ Int32.ofNat L - 6 < nI i) : i + 6 ≤ L := by
  have hi0 : (nI i).toInt = (i : Int) := nI_toInt (by omega)
  rcases Nat.lt_or_ge L 6 with u | u
  · refine absurd ?_ h
    rw [Int32.lt_iff_toInt_lt, hi0]
    rcases (show L = 0 ∨ L = 1 ∨ L = 2 ∨ L = 3 ∨ L = 4 ∨ L = 5 by omega) with rfl | rfl | rfl | rfl | rfl | rfl
    · rw [show (Int32.ofNat 0 - 6).toInt = -6 from by decide]; omega
    · rw [show (Int32.ofNat 1 - 6).toInt = -5 from by decide]; omega
    · rw [show (Int32.ofNat 2 - 6).toInt = -4 from by decide]; omega
    · rw [show (Int32.ofNat 3 - 6).toInt = -3 from by decide]; omega
    · rw [show (Int32.ofNat 4 - 6).toInt = -2 from by decide]; omega
    · rw [show (Int32.ofNat 5 - 6).toInt = -1 from by decide]; omega
  · rcases Nat.lt_or_ge (L - 6) i with q | q
    · exact absurd (by rw [show Int32.ofNat L - 6 = nI (L - 6) from pk_sub (b := 6) u]; exact nI_lt q (by omega)) h
    · omega
set_option maxHeartbeats 4000000 in
set_option maxRecDepth 100000 in
/-- the law's loop: k calls of both lie behind -/
theorem law_loop {p : Program} {e : Env} {s : State} {m : MethodId} {below : List Frame} {meth : Method} {c : Code} {l : Launch} {b L : Nat} {xs : Nat → Int32} {dC : Nat → ClassId} {dI : Nat → Nat → Nat} {ck : Nat → ClassId} {AD : Nat → Nat} (X : LC p s m c b L xs) (hret : meth.sig.returnType = ret) (hlocks : meth.locks = false) (hK : K2 (dC, dI) ck s) : ∀ (n k : Nat), 6 * k ≤ L → L < 6 * (k + n) → ∀ (w5 w6 tl : va_W) (H : Heap) (locs : List Loc) (ls : Array Slot), INV ck AD w5 w6 tl → va_P (dC, dI) vwCl (w5 ++ (w6 ++ tl)) H → va_D (fun q => s.heap.size ≤ q) (w5 ++ (w6 ++ tl)) → va_S (fun q => s.heap.size ≤ q) s.heap H locs → lv_has ls 4 (LL b AD (6 * k)) → W p l e room_1 s m #[Value.ref b] below meth c H locs (CE k) (CS k) (lw_Z below #[Value.ref b] s) (F0 m 18 ls [])
  | 0, k, h1, h2 => absurd h2 (by omega)
  | n + 1, k, h1, h2 => by
    intro w5 w6 tl H locs ls hI hP hD hS hl
    obtain ⟨hx, hb, hml, hown, hts, hX, hbl, hL⟩ := id X
    have hbA : ¬ (fun q : Nat => s.heap.size ≤ q) b := Nat.not_le.mpr hbl
    refine lv_iload_n hx hb dL_law_18 rfl (lv_at hl 3 rfl) ?_
    refine lv_aload_n hx hb dL_law_19 rfl (lv_at hl 0 rfl) ?_
    refine va_slen hx hb hX hbl hbA hS dL_law_20 ?_
    refine lv_bipush (v := (6 : Int32)) hx hb dL_law_21 rfl ?_
    refine lv_isub hx hb dL_law_23 ?_
    refine lv_icmp_gt (tgt := 781) hx hb dL_law_24 (by decide) (fun c_1 => ?_) (fun c_1 => ?_)
    · refine lv_iconst (v := (1 : Int32)) hx hb dL_law_781 rfl ?_
      refine va_forget (fun q hq => hS.2.2 q hq) ?_
      refine W.widen (k := 600000) (n := 7302250) (by unfold CE; omega) (by unfold CS; omega) ?_
      exact lw_ret hx hb hret hlocks dL_law_782
    · have hi : 6 * k + 6 ≤ L := lw_go hL h1 c_1
      have hk : k ≤ 512 := by omega
      have hin0 : vp_in (nI (6 * k)) L := vp_in_nI (by omega) (by omega)
      have nxt : NX p l e s m below meth c b (dC, dI) ck AD (lw_Z below #[Value.ref b] s) (6 * k) k := by
        intro w5 w6 tl H locs ls hI hP hD hS hl
        have e6 : Int32.ofInt 6 = nI 6 := by decide
        refine lv_iinc (v := nI (6 * (k + 1))) (lv' := [(3, .int (nI (6 * (k + 1)))), (0, .ref b), (1, .ref (AD 0)), (2, .ref (AD 28))]) hx hb dL_law_775 hl (k := 3) rfl ((congrArg (fun z => nI (6 * k) + z) e6).trans ((nI_add (6 * k) 6).trans (congrArg nI (show 6 * k + 6 = 6 * (k + 1) by omega)))) (by decide) rfl (fun ls hl => ?_)
        refine lv_goto (tgt := 18) hx hb dL_law_778 (by decide) ?_
        exact law_loop X hret hlocks hK n (k + 1) (by omega) (by omega) w5 w6 tl H locs ls hI hP hD hS (lv_sub hl [1, 2, 3, 0] rfl)
      refine lv_aload_n hx hb dL_law_27 rfl (lv_at hl 0 rfl) ?_
      refine lv_iload_n hx hb dL_law_28 rfl (lv_at hl 3 rfl) ?_
      refine va_sld hx hb hX hbl hbA hS hin0 dL_law_29 ?_
      refine lv_bipush (v := (31 : Int32)) hx hb dL_law_30 rfl ?_
      refine lv_iand hx hb dL_law_32 ?_
      refine lv_topi (fun x _ => ?_)
      rcases Decidable.em (x.toInt < 0 ∨ 20 < x.toInt) with u | u
      · refine lv_tableOut (tgt := 775) hx hb dL_law_33 u (by decide) ?_
        refine W.widen (show CE k ≤ CE (k + 1) from by unfold CE; omega) (show CS k ≤ CS (k + 1) from by unfold CS; omega) ?_
        exact nxt w5 w6 tl H locs ls hI hP hD hS hl
      · obtain ⟨t, ht, ex⟩ : ∃ t : Nat, t < 21 ∧ x.toInt = (t : Int) := ⟨x.toInt.toNat, by omega, by omega⟩
        rcases (show t = 0 ∨ t = 1 ∨ t = 2 ∨ t = 3 ∨ t = 4 ∨ t = 5 ∨ t = 6 ∨ t = 7 ∨ t = 8 ∨ t = 9 ∨ t = 10 ∨ t = 11 ∨ t = 12 ∨ t = 13 ∨ t = 14 ∨ t = 15 ∨ t = 16 ∨ t = 17 ∨ t = 18 ∨ t = 19 ∨ t = 20 by omega) with rfl | rfl | rfl | rfl | rfl | rfl | rfl | rfl | rfl | rfl | rfl | rfl | rfl | rfl | rfl | rfl | rfl | rfl | rfl | rfl | rfl
        · exact lv_tableIn (off := 99) (tgt := 132) hx hb dL_law_33 (by rw [ex]; decide) (by rw [ex]; decide) (by rw [ex]; rfl) (by decide) (st_begin X hK hi hk hI hP hD hS hl nxt)
        · exact lv_tableIn (off := 122) (tgt := 155) hx hb dL_law_33 (by rw [ex]; decide) (by rw [ex]; decide) (by rw [ex]; rfl) (by decide) (st_holds X hK hi hk hI hP hD hS hl nxt)
        · exact lv_tableIn (off := 155) (tgt := 188) hx hb dL_law_33 (by rw [ex]; decide) (by rw [ex]; decide) (by rw [ex]; rfl) (by decide) (st_answers X hK hi hk hI hP hD hS hl nxt)
        · exact lv_tableIn (off := 218) (tgt := 251) hx hb dL_law_33 (by rw [ex]; decide) (by rw [ex]; decide) (by rw [ex]; rfl) (by decide) (st_wrong X hK hi hk hI hP hD hS hl nxt)
        · exact lv_tableIn (off := 261) (tgt := 294) hx hb dL_law_33 (by rw [ex]; decide) (by rw [ex]; decide) (by rw [ex]; rfl) (by decide) (st_takeBack X hK hi hk hI hP hD hS hl nxt)
        · exact lv_tableIn (off := 284) (tgt := 317) hx hb dL_law_33 (by rw [ex]; decide) (by rw [ex]; decide) (by rw [ex]; rfl) (by decide) (st_mark X hK hi hk hI hP hD hS hl nxt)
        · exact lv_tableIn (off := 327) (tgt := 360) hx hb dL_law_33 (by rw [ex]; decide) (by rw [ex]; decide) (by rw [ex]; rfl) (by decide) (st_ofOwner X hK hi hk hI hP hD hS hl nxt)
        · exact lv_tableIn (off := 360) (tgt := 393) hx hb dL_law_33 (by rw [ex]; decide) (by rw [ex]; decide) (by rw [ex]; rfl) (by decide) (st_ofFact X hK hi hk hI hP hD hS hl nxt)
        · exact lv_tableIn (off := 393) (tgt := 426) hx hb dL_law_33 (by rw [ex]; decide) (by rw [ex]; decide) (by rw [ex]; rfl) (by decide) (st_count X hK hi hk hI hP hD hS hl nxt)
        · exact lv_tableIn (off := 416) (tgt := 449) hx hb dL_law_33 (by rw [ex]; decide) (by rw [ex]; decide) (by rw [ex]; rfl) (by decide) (st_envelope X hK hi hk hI hP hD hS hl nxt)
        · exact lv_tableIn (off := 449) (tgt := 482) hx hb dL_law_33 (by rw [ex]; decide) (by rw [ex]; decide) (by rw [ex]; rfl) (by decide) (st_gain X hK hi hk hI hP hD hS hl nxt)
        · exact lv_tableIn (off := 512) (tgt := 545) hx hb dL_law_33 (by rw [ex]; decide) (by rw [ex]; decide) (by rw [ex]; rfl) (by decide) (st_must X hK hi hk hI hP hD hS hl nxt)
        · exact lv_tableIn (off := 545) (tgt := 578) hx hb dL_law_33 (by rw [ex]; decide) (by rw [ex]; decide) (by rw [ex]; rfl) (by decide) (st_deeper X hK hi hk hI hP hD hS hl nxt)
        · exact lv_tableIn (off := 558) (tgt := 591) hx hb dL_law_33 (by rw [ex]; decide) (by rw [ex]; decide) (by rw [ex]; rfl) (by decide) (st_bestQuestion X hK hi hk hI hP hD hS hl nxt)
        · exact lv_tableIn (off := 591) (tgt := 624) hx hb dL_law_33 (by rw [ex]; decide) (by rw [ex]; decide) (by rw [ex]; rfl) (by decide) (st_put X hK hi hk hI hP hD hS hl nxt)
        · exact lv_tableIn (off := 644) (tgt := 677) hx hb dL_law_33 (by rw [ex]; decide) (by rw [ex]; decide) (by rw [ex]; rfl) (by decide) (st_wipe X hK hi hk hI hP hD hS hl nxt)
        · exact lv_tableIn (off := 657) (tgt := 690) hx hb dL_law_33 (by rw [ex]; decide) (by rw [ex]; decide) (by rw [ex]; rfl) (by decide) (st_fault X hK hi hk hI hP hD hS hl nxt)
        · exact lv_tableIn (off := 670) (tgt := 703) hx hb dL_law_33 (by rw [ex]; decide) (by rw [ex]; decide) (by rw [ex]; rfl) (by decide) (st_carryOut X hK hi hk hI hP hD hS hl nxt)
        · exact lv_tableIn (off := 683) (tgt := 716) hx hb dL_law_33 (by rw [ex]; decide) (by rw [ex]; decide) (by rw [ex]; rfl) (by decide) (st_undo X hK hi hk hI hP hD hS hl nxt)
        · exact lv_tableIn (off := 696) (tgt := 729) hx hb dL_law_33 (by rw [ex]; decide) (by rw [ex]; decide) (by rw [ex]; rfl) (by decide) (st_save X hK hi hk hI hP hD hS hl nxt)
        · exact lv_tableIn (off := 719) (tgt := 752) hx hb dL_law_33 (by rw [ex]; decide) (by rw [ex]; decide) (by rw [ex]; rfl) (by decide) (st_restore X hK hi hk hI hP hD hS hl nxt)
