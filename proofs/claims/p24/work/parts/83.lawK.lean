theorem nwF_in : ∀ q ∈ nwF, Cond.fieldLinkNest q.1 q.2.1 q.2.2.1 q.2.2.2.1 q.2.2.2.2.1 q.2.2.2.2.2 ∈ lw_tbl := by
  refine List.forall_mem_cons.mpr ⟨lwt1 (List.mem_of_getElem? (l := tables_1_1) (i := 26) (by decide +kernel)), ?_⟩
  refine List.forall_mem_cons.mpr ⟨lwt1 (List.mem_of_getElem? (l := tables_1_1) (i := 28) (by decide +kernel)), ?_⟩
  refine List.forall_mem_cons.mpr ⟨lwt1 (List.mem_of_getElem? (l := tables_1_1) (i := 29) (by decide +kernel)), ?_⟩
  refine List.forall_mem_cons.mpr ⟨lwt1 (List.mem_of_getElem? (l := tables_1_1) (i := 31) (by decide +kernel)), ?_⟩
  refine List.forall_mem_cons.mpr ⟨lwt1 (List.mem_of_getElem? (l := tables_1_1) (i := 32) (by decide +kernel)), ?_⟩
  refine List.forall_mem_cons.mpr ⟨lwt1 (List.mem_of_getElem? (l := tables_1_1) (i := 34) (by decide +kernel)), ?_⟩
  refine List.forall_mem_cons.mpr ⟨lwt1 (List.mem_of_getElem? (l := tables_1_1) (i := 35) (by decide +kernel)), ?_⟩
  refine List.forall_mem_cons.mpr ⟨lwt1 (List.mem_of_getElem? (l := tables_1_1) (i := 37) (by decide +kernel)), ?_⟩
  refine List.forall_mem_cons.mpr ⟨lwt1 (List.mem_of_getElem? (l := tables_1_1) (i := 38) (by decide +kernel)), ?_⟩
  refine List.forall_mem_cons.mpr ⟨lwt1 (List.mem_of_getElem? (l := tables_1_1) (i := 77) (by decide +kernel)), ?_⟩
  refine List.forall_mem_cons.mpr ⟨lwt1 (List.mem_of_getElem? (l := tables_1_1) (i := 79) (by decide +kernel)), ?_⟩
  refine List.forall_mem_cons.mpr ⟨lwt1 (List.mem_of_getElem? (l := tables_1_1) (i := 81) (by decide +kernel)), ?_⟩
  refine List.forall_mem_cons.mpr ⟨lwt1 (List.mem_of_getElem? (l := tables_1_1) (i := 100) (by decide +kernel)), ?_⟩
  refine List.forall_mem_cons.mpr ⟨lwt1 (List.mem_of_getElem? (l := tables_1_1) (i := 113) (by decide +kernel)), ?_⟩
  exact fun _ h => absurd h List.not_mem_nil
theorem nwM_in : ∀ q ∈ nwM, Cond.methodLinkNest q.1 q.2.1 q.2.2.1 q.2.2.2 ∈ lw_tbl := by
  refine List.forall_mem_cons.mpr ⟨lwt1 (List.mem_of_getElem? (l := tables_1_1) (i := 21) (by decide +kernel)), ?_⟩
  refine List.forall_mem_cons.mpr ⟨lwt1 (List.mem_of_getElem? (l := tables_1_1) (i := 53) (by decide +kernel)), ?_⟩
  refine List.forall_mem_cons.mpr ⟨lwt1 (List.mem_of_getElem? (l := tables_1_1) (i := 59) (by decide +kernel)), ?_⟩
  refine List.forall_mem_cons.mpr ⟨lwt1 (List.mem_of_getElem? (l := tables_1_1) (i := 97) (by decide +kernel)), ?_⟩
  refine List.forall_mem_cons.mpr ⟨lwt1 (List.mem_of_getElem? (l := tables_1_1) (i := 108) (by decide +kernel)), ?_⟩
  refine List.forall_mem_cons.mpr ⟨lwt1 (List.mem_of_getElem? (l := tables_1_1) (i := 189) (by decide +kernel)), ?_⟩
  refine List.forall_mem_cons.mpr ⟨lwt1 (List.mem_of_getElem? (l := tables_1_1) (i := 227) (by decide +kernel)), ?_⟩
  exact fun _ h => absurd h List.not_mem_nil
theorem law_K2 {args : Array Value} {s : State} (hts : ∀ w ∈ lw_tbl, w.before args s = true) : ∃ (dC : Nat → ClassId) (dI : Nat → Nat → Nat) (ck : Nat → ClassId), K2 (dC, dI) ck s := by
  obtain ⟨c0, i0, k0⟩ := u_known (C := RX0) (T := TX0) (N := 5) (n := 5) hts iwX0 (hts (.instantiable RX0 5) (lwt1 (List.mem_of_getElem? (l := tables_1_1) (i := 20) (by decide +kernel))))
  obtain ⟨c1, i1, k1⟩ := u_known (C := RX1) (T := TX1) (N := 2) (n := 2) hts iwX1 (hts (.instantiable RX1 2) (lwt1 (List.mem_of_getElem? (l := tables_1_1) (i := 90) (by decide +kernel))))
  obtain ⟨c2, i2, k2⟩ := u_known (C := RX2) (T := TX2) (N := 3) (n := 3) hts iwX2 (hts (.instantiable RX2 3) (lwt1 (List.mem_of_getElem? (l := tables_1_1) (i := 52) (by decide +kernel))))
  obtain ⟨c3, i3, k3⟩ := u_known (C := RX3) (T := TX3) (N := 2) (n := 2) hts iwX3 (hts (.instantiable RX3 2) (lwt1 (List.mem_of_getElem? (l := tables_1_1) (i := 107) (by decide +kernel))))
  obtain ⟨c4, i4, k4⟩ := u_known (C := RX4) (T := TX4) (N := 4) (n := 4) hts iwX4 (hts (.instantiable RX4 4) (lwt1 (List.mem_of_getElem? (l := tables_1_1) (i := 58) (by decide +kernel))))
  obtain ⟨c5, i5, k5⟩ := u_known (C := RX5) (T := TX5) (N := 6) (n := 6) hts iwX5 (hts (.instantiable RX5 6) (lwt1 (List.mem_of_getElem? (l := tables_1_1) (i := 12) (by decide +kernel))))
  obtain ⟨a0, _, _, f0, g0, h0⟩ := Cond.arrayClass_spec (hts (.arrayClass .int) (lwt1 (List.mem_of_getElem? (l := tables_1_1) (i := 50) (by decide +kernel))))
  obtain ⟨a1, _, _, f1, g1, h1⟩ := Cond.arrayClass_spec (hts (.arrayClass .byte) (lwt1 (List.mem_of_getElem? (l := tables_1_1) (i := 119) (by decide +kernel))))
  have hao : (Cond.arrayOver (.object "SheetMarks$Facts")).before args s = true := hts (.arrayOver (.object "SheetMarks$Facts")) (lwt1 (List.mem_of_getElem? (l := tables_1_1) (i := 96) (by decide +kernel)))
  obtain ⟨_, a4, _, e1, e2, e3, e4, e5⟩ := Cond.arrayOver_spec hao
  refine ⟨fun k => if k = 0 then c0 else if k = 1 then c1 else if k = 2 then c2 else if k = 3 then c3 else if k = 4 then c4 else c5, fun k => if k = 0 then i0 else if k = 1 then i1 else if k = 2 then i2 else if k = 3 then i3 else if k = 4 then i4 else i5, fun k => if k = 0 then a0 else if k = 1 then a1 else a4, ⟨⟨?_, ?_⟩, ⟨fun q hq => va_Nw.of rfl (hts _ (nwF_in q hq)), fun q hq => va_Nw.of rfl (hts _ (nwM_in q hq))⟩⟩, va_AO.of hao⟩
  · intro k q hq
    match k, hq with
    | 0, hq => cases hq; exact k0
    | 1, hq => cases hq; exact k1
    | 2, hq => cases hq; exact k2
    | 3, hq => cases hq; exact k3
    | 4, hq => cases hq; exact k4
    | 5, hq => cases hq; exact k5
    | k + 6, hq => simp [vwCl] at hq
  · intro k q hq
    match k, hq with
    | 0, hq => cases hq; exact ⟨fun n z => ⟨(fun k h => by cases h), _, g0, _, h0⟩, f0⟩
    | 1, hq => cases hq; exact ⟨fun n z => ⟨(fun k h => by cases h), _, g1, _, h1⟩, f1⟩
    | 2, hq => cases hq; exact ⟨fun n z => ⟨(fun k h => by cases h), _, g0, _, h0⟩, f0⟩
    | 3, hq => cases hq; exact ⟨fun n z => ⟨(fun k h => by cases h), _, g0, _, h0⟩, f0⟩
    | 4, hq => cases hq; exact ⟨fun n z => ⟨(fun k h => by cases h), _, e3, _, e4⟩, ⟨_, _, e3, e4, e1, e5⟩⟩
    | k + 5, hq => simp at hq
