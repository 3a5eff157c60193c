/-! ===== constructors: what makes cells ===== -/
abbrev AOF (U : State) : Prop := va_AO "SheetMarks$Facts" U
def K2 (D : va_G) (ck : Nat → ClassId) (U : State) : Prop := KN D ck U ∧ AOF U
theorem K2.warm {D : va_G} {ck : Nat → ClassId} {s U : State} (hW : s.WarmedH U.vm) (h : K2 D ck s) : K2 D ck U := ⟨h.1.warm hW, va_AO.moved hW.alike h.2⟩
theorem K2.calling {D : va_G} {ck : Nat → ClassId} {U : State} (g : JFrame) (mk : MethodId) (a : Array Value) (h : K2 D ck U) : K2 D ck (U.calling g mk a) := ⟨h.1.calling g mk a, va_AO.moved (u := U) (U := U.calling g mk a) (Vm.Alike.refl U.vm) h.2⟩
def BN (D : va_G) (ck : Nat → ClassId) (w : va_W) (sz : Nat) : State → Prop := fun U => U.heap.size = sz ∧ va_P D vwCl w U.heap ∧ K2 D ck U ∧ va_D (fun _ => True) w
theorem BN.blind {D : va_G} {ck : Nat → ClassId} {w : va_W} {sz : Nat} {av : List Value} : FrameBlind (va_Pc av (BN D ck w sz)) := fun a U g mk q => ⟨q.1, q.2.1, q.2.2.1, K2.calling g mk a q.2.2.2.1, q.2.2.2.2⟩
abbrev QN (D : va_G) (P : va_W → Prop) (A : Nat → Prop) : Array Value → State → Outcome → State → Prop := va_Qv (fun w' : va_W => P w') (fun w' t => va_P D vwCl w' t.heap ∧ va_D A w') A
abbrev QNi (D : va_G) (P : Int32 → va_W → Prop) (A : Nat → Prop) : Array Value → State → Outcome → State → Prop := va_Qi (fun (r : Int32) (w' : va_W) => P r w') (fun w' t => va_P D vwCl w' t.heap ∧ va_D A w') A
/-- a method that makes at most mc cells of ms slots and turns its world w into one with P -/
def MN (l : Launch) (y : MethodName) (ws : List Cond) (rm : Room) (av : List Value) (D : va_G) (ck : Nat → ClassId) (w : va_W) (mc ms : Nat) (P : va_W → Prop) : Prop := ∀ sz : Nat, Met l y ws rm (va_Pc av (BN D ck w sz)) (QN D P (va_A w sz)) mc ms (va_A w sz)
def MNi (l : Launch) (y : MethodName) (ws : List Cond) (rm : Room) (av : List Value) (D : va_G) (ck : Nat → ClassId) (w : va_W) (mc ms : Nat) (P : Int32 → va_W → Prop) : Prop := ∀ sz : Nat, Met l y ws rm (va_Pc av (BN D ck w sz)) (QNi D P (va_A w sz)) mc ms (va_A w sz)
theorem MN.ofW {l : Launch} {y : MethodName} {ws ws' : List Cond} {rm : Room} {av : List Value} {D : va_G} {ck : Nat → ClassId} {w : va_W} {mc ms : Nat} {P : va_W → Prop} {cc : ByteArray} {maxL : Nat} {ret : Option FieldType} (hy : plainName y.cls = true) (hw : ws = Cond.code y cc maxL ret :: ws') (hlen : (lg_sl av).length ≤ maxL)
    (body : ∀ (p : Program) (e : Env) (s : State) (m : MethodId) (below : List Frame) (meth : Method) (c : Code), p.tables.exec = Jvm.exec → c.code = cc → meth.sig.returnType = ret → c.maxLocals = maxL → (∀ w ∈ ws, w.before av.toArray s = true) → s.vm.findClass y.cls = some m.cls → meth.name = y.name → meth.locks = false → K2 D ck s → va_P D vwCl w s.heap →
      ∀ (A : Nat → Prop), (∀ q : Nat, s.heap.size ≤ q → A q) → va_D A w → ∀ ls : Array Slot, lv_has ls maxL (lv_args 0 av) → W p l e (headSpec ws rm).room s m av.toArray below meth c s.heap [] 0 0 (MQ below (QN D P A) av.toArray s mc ms A) (F0 m 0 ls [])) : MN l y ws rm av D ck w mc ms P := by
  intro sz
  refine Met.ofW (cc := cc) (maxL := maxL) (ret := ret) hy hw ?_
  intro p e s m args below meth c s₁ B hml hv
  obtain ⟨rfl, hsz, hP, hK, hD0⟩ := hv
  subst hsz
  rw [lg_entry_eq]
  exact body p e s m below meth c B.exec B.bytes B.returns hml (atoms_spec (ws := ws) B.pre) (findClass_of_methodNamed B.named) (name_of_methodNamed B.named B.method).1 B.notSynchronized hK hP _ (fun q h => Or.inr h) hD0.self _ (lv_entry av hlen)
theorem MNi.ofW {l : Launch} {y : MethodName} {ws ws' : List Cond} {rm : Room} {av : List Value} {D : va_G} {ck : Nat → ClassId} {w : va_W} {mc ms : Nat} {P : Int32 → va_W → Prop} {cc : ByteArray} {maxL : Nat} {ret : Option FieldType} (hy : plainName y.cls = true) (hw : ws = Cond.code y cc maxL ret :: ws') (hlen : (lg_sl av).length ≤ maxL)
    (body : ∀ (p : Program) (e : Env) (s : State) (m : MethodId) (below : List Frame) (meth : Method) (c : Code), p.tables.exec = Jvm.exec → c.code = cc → meth.sig.returnType = ret → c.maxLocals = maxL → (∀ w ∈ ws, w.before av.toArray s = true) → s.vm.findClass y.cls = some m.cls → meth.locks = false → K2 D ck s → va_P D vwCl w s.heap →
      ∀ (A : Nat → Prop), (∀ q : Nat, s.heap.size ≤ q → A q) → va_D A w → ∀ ls : Array Slot, lv_has ls maxL (lv_args 0 av) → W p l e (headSpec ws rm).room s m av.toArray below meth c s.heap [] 0 0 (MQ below (QNi D P A) av.toArray s mc ms A) (F0 m 0 ls [])) : MNi l y ws rm av D ck w mc ms P := by
  intro sz
  refine Met.ofW (cc := cc) (maxL := maxL) (ret := ret) hy hw ?_
  intro p e s m args below meth c s₁ B hml hv
  obtain ⟨rfl, hsz, hP, hK, hD0⟩ := hv
  subst hsz
  rw [lg_entry_eq]
  exact body p e s m below meth c B.exec B.bytes B.returns hml (atoms_spec (ws := ws) B.pre) (findClass_of_methodNamed B.named) B.notSynchronized hK hP _ (fun q h => Or.inr h) hD0.self _ (lv_entry av hlen)
section STEPS2
variable {p : Program} {l : Launch} {e : Env} {R : Room} {s : State} {m : MethodId} {args : Array Value} {below : List Frame} {meth : Method} {c : Code} {H : Heap} {locs : List Loc} {cells slots : Nat} {Q : State → Prop}
variable {y : MethodName} {bytes cc : ByteArray} {maxL nL n index pc mc ms : Nat} {ret : Option FieldType} {ws : List Cond} {rm : Room} {Ts : List Cond} {own C : String} {b : Addr} {As rest st0 : List Value} {ls : Array Slot} {D : va_G} {ck : Nat → ClassId} {wd wc wr w1 wn : va_W} {r : Int32} {A : Nat → Prop} {H0 : Heap} {P : va_W → Prop}
/-- a constructor called by its own class' nest mate -/
theorem cNN {host : String} (S : CallFix p m c cc nL s args Ts own) (hK : K2 D ck s) (hP : va_P D vwCl wd H) (hD : va_D A wd) (hS : va_S A H0 H locs) (hA : ∀ q, H0.size ≤ q → A q) (isC isR : List Nat) (hC : isC.map (fun i => wd[i]?) = wc.map some) (hCn : va_nd isC = true) (hR : isR.map (fun i => wd[i]?) = wr.map some) (hRn : va_nd isR = true) (hdis : ∀ i ∈ isR, i ∉ isC) (hM : MN l y ws rm (.ref b :: As) D ck wc mc ms P) (cw : va_CN R s args own index y host bytes maxL none ws rm mc ms n ∧ y.name = "<init>" ∧ (Cond.instanceMethod y).before args s = true) (hn : As.length = n) (hsz : ls.size = nL) (hst : st0 = As.reverse ++ .ref b :: rest) (hroom : (rest.map fun v => v.category).sum ≤ 8) (hdg : decode cc pc = .ok (.invokespecial index, 3)) (hf : cells + mc ≤ R.cells ∧ slots + ms ≤ R.slots)
    (kk : ∀ (w1 : va_W) (H1 : Heap) (locs1 : List Loc), P w1 → va_P D vwCl (wr ++ w1) H1 → va_D A (wr ++ w1) → va_S A H0 H1 locs1 → W p l e R s m args below meth c H1 locs1 (cells + mc) (slots + ms) Q (F0 m (pc + 3) ls rest)) : W p l e R s m args below meth c H locs cells slots Q (F0 m pc ls st0) := by
  have hPc := hP.subm isC hC
  have hDc := hD.sub isC hCn hC
  have hFc := va_free (wc := wc) hD hS hA isC hC
  refine va_callv (va_runIN (g := F0 m pc ls st0) S (hM H.size) cw ⟨BN.blind, fun U hU hW => ⟨rfl, by rw [hU], by rw [hU]; exact hPc, hK.warm hW, hDc.weaken (fun _ _ _ _ => trivial)⟩⟩ rfl hn hsz hst (lv_room hroom) hdg hf) hS (fun q _ h => hFc q h) hFc (fun u t H1 locs1 ht hvm hw hB hz hk hS1 => ?_)
  obtain ⟨hP1, hD1⟩ := hB
  rw [ht] at hP1
  obtain ⟨hP2, hD2⟩ := va_join (wr := wr) (w1 := u) hP hD isC isR hC hR hRn hdis hk hFc hP1 hD1
  exact kk u H1 locs1 hw hP2 hD2 hS1
/-- a constructor that isn't private -/
theorem cNI (S : CallFix p m c cc nL s args Ts own) (hK : K2 D ck s) (hP : va_P D vwCl wd H) (hD : va_D A wd) (hS : va_S A H0 H locs) (hA : ∀ q, H0.size ≤ q → A q) (isC isR : List Nat) (hC : isC.map (fun i => wd[i]?) = wc.map some) (hCn : va_nd isC = true) (hR : isR.map (fun i => wd[i]?) = wr.map some) (hRn : va_nd isR = true) (hdis : ∀ i ∈ isR, i ∉ isC) (hM : MN l y ws rm (.ref b :: As) D ck wc mc ms P) (cw : CallB R s args own index y bytes maxL none ws rm mc ms n ∧ y.name = "<init>" ∧ (Cond.instanceMethod y).before args s = true) (hn : As.length = n) (hsz : ls.size = nL) (hst : st0 = As.reverse ++ .ref b :: rest) (hroom : (rest.map fun v => v.category).sum ≤ 8) (hdg : decode cc pc = .ok (.invokespecial index, 3)) (hf : cells + mc ≤ R.cells ∧ slots + ms ≤ R.slots)
    (kk : ∀ (w1 : va_W) (H1 : Heap) (locs1 : List Loc), P w1 → va_P D vwCl (wr ++ w1) H1 → va_D A (wr ++ w1) → va_S A H0 H1 locs1 → W p l e R s m args below meth c H1 locs1 (cells + mc) (slots + ms) Q (F0 m (pc + 3) ls rest)) : W p l e R s m args below meth c H locs cells slots Q (F0 m pc ls st0) := by
  have hPc := hP.subm isC hC
  have hDc := hD.sub isC hCn hC
  have hFc := va_free (wc := wc) hD hS hA isC hC
  refine va_callv (va_runI (g := F0 m pc ls st0) S (hM H.size) cw ⟨BN.blind, fun U hU hW => ⟨rfl, by rw [hU], by rw [hU]; exact hPc, hK.warm hW, hDc.weaken (fun _ _ _ _ => trivial)⟩⟩ rfl hn hsz hst (lv_room hroom) hdg hf) hS (fun q _ h => hFc q h) hFc (fun u t H1 locs1 ht hvm hw hB hz hk hS1 => ?_)
  obtain ⟨hP1, hD1⟩ := hB
  rw [ht] at hP1
  obtain ⟨hP2, hD2⟩ := va_join (wr := wr) (w1 := u) hP hD isC isR hC hR hRn hdis hk hFc hP1 hD1
  exact kk u H1 locs1 hw hP2 hD2 hS1
theorem eNv {av : Array Value} (hx : p.tables.exec = Jvm.exec) (hb : c.code = cc) (hr : meth.sig.returnType = none) (hlk : meth.locks = false) (hP : va_P D vwCl w1 H) (hD : va_D A w1) (hS : va_S A s.heap H locs) (hp : P w1) (hdg : decode cc pc = .ok (.return_, 1)) : W p l e R s m av below meth c H locs mc ms (MQ below (QN D P A) av s mc ms A) (F0 m pc ls []) :=
  W.vret hx hb hr (fun t ht _ => ⟨⟨w1, rfl, hp, by rw [ht]; exact hP, hD⟩, hS.F ht⟩) hS.2.2 hdg hlk
theorem eNi {av : Array Value} {v : Int32} {Pi : Int32 → va_W → Prop} (hx : p.tables.exec = Jvm.exec) (hb : c.code = cc) (hr : meth.sig.returnType = some .int) (hlk : meth.locks = false) (hP : va_P D vwCl w1 H) (hD : va_D A w1) (hS : va_S A s.heap H locs) (hp : Pi v w1) (hdg : decode cc pc = .ok (.ireturn, 1)) : W p l e R s m av below meth c H locs mc ms (MQ below (QNi D Pi A) av s mc ms A) (F0 m pc ls [.int v]) :=
  W.iret hx hb hr (fun t ht _ => ⟨⟨v, w1, rfl, hp, by rw [ht]; exact hP, hD⟩, hS.F ht⟩) hS.2.2 hdg hlk
/-- a new row of numbers is of the class that all rows of its kind have -/
theorem va_newaC (hx : p.tables.exec = Jvm.exec) (hb : c.code = cc) {atype : ArrayType} (harr : (Cond.arrayClass (newarray.typeOf atype)).before args s = true) {ty : FieldType} (hty : newarray.typeOf atype = ty) (hK : KN D ck s) (hP : va_P D vwCl wd H) (hD : va_D A wd) (hS : va_S A H0 H locs) (hA : ∀ q, H0.size ≤ q → A q) (j : Nat) (hj : (TY ck)[j]? = some (ck j, ty)) (hob : ∀ C, ty ≠ .object C)
    {n : Int32} {N' : Nat} {a0 : vp_A} (ha : ∀ cA : ClassId, vp_cell cA a0 = arrV cA N' (fun _ => defaultValue ty)) (hn : ¬ n < 0) (hN : n.toNatClampNeg = N') (hbytes : N' * componentBytes ty ≤ 536870912) (hcells : cells + 1 ≤ R.cells) (hslots : slots + N' ≤ R.slots) (hdg : decode cc pc = .ok (.newarray atype, 2))
    (kk : ∀ (q : Nat) (H1 : Heap), va_P D vwCl (wd ++ [(q, .inl (ck j, a0))]) H1 → va_D A (wd ++ [(q, .inl (ck j, a0))]) → va_S A H0 H1 locs → W p l e R s m args below meth c H1 locs (cells + 1) (slots + N') Q (F0 m (pc + 2) ls (.ref q :: rest))) : W p l e R s m args below meth c H locs cells slots Q (F0 m pc ls (.int n :: rest)) := by
  refine va_newa hx hb harr hty hK.1 hP hD hS hA ha hn hN hbytes hcells hslots hdg (fun q cA H1 hK1 hP1 hD1 hS1 => ?_)
  have e1 := (hK.1.2 j _ hj).2
  have e2 := (hK1.2 5 (cA, ty) rfl).2
  have e3 : cA = ck j := by
    cases ty with
    | object C => exact absurd rfl (hob C)
    | _ => exact Option.some.inj (Eq.trans (Eq.symm e2) e1)
  subst e3
  exact kk q H1 hP1 hD1 hS1
theorem va_newqC (hx : p.tables.exec = Jvm.exec) (hb : c.code = cc) {own : String} {index : Nat} (hown : s.vm.findClass own = some m.cls) (hclink : (Cond.classLink own index "SheetMarks$Facts").before args s = true) (hK : K2 D ck s) (hP : va_P D vwCl wd H) (hD : va_D A wd) (hS : va_S A H0 H locs) (hA : ∀ q, H0.size ≤ q → A q)
    {n : Int32} {N' : Nat} (hn : ¬ n < 0) (hN : n.toNatClampNeg = N') (hbytes : N' * 4 ≤ 536870912) (hcells : cells + 1 ≤ R.cells) (hslots : slots + N' ≤ R.slots) (hdg : decode cc pc = .ok (.anewarray index, 3))
    (kk : ∀ (q : Nat) (H1 : Heap), va_P D vwCl (wd ++ [(q, .inl (ck 4, N', .inr (.inr (.inr (.inr (fun _ => none))))))]) H1 → va_D A (wd ++ [(q, .inl (ck 4, N', .inr (.inr (.inr (.inr (fun _ => none))))))]) → va_S A H0 H1 locs → W p l e R s m args below meth c H1 locs (cells + 1) (slots + N') Q (F0 m (pc + 3) ls (.ref q :: rest))) : W p l e R s m args below meth c H locs cells slots Q (F0 m pc ls (.int n :: rest)) := by
  refine va_newq hx hb hown hclink hK.2 hK.1.1 hP hD hS hA hn hN hbytes hcells hslots hdg (fun q cA H1 hK1 hP1 hD1 hS1 => ?_)
  have e1 := (hK.1.1.2 4 _ rfl).2
  have e2 := (hK1.2 5 (cA, .object "SheetMarks$Facts") rfl).2
  obtain ⟨_, _, _, _, _, f1⟩ := e1
  obtain ⟨_, _, _, _, _, f2⟩ := e2
  have e3 : cA = ck 4 := Option.some.inj (f2.symm.trans f1)
  subst e3
  exact kk q H1 hP1 hD1 hS1
end STEPS2
abbrev zz : Nat → Int32 := fun _ => 0

