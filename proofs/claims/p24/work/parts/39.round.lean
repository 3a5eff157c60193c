/-! ===== a round, as the document has it ===== -/
def g0 : Gh := fun _ _ => 0
def hin (o κ c : Nat) : Bool := if o = 5 then decide (c / 6 = κ) else true
def s2 (a : Sh) (Y : Mk) : Nat → Nat → Prop := fun x c => own a x ∧ ∃ o, o < 6 ∧ o ≠ x ∧ own a o ∧ Y o c = true
def s3 (a : Sh) (N : Mk) : Nat → Nat → Prop := fun x c => own a x ∧ N x c = false ∧ ∀ o, o < 6 → o ≠ x → own a o → N o c = true
def s4 (a : Sh) (Y : Mk) : Nat → Nat → Prop := fun x c => own a x ∧ ∃ κ, κ < 3 ∧ hin x κ c = true ∧ hs a x ≤ fb_ct (fun c => Y x c && hin x κ c) 18 ∧ Y x c = false
def s5 (a : Sh) (N : Mk) : Nat → Nat → Prop := fun x c => own a x ∧ ∃ κ, κ < 3 ∧ hin x κ c = true ∧ fb_ct (fun c => hin x κ c && !N x c) 18 ≤ hs a x ∧ N x c = false
def sT (a : Sh) (K : Nat) (T : Mk) : Nat → Nat → Prop := fun x c => ∃ j, j < sn a ∧ kd a j = K ∧ x = ow a j ∧ inF a j c = true ∧ T (ow a j) c = false ∧ fb_ct (fun c => inF a j c && T (ow a j) c) 18 = 2
noncomputable def gY (a : Sh) (Y N : Mk) : Gh := app (app (app (app g0 Y 1 (r1y a 0)) Y 3 (s3 a N)) Y 5 (s5 a N)) Y 6 (sT a 2 N)
noncomputable def gN (a : Sh) (Y N : Mk) : Gh := app (app (app (app g0 N 1 (r1n a 0)) N 2 (s2 a Y)) N 4 (s4 a Y)) N 7 (sT a 3 Y)
def eqR (σ τ : Gh) : Prop := ∀ o c, o < 6 → c < 18 → σ o c = τ o c
theorem eqR.rf {σ : Gh} : eqR σ σ := fun _ _ _ _ => rfl
theorem app_r {σ τ : Gh} {M : Mk} {r : Nat} {P Q : Nat → Nat → Prop} (h : eqR σ τ) (hP : ∀ o c, o < 6 → c < 18 → (P o c ↔ Q o c)) : eqR (app σ M r P) (app τ M r Q) := by
  intro o c ho hc
  unfold app
  rw [h o c ho hc]
  exact ifp_c ⟨fun q => ⟨q.1, q.2.1, (hP o c ho hc).mp q.2.2⟩, fun q => ⟨q.1, q.2.1, (hP o c ho hc).mpr q.2.2⟩⟩
theorem RX.cong {M : Mk} {σ τ : Gh} {k : Nat} {TR TL : Gh} {x xR xL : Nat → Int32} (e : eqR σ τ) (h : RX M σ k TR TL x xR xL) : RX M τ k TR TL x xR xL := fun o ho => ⟨(h o ho).1, fun c hc => by
  have := (h o ho).2 c hc
  rw [e o c ho hc] at this
  exact this⟩
theorem IM.cong {q : Int32} {s1 s2 t1 t2 : Gh} (e1 : eqR s1 t1) (e2 : eqR s2 t2) (h : IM q s1 s2) : IM q t1 t2 := by
  rcases h with ⟨e, o, c, h1, h2, h3⟩ | ⟨e, h⟩
  · exact Or.inl ⟨e, o, c, h1, h2, by rw [← e1 o c h1 h2, ← e2 o c h1 h2]; exact h3⟩
  · exact Or.inr ⟨e, fun o c h1 h2 => by rw [← e1 o c h1 h2, ← e2 o c h1 h2]; exact h o c h1 h2⟩
/-- rows that are just the marks -/
def MB (M : Mk) (t : Nat → Int32) : Prop := ∀ o, o < 6 → M18 (t o) ∧ ∀ c, c < 18 → bt (t o) c = M o c
theorem RX.mb {M : Mk} {σ : Gh} {k : Nat} {TR TL : Gh} {x xR xL : Nat → Int32} (h : RX M g0 k TR TL x xR xL) : MB M x := fun o ho => ⟨(h o ho).1, fun c hc => by rw [((h o ho).2 c hc).1]; show (M o c || decide ((0 : Nat) ≠ 0)) = _; cases M o c <;> rfl⟩
theorem b_hm {o κ : Nat} (h : κ < 3) {c : Nat} (hc : c < 18) : bt (hm o κ) c = hin o κ c := by
  unfold hm hin
  split
  · exact b_kind2 κ h c (by omega)
  · exact b_all c hc
theorem c_R2 {a : Sh} {Y : Mk} {yt : Nat → Int32} (h : MB Y yt) : ∀ x c, x < 6 → c < 18 → (R2 a yt x c ↔ s2 a Y x c) := fun x c _ hc => ⟨fun ⟨h1, o, h2, h3, h4, h5⟩ => ⟨h1, o, h2, h3, h4, by rw [← (h o h2).2 c hc]; exact h5⟩, fun ⟨h1, o, h2, h3, h4, h5⟩ => ⟨h1, o, h2, h3, h4, by rw [(h o h2).2 c hc]; exact h5⟩⟩
theorem c_R3 {a : Sh} {N : Mk} {nt : Nat → Int32} (h : MB N nt) : ∀ x c, x < 6 → c < 18 → (c < 18 ∧ R3 a nt x c ↔ s3 a N x c) := fun x c hx hc => ⟨fun ⟨_, h1, h2, h3⟩ => ⟨h1, by rw [← (h x hx).2 c hc]; exact h2, fun o ho hne hw => by rw [← (h o ho).2 c hc]; exact h3 o ho hne hw⟩, fun ⟨h1, h2, h3⟩ => ⟨hc, h1, by rw [(h x hx).2 c hc]; exact h2, fun o ho hne hw => by rw [(h o ho).2 c hc]; exact h3 o ho hne hw⟩⟩
theorem c_4 {Y : Mk} {yt : Nat → Int32} (h : MB Y yt) {x κ : Nat} (hx : x < 6) (hκ : κ < 3) : cnt (yt x &&& hm x κ) = fb_ct (fun c => Y x c && hin x κ c) 18 := fb_ct_cong fun c hc => by rw [b_and, (h x hx).2 c hc, b_hm hκ hc]
theorem c_5 {N : Mk} {nt : Nat → Int32} (h : MB N nt) {x κ : Nat} (hx : x < 6) (hκ : κ < 3) : cnt (hm x κ &&& (nt x ^^^ (-1 : Int32))) = fb_ct (fun c => hin x κ c && !N x c) 18 := fb_ct_cong fun c hc => by rw [b_and, b_not _ (by omega), (h x hx).2 c hc, b_hm hκ hc]
theorem c_R4 {a : Sh} {Y : Mk} {yt : Nat → Int32} (h : MB Y yt) : ∀ x c, x < 6 → c < 18 → ((0 ≤ x ∧ own a x ∧ ∃ κ, κ < 3 ∧ F4 a yt x κ c) ↔ s4 a Y x c) := fun x c hx hc => ⟨fun ⟨_, h1, κ, h2, h3, h4, h5⟩ => ⟨h1, κ, h2, by rw [← b_hm h2 hc]; exact h3, by rw [← c_4 h hx h2]; exact h4, by rw [← (h x hx).2 c hc]; exact h5⟩, fun ⟨h1, κ, h2, h3, h4, h5⟩ => ⟨Nat.zero_le _, h1, κ, h2, by rw [b_hm h2 hc]; exact h3, by rw [c_4 h hx h2]; exact h4, by rw [(h x hx).2 c hc]; exact h5⟩⟩
theorem c_R5 {a : Sh} {N : Mk} {nt : Nat → Int32} (h : MB N nt) : ∀ x c, x < 6 → c < 18 → ((0 ≤ x ∧ own a x ∧ ∃ κ, κ < 3 ∧ F5 a nt x κ c) ↔ s5 a N x c) := fun x c hx hc => ⟨fun ⟨_, h1, κ, h2, h3, h4, h5⟩ => ⟨h1, κ, h2, by rw [← b_hm h2 hc]; exact h3, by rw [← c_5 h hx h2]; exact h4, by rw [← (h x hx).2 c hc]; exact h5⟩, fun ⟨h1, κ, h2, h3, h4, h5⟩ => ⟨Nat.zero_le _, h1, κ, h2, by rw [b_hm h2 hc]; exact h3, by rw [c_5 h hx h2]; exact h4, by rw [(h x hx).2 c hc]; exact h5⟩⟩
theorem ow6 {a : Sh} (hw : WF a) {j : Nat} (hj : j < sn a) : ow a j < 6 := by
  obtain ⟨w1, w2, w3, -⟩ := hw.2.2.2 j hj
  have := hw.2.1
  rcases Nat.lt_or_ge (kd a j) 3 with h | h
  · have := w2 h; omega
  · have := w3 (by omega); omega
theorem c_RT {a : Sh} (hw : WF a) {T : Mk} {t : Nat → Int32} {K : Nat} (h : MB T t) : ∀ x c, x < 6 → c < 18 → ((∃ j, 0 ≤ j ∧ j < sn a ∧ kd a j = K ∧ x = ow a j ∧ FT a t j c) ↔ sT a K T x c) := by
  intro x c hx hc
  have hct : ∀ j, j < sn a → fb_ct (fun c => inF a j c && bt (t (ow a j)) c) 18 = fb_ct (fun c => inF a j c && T (ow a j) c) 18 := fun j hj => fb_ct_cong fun c hc => by rw [(h _ (ow6 hw hj)).2 c hc]
  constructor
  · rintro ⟨j, _, h1, h2, h3, h4, h5, h6⟩
    exact ⟨j, h1, h2, h3, h4, by rw [← (h _ (ow6 hw h1)).2 c hc]; exact h5, by rw [← hct j h1]; exact h6⟩
  · rintro ⟨j, h1, h2, h3, h4, h5, h6⟩
    exact ⟨j, Nat.zero_le _, h1, h2, h3, h4, by rw [(h _ (ow6 hw h1)).2 c hc]; exact h5, by rw [hct j h1]; exact h6⟩
theorem MB.eq {M : Mk} {s t : Nat → Int32} (h : MB M s) (e : ∀ x, x < 6 → t x = s x) : MB M t := fun o ho => by rw [e o ho]; exact h o ho
