/-! ===== rules 6 and 7, the reference ===== -/
def FT (a : Sh) (t : Nat → Int32) (i c : Nat) : Prop := inF a i c = true ∧ bt (t (ow a i)) c = false ∧ fb_ct (fun c => inF a i c && bt (t (ow a i)) c) 18 = 2
