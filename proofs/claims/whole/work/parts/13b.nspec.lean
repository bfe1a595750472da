/-! ===== the class's public answers, in words of its arrays ===== -/
theorem nar_c {q : Nat} (h : q < 65536) : vp_nar .char (nI q) = nI q := by
  unfold vp_nar; rw [(pk_charN h).1]
def rch (L : Nat → Int32) (a k : Nat) : Int32 := fo k (fun _ r => wn L r) (bt a)
def hpI (L : Nat → Int32) (a b : Nat) : Int32 := match fnd 6 0 (fun k => tb (rch L a k) b) with
  | some k => nI k
  | none => -9
