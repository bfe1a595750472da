/-! ===== the mode text, in words of its characters ===== -/
def sg (c : Nat) : Bool := decide (c = 43 ∨ c = 45)
def dg (c : Nat) : Bool := decide (48 ≤ c ∧ c ≤ 57)
theorem dg_ge {c : Nat} (h : dg c = true) : 48 ≤ c ∧ c ≤ 57 := of_decide_eq_true h
def ix (c : Nat) : Option Nat := fnd 6 0 (fun i => decide (mb i = (nI c).toInt8.toInt32))
theorem ix_lt {c j : Nat} (h : ix c = some j) : j < 6 := by
  have := (fnd_lt h).1; omega
def pa (p c : Nat) (M : Int32) : Nat :=
  if p = 4 then (bif dg c && tb M (c - 48) then 3 else 0)
  else bif sg c then (if p = 2 then 0 else 2)
  else if p = 1 then 0 else if c = 111 then 4 else (bif (ix c).isSome then 3 else 0)
def pl (t : Nat → Nat) (M : Int32) (k : Nat) : Nat := fo k (fun i p => pa p (t i) M) 1
theorem pa_le (p c : Nat) (M : Int32) : pa p c M ≤ 4 := by
  unfold pa
  split
  · cases (dg c && tb M (c - 48)) <;> decide
  · cases sg c
    · show (if p = 1 then 0 else if c = 111 then 4 else (bif (ix c).isSome then 3 else 0)) ≤ 4
      split
      · decide
      · split
        · decide
        · cases (ix c).isSome <;> decide
    · show (if p = 2 then 0 else 2) ≤ 4
      split <;> decide
theorem pl_le (t : Nat → Nat) (M : Int32) (k : Nat) : pl t M k ≤ 4 := by
  cases k with
  | zero => exact (by decide : 1 ≤ 4)
  | succ k => exact pa_le _ _ _
def eo (t : Nat → Nat) (n : Nat) (M : Int32) : Option Nat := match fnd n 0 (fun i => decide (pl t M (i + 1) = 0)) with
  | some k => some k
  | none => if pl t M n = 3 then none else some n
theorem eo_lt {t : Nat → Nat} {n j : Nat} {M : Int32} (h : eo t n M = some j) : j ≤ n := by
  unfold eo at h
  cases hf : fnd n 0 (fun i => decide (pl t M (i + 1) = 0)) with
  | some k =>
    rw [hf] at h
    cases h
    have := (fnd_lt hf).1; omega
  | none =>
    rw [hf] at h
    dsimp only at h
    split at h
    · cases h
    · cases h; exact Nat.le_refl _
def maF (c : Nat) (S : Int32 × Bool) : Int32 × Bool := bif sg c then (S.1, decide (c = 43)) else match ix c with
  | some j => (wb S.1 j S.2, S.2)
  | none => S
def ma (t : Nat → Nat) (k : Nat) (S : Int32 × Bool) : Int32 × Bool := fo k (fun i S => maF (t i) S) S
def oaF (c : Nat) (S : Int32 × Bool) : Int32 × Bool := bif sg c then (S.1, decide (c = 43)) else bif dg c then (wb S.1 (c - 48) S.2, S.2) else S
def oa (t : Nat → Nat) (k : Nat) (S : Int32 × Bool) : Int32 × Bool := fo k (fun i S => oaF (t i) S) S
def ciF (c n : Nat) : Nat := bif sg c then n else bif dg c then n else n + 1
def ci (t : Nat → Nat) (k : Nat) : Nat := fo k (fun i n => ciF (t i) n) 0
