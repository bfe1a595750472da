/-! ===== the reference's search of plans, over its own rows ===== -/
abbrev av_R4 : Type := Nat × Int32 × (Nat → Int32) × (Nat → Int32)
def rdF (N : Nat → Int32) (c s : Nat) (S : av_R4) : av_R4 := bif tb S.2.1 s then S else (S.1 + 1, S.2.1 ||| mnet N c s, rgp N c S.1 (mnet N c s) S.2.2.1, upd S.2.2.2 S.1 (nI s))
def rd (N : Nat → Int32) (c : Nat) (G P : Nat → Int32) (k : Nat) : av_R4 := fo k (fun s S => rdF N c s S) (0, nI 0, G, P)
theorem rd_le (N : Nat → Int32) (c : Nat) (G P : Nat → Int32) (k : Nat) : (rd N c G P k).1 ≤ k := by
  induction k with
  | zero => exact Nat.le_refl 0
  | succ k ih =>
    show (rdF N c k (rd N c G P k)).1 ≤ k + 1
    unfold rdF
    cases tb (rd N c G P k).2.1 k
    · exact Nat.succ_le_succ ih
    · exact Nat.le_succ_of_le ih
/-- level v's groups copied to the next level, the pair merged there, the last group put in the second's place -/
def dcG (G : Nat → Int32) (v : Nat) : Nat → Int32 := fo 60 (fun k G => upd G (60 * v + 60 + k) (G (60 * v + k))) G
def dcL (G : Nat → Int32) (v q w : Nat) : Nat → Int32 := fo 10 (fun n G => upd G (60 * (v + 1) + 10 * q + n) (G (60 * (v + 1) + 10 * (w - 1) + n))) G
def dcK (G : Nat → Int32) (v p q : Nat) : Nat := (mgg (dcG G v) (v + 1) p q 10).1
def dcA (G : Nat → Int32) (v p q w : Nat) : Nat → Int32 := dcL (mgg (dcG G v) (v + 1) p q 10).2 v q w
def npP (p q w : Nat) : Nat := if q + 1 = w then p + 1 else p
def npQ (p q w : Nat) : Nat := if q + 1 = w then p + 1 + 1 else q + 1
/-- the store behind nextPair, and behind descend -/
def nps (s : av_S) (v p q w : Nat) : av_S := av_set (av_set s 83 (upd (s 83) v (nI (npP p q w)))) 84 (upd (s 84) v (nI (npQ p q w)))
def dsc (s : av_S) (v p q w K : Nat) : av_S := av_set (av_set (av_set (av_set s 81 (dcA (s 81) v p q w)) 83 (upd (s 83) (v + 1) (nI 0))) 84 (upd (s 84) (v + 1) (nI 0))) 85 (upd (s 85) (v + 1) (nI (K + dcK (s 81) v p q)))
theorem upd_self {f : Nat → Int32} {k : Nat} {v : Int32} (h : f k = v) : upd f k v = f := by
  funext j; unfold upd; split
  · rename_i e; rw [e, h]
  · rfl
/-- leastKills and bestPair, where a plan is complete at level v -/
def upb (s : av_S) (v p0 q0 : Nat) : av_S := if s 77 11 ≤ s 85 (v + 1) then s else av_set s 77 (upd (upd (s 77) 11 (s 85 (v + 1))) 12 (nI 10 * s 82 p0 + s 82 q0))
