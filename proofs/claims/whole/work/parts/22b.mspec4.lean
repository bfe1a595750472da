/-! ===== the reference's search of plans, over its own rows ===== -/
abbrev av_R4 : Type := Nat × Int32 × (Nat → Int32) × (Nat → Int32)
def rdF (N : Nat → Int32) (c s : Nat) (S : av_R4) : av_R4 := bif tb S.2.1 s then S else (S.1 + 1, S.2.1 ||| mnet N c s, rgp N c S.1 (mnet N c s) S.2.2.1, upd S.2.2.2 S.1 (nI s))
def rd (N : Nat → Int32) (c : Nat) (G P : Nat → Int32) (k : Nat) : av_R4 := fo k (fun s S => rdF N c s S) (0, nI 0, G, P)
theorem rd_le (N : Nat → Int32) (c : Nat) (G P : Nat → Int32) (k : Nat) : (rd N c G P k).1 ≤ k := by
  induction k with
  | zero => exact Nat.le_refl 0
  | succ k ih =>
    show (rdF N c k (rd N c G P k)).1 ≤ k + 1
    unfold rdF
    cases tb (rd N c G P k).2.1 k
    · exact Nat.succ_le_succ ih
    · exact Nat.le_succ_of_le ih
/-- level v's groups copied to the next level, the pair merged there, the last group put in the second's place -/
def dcG (G : Nat → Int32) (v : Nat) : Nat → Int32 := fo 60 (fun k G => upd G (60 * v + 60 + k) (G (60 * v + k))) G
def dcL (G : Nat → Int32) (v q w : Nat) : Nat → Int32 := fo 10 (fun n G => upd G (60 * (v + 1) + 10 * q + n) (G (60 * (v + 1) + 10 * (w - 1) + n))) G
def dcK (G : Nat → Int32) (v p q : Nat) : Nat := (mgg (dcG G v) (v + 1) p q 10).1
def dcA (G : Nat → Int32) (v p q w : Nat) : Nat → Int32 := dcL (mgg (dcG G v) (v + 1) p q 10).2 v q w
def npP (p q w : Nat) : Nat := if q + 1 = w then p + 1 else p
def npQ (p q w : Nat) : Nat := if q + 1 = w then p + 1 + 1 else q + 1
/-- the store behind nextPair, and behind descend -/
def nps (s : av_S) (v p q w : Nat) : av_S := av_set (av_set s 83 (upd (s 83) v (nI (npP p q w)))) 84 (upd (s 84) v (nI (npQ p q w)))
def dsc (s : av_S) (v p q w K : Nat) : av_S := av_set (av_set (av_set (av_set s 81 (dcA (s 81) v p q w)) 83 (upd (s 83) (v + 1) (nI 0))) 84 (upd (s 84) (v + 1) (nI 0))) 85 (upd (s 85) (v + 1) (nI (K + dcK (s 81) v p q)))
theorem upd_self {f : Nat → Int32} {k : Nat} {v : Int32} (h : f k = v) : upd f k v = f := by
  funext j; unfold upd; split
  · rename_i e; rw [e, h]
  · rfl
/-- leastKills and bestPair, where a plan of K kills is complete -/
def upb (s : av_S) (K p0 q0 : Nat) : av_S := if s 77 11 ≤ nI K then s else av_set s 77 (upd (upd (s 77) 11 (nI K)) 12 (nI 10 * s 82 p0 + s 82 q0))
theorem upb_t {s : av_S} {K p q : Nat} (h : s 77 11 ≤ nI K) : upb s K p q = s := if_pos h
theorem upb_f {s : av_S} {K p q : Nat} (h : ¬ s 77 11 ≤ nI K) : upb s K p q = av_set s 77 (upd (upd (s 77) 11 (nI K)) 12 (nI 10 * s 82 p + s 82 q)) := if_neg h
/-- the loop at level v with w groups, from the pair p, q on -/
def itr (B : Nat → Nat → av_S → av_S) (v w : Nat) : Nat → Nat → Nat → av_S → av_S
  | 0, _, _, s => s
  | f + 1, p, q, s => if npQ p q w < w then itr B v w f (npP p q w) (npQ p q w) (B (npP p q w) (npQ p q w) (nps s v p q w)) else nps s v p q w
def dfsB (R : Nat → Nat → Nat → av_S → av_S) (w v K p0 q0 p q : Nat) (s : av_S) : av_S :=
  if w = 2 then upb (dsc s v p q w K) (K + dcK (s 81) v p q) (if v = 0 then p else p0) (if v = 0 then q else q0)
  else R (K + dcK (s 81) v p q) (if v = 0 then p else p0) (if v = 0 then q else q0) (dsc s v p q w K)
def dfs : Nat → Nat → Nat → Nat → Nat → av_S → av_S
  | 0, _, _, _, _, s => s
  | w + 1, v, K, p0, q0, s => itr (dfsB (dfs w (v + 1)) (w + 1) v K p0 q0) v (w + 1) 60 0 0 s
