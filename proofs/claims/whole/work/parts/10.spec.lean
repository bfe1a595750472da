/-! ===== what the class's State does, in words of its arrays (L links, U times, M member sets, O operator sets, C times or modes of channels) ===== -/
def sv (c x : Int32) : Bool := decide (¬ x < 0 ∧ ¬ c ≤ x)
def lkL (L : Nat → Int32) (a b : Nat) (p : Bool) : Nat → Int32 := upd (upd L a (wb (L a) b p)) b (wb (upd L a (wb (L a) b p) b) a p)
def wn (L : Nat → Int32) (S : Int32) : Int32 := fo 6 (fun k a => bif tb S k then a ||| L k else a) S
def net (L : Nat → Int32) (s : Nat) : Int32 := fo 5 (fun _ r => wn L r) (bt s)
def us (U : Nat → Int32) (s n : Nat) : Bool := decide (¬ U (s * 10 + n) = -1)
def oI : Option Nat → Int32
  | none => -1
  | some k => nI k
def fnd : Nat → Nat → (Nat → Bool) → Option Nat
  | 0, _, _ => none
  | m + 1, k, p => bif p k then some k else fnd m (k + 1) p
theorem fnd_lt : ∀ {m k j : Nat} {p : Nat → Bool}, fnd m k p = some j → j < k + m ∧ p j = true
  | 0, k, j, p, h => by cases h
  | m + 1, k, j, p, h => by
    unfold fnd at h
    cases hp : p k with
    | true => rw [hp] at h; cases h; exact ⟨by omega, hp⟩
    | false =>
      rw [hp] at h
      have := fnd_lt (m := m) h
      exact ⟨by omega, this.2⟩
theorem fnd_go {N k : Nat} {p : Nat → Bool} (h : k < N) : fnd (N - k) k p = bif p k then some k else fnd (N - (k + 1)) (k + 1) p := by
  obtain ⟨m, hm⟩ : ∃ m, N - k = m + 1 := ⟨N - k - 1, by omega⟩
  rw [hm, show N - (k + 1) = m by omega]
  rfl
theorem nI_neg {e : Nat} {c : Int32} (h : e < 2 ^ 31) (hc : c < 0) : ¬ nI e = c := fun q => nI_pos h (by rw [q]; exact hc)
def hm (U : Nat → Int32) (S : Int32) (n : Nat) : Option Nat := fnd 6 0 (fun s => tb S s && us U s n)
theorem hm_lt {U : Nat → Int32} {S : Int32} {n j : Nat} (h : hm U S n = some j) : j < 6 := by
  have := (fnd_lt h).1; omega
/-- the time of the user with a nick in a network -/
def tn (U : Nat → Int32) (S : Int32) (n : Nat) : Int32 := match hm U S n with
  | none => -1
  | some k => U (k * 10 + n)
def nk (U : Nat → Int32) (S : Int32) : Int32 := fo 10 (fun n a => wb a n (hm U S n).isSome) (nI 0)
def cuN (U : Nat → Int32) (S : Int32) (s n c : Nat) : Nat := bif tb S s && us U s n then c + 1 else c
def cu (U : Nat → Int32) (S : Int32) : Nat := fo 6 (fun s c => fo 10 (fun n c => cuN U S s n c) c) 0
def cc4 (M : Nat → Int32) (s n : Nat) : Nat := fo 4 (fun ch c => bif tb (M (s * 4 + ch)) n then c + 1 else c) 0
def rmM (M : Nat → Int32) (s n ch : Nat) : Nat → Int32 := upd M (s * 4 + ch) (wb (M (s * 4 + ch)) n false)
def adM (M : Nat → Int32) (s n ch : Nat) : Nat → Int32 := upd M (s * 4 + ch) (wb (M (s * 4 + ch)) n true)
def rmA (M : Nat → Int32) (s n : Nat) : Nat → Int32 := fo 4 (fun ch M => rmM M s n ch) M
def cpM (n n2 s ch : Nat) (M : Nat → Int32) : Nat → Int32 := bif tb (M (s * 4 + ch)) n then adM M s n2 ch else M
theorem cpM_t {n n2 s ch : Nat} {M : Nat → Int32} (h : tb (M (s * 4 + ch)) n = true) : cpM n n2 s ch M = adM M s n2 ch := by unfold cpM; rw [h]; rfl
theorem cpM_f {n n2 s ch : Nat} {M : Nat → Int32} (h : tb (M (s * 4 + ch)) n = false) : cpM n n2 s ch M = M := by unfold cpM; rw [h]; rfl
def cpA (M : Nat → Int32) (s n n2 : Nat) : Nat → Int32 := fo 4 (fun ch M => cpM n n2 s ch M) M
def un (M : Nat → Int32) (S : Int32) (ch : Nat) : Int32 := fo 6 (fun s a => bif tb S s then a ||| M (s * 4 + ch) else a) (nI 0)
def soF (M : Nat → Int32) (S : Int32) (ch : Nat) (N : Int32) (s : Nat) (O : Nat → Int32) : Nat → Int32 := bif tb S s then upd O (s * 4 + ch) (M (s * 4 + ch) &&& N) else O
def so (M O : Nat → Int32) (S : Int32) (ch : Nat) (N : Int32) : Nat → Int32 := fo 6 (fun s O => soF M S ch N s O) O
def dsF (S : Int32) (ch : Nat) (v : Int32) (s : Nat) (C : Nat → Int32) : Nat → Int32 := bif tb S s then upd C (s * 4 + ch) v else C
def ds (C : Nat → Int32) (S : Int32) (ch : Nat) (v : Int32) : Nat → Int32 := fo 6 (fun s C => dsF S ch v s C) C
/-- a channel exists -/
def hc (L M : Nat → Int32) (s ch : Nat) : Bool := decide (¬ un M (net L s) ch = 0)
/-! ===== copies of states, the ring of them ===== -/
def cpN (r : Nat) : Nat := if r = 0 then 4 else if r = 1 then 6 else if r = 2 then 60 else 24
def cpS (σ : av_S) (a b : Nat) : av_S := fun c => if 7 * a ≤ c ∧ c < 7 * a + 7 then (fun i => if i < cpN (c - 7 * a) then σ (7 * b + (c - 7 * a)) i else σ c i) else σ c
def fl (f : Nat → Int32) (n : Nat) (v : Int32) : Nat → Int32 := fo n (fun k g => upd g k v) f
def nxt (j : Nat) : Nat := if j = 7 then 0 else j + 1
def prv (j : Nat) : Nat := if j = 0 then 7 else j - 1
def hkeep (σ : av_S) (j c : Nat) : av_S := fun k => if k < 7 then σ k else if k < 63 then cpS σ (j + 1) 0 k else if k = 64 then upd (upd (σ 64) 1 (nI (nxt j))) 2 (nI (min (c + 1) 8)) else σ k
def htake (σ : av_S) (j c : Nat) : av_S := fun k => if k < 7 then (fun i => if i < cpN k then σ (7 * (prv j + 1) + k) i else σ k i) else if k = 64 then upd (upd (σ 64) 1 (nI (prv j))) 2 (nI (c - 1)) else σ k
theorem hkeep_raw {σ : av_S} {j c : Nat} (hj : j < 8) : av_set (cpS σ (j + 1) 0) 64 (upd (upd (σ 64) 1 (nI (nxt j))) 2 (nI (min (c + 1) 8))) = hkeep σ j c := by
  funext k
  unfold av_set hkeep
  by_cases h64 : k = 64
  · subst h64; rfl
  · rw [if_neg h64]
    by_cases h7 : k < 7
    · rw [if_pos h7]; unfold cpS; rw [if_neg (by omega)]
    · rw [if_neg h7]
      by_cases h63 : k < 63
      · rw [if_pos h63]
      · rw [if_neg h63, if_neg h64]; unfold cpS; rw [if_neg (by omega)]
theorem htake_raw {σ : av_S} {j c : Nat} (hj : j < 8) : cpS (av_set σ 64 (upd (upd (σ 64) 1 (nI (prv j))) 2 (nI (c - 1)))) 0 (prv j + 1) = htake σ j c := by
  have hp : prv j < 8 := by unfold prv; split <;> omega
  funext k
  unfold cpS htake
  by_cases h7 : k < 7
  · rw [if_pos (by omega), if_pos h7]
    funext i
    rw [show k - 7 * 0 = k by omega]
    unfold av_set
    rw [if_neg (show ¬ 7 * (prv j + 1) + k = 64 by omega), if_neg (show ¬ k = 64 by omega)]
  · rw [if_neg (by omega), if_neg h7]
    unfold av_set
    rfl
/-- the messages of a burst of a server's network -/
def cmF (L M C : Nat → Int32) (s ch : Nat) (x : Int32) : Int32 := if jbc (un M (net L s) ch) ≤ 0 then x else x + (jbc (un M (net L s) ch) + jbc (C (s * 4 + ch)))
def cm (L U M C : Nat → Int32) (s : Nat) : Int32 := fo 4 (fun ch x => cmF L M C s ch x) (jbc (net L s) + nI (cu U (net L s)))
/-! ===== merging ===== -/
def srv (a b : Int32) : Int32 := if a = -1 ∨ b = -1 then imax a b else if a = b then -1 else imin a b
def ckF (U : Nat → Int32) (l r : Int32) (n c : Nat) : Nat := if tn U l n = -1 ∨ tn U r n = -1 then c else if srv (tn U l n) (tn U r n) = -1 then c + 2 else c + 1
def ck (U : Nat → Int32) (l r : Int32) : Nat := fo 10 (fun n c => ckF U l r n c) 0
def rmU (U : Nat → Int32) (s n : Nat) : Nat → Int32 := upd U (s * 10 + n) (-1)
abbrev av_T3 : Type := (Nat → Int32) × (Nat → Int32) × (Nat → Int32)
def rm3 (T : av_T3) (s n : Nat) : av_T3 := (rmU T.1 s n, rmA T.2.1 s n, rmA T.2.2 s n)
def sc3 (T : av_T3) (n a b : Nat) : av_T3 :=
  let s := srv (T.1 (a * 10 + n)) (T.1 (b * 10 + n))
  let T1 := if T.1 (a * 10 + n) = s then T else rm3 T a n
  if T.1 (b * 10 + n) = s then T1 else rm3 T1 b n
def sn3F (l r : Int32) (n : Nat) (T : av_T3) : av_T3 := match hm T.1 l n, hm T.1 r n with
  | some a, some b => sc3 T n a b
  | _, _ => T
def sn3 (l r : Int32) (T : av_T3) : av_T3 := fo 10 (fun n T => sn3F l r n T) T
theorem sn3F_ss {l r : Int32} {n a b : Nat} {T : av_T3} (h1 : hm T.1 l n = some a) (h2 : hm T.1 r n = some b) : sn3F l r n T = sc3 T n a b := by unfold sn3F; rw [h1, h2]
theorem sn3F_n1 {l r : Int32} {n : Nat} {T : av_T3} (h1 : hm T.1 l n = none) : sn3F l r n T = T := by unfold sn3F; rw [h1]
theorem sn3F_n2 {l r : Int32} {n : Nat} {T : av_T3} (h2 : hm T.1 r n = none) : sn3F l r n T = T := by
  unfold sn3F; rw [h2]; cases hm T.1 l n <;> rfl
abbrev av_T4 : Type := (Nat → Int32) × (Nat → Int32) × (Nat → Int32) × (Nat → Int32)
def tc4 (T : av_T4) (N : Int32) (s ch : Nat) : av_T4 := (T.1, T.2.1, ds T.2.2.1 N ch (T.2.2.1 (s * 4 + ch)), ds T.2.2.2 N ch (T.2.2.2 (s * 4 + ch)))
def ov4 (L M : Nat → Int32) (T : av_T4) (o y ch : Nat) : av_T4 := tc4 (upd (upd T.1 2 (T.1 2 + jbc (un T.2.1 (net L y) ch))) 3 (T.1 3 + jbc (T.2.2.2 (y * 4 + ch))), so M T.2.1 (net L y) ch (nI 0), T.2.2.1, T.2.2.2) (net L y) o ch
def uc4 (L M : Nat → Int32) (T : av_T4) (a b ch : Nat) : av_T4 :=
  if T.2.2.1 (b * 4 + ch) ≤ T.2.2.1 (a * 4 + ch) then
    (if T.2.2.1 (a * 4 + ch) ≤ T.2.2.1 (b * 4 + ch) then
      (T.1, T.2.1, ds (ds T.2.2.1 (net L a) ch (T.2.2.1 (a * 4 + ch))) (net L b) ch (T.2.2.1 (a * 4 + ch)), ds (ds T.2.2.2 (net L a) ch (T.2.2.2 (a * 4 + ch) ||| T.2.2.2 (b * 4 + ch))) (net L b) ch (T.2.2.2 (a * 4 + ch) ||| T.2.2.2 (b * 4 + ch)))
    else ov4 L M T b a ch)
  else ov4 L M T a b ch
def sh4F (L M : Nat → Int32) (a b ch : Nat) (T : av_T4) : av_T4 :=
  bif hc L M a ch then (bif hc L M b ch then uc4 L M T a b ch else tc4 T (net L b) a ch) else (bif hc L M b ch then tc4 T (net L a) b ch else T)
def sh4 (L M : Nat → Int32) (a b : Nat) (T : av_T4) : av_T4 := fo 4 (fun ch T => sh4F L M a b ch T) (upd (upd T.1 2 (nI 0)) 3 (nI 0), T.2.1, T.2.2.1, T.2.2.2)
