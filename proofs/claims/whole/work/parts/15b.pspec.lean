/-! ===== the class's search of plans, over its own rows ===== -/
def mb3F (f : Nat → Int32) (n w : Nat) (S : Nat × Int32 × Bool) : Nat × Int32 × Bool :=
  if f (w * 10 + n) = -1 then S else (S.1 + 1, f (w * 10 + n), S.2.2 || (decide (¬ S.1 = 0) && decide (¬ f (w * 10 + n) = S.2.1)))
def mb3 (f : Nat → Int32) (n k : Nat) : Nat × Int32 × Bool := fo k (fun w S => mb3F f n w S) (0, -1, false)
theorem mb3_le (f : Nat → Int32) (n k : Nat) : (mb3 f n k).1 ≤ k := by
  induction k with
  | zero => exact Nat.le_refl 0
  | succ k ih =>
    show (mb3F f n k (mb3 f n k)).1 ≤ k + 1
    unfold mb3F
    split
    · omega
    · exact Nat.succ_le_succ ih
def mbl (f : Nat → Int32) (N n : Nat) : Bool := (mb3 f n N).2.2 || decide (¬ nI (mb3 f n N).1 &&& nI 1 = 0)
def chp (f : Nat → Int32) (N : Nat) : Nat := fo 10 (fun n c => bif mbl f N n then c + 1 else c) 0
theorem chp_le (f : Nat → Int32) (N : Nat) : chp f N ≤ 10 := by
  have : ∀ k, fo k (fun n c => bif mbl f N n then c + 1 else c) 0 ≤ k := by
    intro k
    induction k with
    | zero => exact Nat.le_refl 0
    | succ k ih =>
      rw [fo_s]
      cases mbl f N k
      · exact Nat.le_succ_of_le ih
      · exact Nat.succ_le_succ ih
  exact this 10
def mr1F (f : Nat → Int32) (b w : Nat) (S : Nat × (Nat → Int32)) : Nat × (Nat → Int32) := if w = b then S else (S.1 + 1, va_cpy f S.2 (w * 10) (S.1 * 10) 10)
def mr1 (f g : Nat → Int32) (b k : Nat) : Nat × (Nat → Int32) := fo k (fun w S => mr1F f b w S) (0, g)
theorem mr1_le (f g : Nat → Int32) (b k : Nat) : (mr1 f g b k).1 ≤ k := by
  induction k with
  | zero => exact Nat.le_refl 0
  | succ k ih =>
    show (mr1F f b k (mr1 f g b k)).1 ≤ k + 1
    unfold mr1F
    split
    · omega
    · exact Nat.succ_le_succ ih
def mrg (f g : Nat → Int32) (N a b : Nat) : Nat → Int32 := fo 10 (fun n G => upd G (a * 10 + n) (srv (f (a * 10 + n)) (f (b * 10 + n)))) (mr1 f g b N).2
def opn (p a b : Nat) (s : av_S) : av_S := if p = 0 then av_set s 68 (upd (s 68) 2 (nI 10 * s 76 a + s 76 b)) else s
def mgd (p N a b : Nat) (s : av_S) : av_S := av_set s (70 + (p + 1)) (mrg (s (70 + p)) (s (70 + (p + 1))) N a b)
def stpF (R : av_S → av_S) (p N a b : Nat) (s : av_S) : av_S := if p + 1 < 6 then R (mgd p N a b (opn p a b s)) else opn p a b s
theorem opn_t {p a b : Nat} {s : av_S} (h : p = 0) : opn p a b s = av_set s 68 (upd (s 68) 2 (nI 10 * s 76 a + s 76 b)) := if_pos h
theorem opn_f {p a b : Nat} {s : av_S} (h : ¬ p = 0) : opn p a b s = s := if_neg h
theorem mgd_68 {p N a b : Nat} {s : av_S} {f : Nat → Int32} : mgd p N a b (av_set s 68 f) = av_set (av_set s 68 f) (70 + (p + 1)) (mrg (s (70 + p)) (s (70 + (p + 1))) N a b) := by
  unfold mgd; rw [av_set_ne _ _ (by omega), av_set_ne _ _ (by omega)]
theorem stpF_t {R : av_S → av_S} {p N a b : Nat} {s : av_S} (h : p + 1 < 6) : stpF R p N a b s = R (mgd p N a b (opn p a b s)) := if_pos h
theorem stpF_f {R : av_S → av_S} {p N a b : Nat} {s : av_S} (h : ¬ p + 1 < 6) : stpF R p N a b s = opn p a b s := if_neg h
def lnkF (R : av_S → av_S) (p N a : Nat) (s : av_S) : av_S := fo (N - (a + 1)) (fun j s => stpF R p N a (a + 1 + j) s) s
def lnks (R : av_S → av_S) (p N : Nat) (s : av_S) : av_S := fo N (fun a s => lnkF R p N a s) s
def srch : Nat → Nat → Nat → av_S → av_S
  | 0, _, _, s => s
  | m + 1, p, N, s =>
    if s 68 4 < nI (chp (s (70 + p)) N) then
      (if N ≤ 1 then av_set s 68 (upd (upd (s 68) 4 (nI (chp (s (70 + p)) N))) 3 (s 68 2))
      else lnks (srch m (p + 1) (N - 1)) p N s)
    else s
abbrev av_L4 : Type := Nat × Int32 × (Nat → Int32) × (Nat → Int32)
def ldR (U : Nat → Int32) (S : Int32) (w : Nat) (G : Nat → Int32) : Nat → Int32 := fo 10 (fun n G => upd G (w * 10 + n) (tn U S n)) G
def ldF (c : Int32) (L U : Nat → Int32) (s : Nat) (S : av_L4) : av_L4 := bif sv c (nI s) && !tb S.2.1 s then (S.1 + 1, S.2.1 ||| net L s, ldR U (net L s) S.1 S.2.2.1, upd S.2.2.2 S.1 (nI s)) else S
def ld (c : Int32) (L U G P : Nat → Int32) (k : Nat) : av_L4 := fo k (fun s S => ldF c L U s S) (0, nI 0, G, P)
theorem ld_le (c : Int32) (L U G P : Nat → Int32) (k : Nat) : (ld c L U G P k).1 ≤ k := by
  induction k with
  | zero => exact Nat.le_refl 0
  | succ k ih =>
    show (ldF c L U k (ld c L U G P k)).1 ≤ k + 1
    unfold ldF
    cases (sv c (nI k) && !tb (ld c L U G P k).2.1 k)
    · exact Nat.le_succ_of_le ih
    · exact Nat.succ_le_succ ih
def fb0 (σ : av_S) : av_S := av_set (av_set (av_set σ 68 (upd (upd (σ 68) 2 (-9)) 4 (-1))) 70 (ld (σ 0 0) (σ 1) (σ 2) (σ 70) (σ 76) 6).2.2.1) 76 (ld (σ 0 0) (σ 1) (σ 2) (σ 70) (σ 76) 6).2.2.2
def fbS (σ : av_S) : av_S := fun k => if k < 68 then σ k else if k = 69 then σ k else if k < 77 then srch 6 0 (ld (σ 0 0) (σ 1) (σ 2) (σ 70) (σ 76) 6).1 (fb0 σ) k else σ k
theorem fo_keep {α β : Type} (v : α → β) (f : Nat → α → α) (h : ∀ k a, v (f k a) = v a) : ∀ n a, v (fo n f a) = v a
  | 0, _ => rfl
  | n + 1, a => (h n _).trans (fo_keep v f h n a)
theorem srch_other {k : Nat} (h68 : k ≠ 68) (h70 : k < 70 ∨ 76 ≤ k) : ∀ (m p N : Nat) (s : av_S), p + m = 6 → srch m p N s k = s k
  | 0, _, _, _, _ => rfl
  | m + 1, p, N, s, hp => by
    unfold srch
    split
    case isFalse => rfl
    case isTrue =>
      split
      · exact av_set_ne _ _ h68
      · refine fo_keep (fun t : av_S => t k) _ (fun a t => ?_) _ _
        refine fo_keep (fun t : av_S => t k) _ (fun j t => ?_) _ _
        have hop : opn p a (a + 1 + j) t k = t k := by
          unfold opn
          split
          · exact av_set_ne _ _ h68
          · rfl
        show stpF _ p N a (a + 1 + j) t k = t k
        unfold stpF
        split
        · rw [srch_other h68 h70 m (p + 1) (N - 1) _ (by omega)]
          unfold mgd
          rw [av_set_ne _ _ (by omega)]
          exact hop
        · exact hop
theorem fbS_raw (σ : av_S) : srch 6 0 (ld (σ 0 0) (σ 1) (σ 2) (σ 70) (σ 76) 6).1 (fb0 σ) = fbS σ := by
  funext k
  unfold fbS
  have ho : k ≠ 68 → (k < 70 ∨ 76 < k) → fb0 σ k = σ k := fun h1 h2 => by
    unfold fb0 av_set
    rw [if_neg (by omega), if_neg (by omega), if_neg (by omega)]
  by_cases h1 : k < 68
  · rw [if_pos h1, srch_other (by omega) (by omega) 6 0 _ _ rfl]
    exact ho (by omega) (by omega)
  · rw [if_neg h1]
    by_cases h2 : k = 69
    · rw [if_pos h2, srch_other (by omega) (by omega) 6 0 _ _ rfl]
      exact ho (by omega) (by omega)
    · rw [if_neg h2]
      by_cases h3 : k < 77
      · rw [if_pos h3]
      · rw [if_neg h3, srch_other (by omega) (by omega) 6 0 _ _ rfl]
        exact ho (by omega) (by omega)
