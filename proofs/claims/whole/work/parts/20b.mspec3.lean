/-! ===== the reference: its text, its forecasts ===== -/
theorem loop_wf (P : Nat → Prop) (n : Nat) (hs : ∀ k, k ≤ n → (∀ j, k < j → j ≤ n → P j) → P k) : ∀ k, k ≤ n → P k := by
  have key : ∀ m k, n - k < m → k ≤ n → P k := by
    intro m
    induction m with
    | zero => intro k h; exact absurd h (by omega)
    | succ m ih => intro k h hk; exact hs k hk (fun j h1 h2 => ih j (by omega) h2)
  exact fun k hk => key (n - k + 1) k (by omega) hk
theorem inb_dg {c : Nat} (h : c < 256) : inb (nI c) (nI 48) (nI 57) = dg c := by
  unfold inb dg
  apply decide_eq_decide.mpr
  rw [nI_ltI (by omega) (by omega), nI_ltI (by omega) (by omega)]
  omega
theorem inb_le {c m : Nat} (h : c < 2 ^ 31) (hm : m < 2 ^ 31) : inb (nI c) (nI 0) (nI m) = decide (c ≤ m) := by
  unfold inb
  apply decide_eq_decide.mpr
  rw [nI_ltI (by omega) (by omega), nI_ltI (by omega) (by omega)]
  omega
def chk (t : Nat → Nat) (M : Int32) (n k : Nat) (ms mi : Bool) (it : Nat) : Option Nat × Nat :=
  if n ≤ k then ((if it = 0 then some n else bif ms then none else some n), it)
  else if (sg (t k) && ms) = true then chk t M n (k + 1) false true it
  else if mi = true then
    (if t k = 111 then
      (if (decide (k + 1 < n) && dg (t (k + 1)) && tb M (t (k + 1) - 48)) = true then chk t M n (k + 1 + 1) true mi (it + 1) else (some (k + 1), it))
    else if (ix (t k)).isSome = true then chk t M n (k + 0 + 1) true mi (it + 1) else (some k, it))
  else (some k, it)
termination_by n - k
section Chk
variable {t : Nat → Nat} {M : Int32} {n k it : Nat} {ms mi : Bool}
theorem chk_end (h : n ≤ k) : chk t M n k ms mi it = ((if it = 0 then some n else bif ms then none else some n), it) := by rw [chk, if_pos h]
theorem chk_sg (h : ¬ n ≤ k) (h1 : sg (t k) = true) (h2 : ms = true) : chk t M n k ms mi it = chk t M n (k + 1) false true it := by
  rw [chk, if_neg h, if_pos (by rw [h1, h2]; rfl)]
theorem chk_nm (h : ¬ n ≤ k) (h1 : (sg (t k) && ms) = false) (h2 : mi = false) : chk t M n k ms mi it = (some k, it) := by
  rw [chk, if_neg h, if_neg (by rw [h1]; decide), if_neg (by rw [h2]; decide)]
theorem chk_oo (h : ¬ n ≤ k) (h1 : (sg (t k) && ms) = false) (h2 : mi = true) (h3 : t k = 111) (h4 : k + 1 < n) (h5 : dg (t (k + 1)) = true) (h6 : tb M (t (k + 1) - 48) = true) : chk t M n k ms mi it = chk t M n (k + 1 + 1) true mi (it + 1) := by
  rw [chk, if_neg h, if_neg (by rw [h1]; decide), if_pos h2, if_pos h3, if_pos (by rw [h5, h6, decide_eq_true h4]; rfl)]
theorem chk_ob (h : ¬ n ≤ k) (h1 : (sg (t k) && ms) = false) (h2 : mi = true) (h3 : t k = 111) (h4 : (decide (k + 1 < n) && dg (t (k + 1)) && tb M (t (k + 1) - 48)) = false) : chk t M n k ms mi it = (some (k + 1), it) := by
  rw [chk, if_neg h, if_neg (by rw [h1]; decide), if_pos h2, if_pos h3, if_neg (by rw [h4]; decide)]
theorem chk_mo (h : ¬ n ≤ k) (h1 : (sg (t k) && ms) = false) (h2 : mi = true) (h3 : ¬ t k = 111) (h4 : (ix (t k)).isSome = true) : chk t M n k ms mi it = chk t M n (k + 0 + 1) true mi (it + 1) := by
  rw [chk, if_neg h, if_neg (by rw [h1]; decide), if_pos h2, if_neg h3, if_pos h4]
theorem chk_mb (h : ¬ n ≤ k) (h1 : (sg (t k) && ms) = false) (h2 : mi = true) (h3 : ¬ t k = 111) (h4 : (ix (t k)).isSome = false) : chk t M n k ms mi it = (some k, it) := by
  rw [chk, if_neg h, if_neg (by rw [h1]; decide), if_pos h2, if_neg h3, if_neg (by rw [h4]; decide)]
end Chk
/-- what applyText does with a character: modes, sign, now -/
def atF (g ch c : Nat) (S : Int32 × Bool × (Nat → Int32)) : Int32 × Bool × (Nat → Int32) :=
  let is := bif sg c then decide (c = 43) else S.2.1
  ((match ix c with | none => S.1 | some j => bif is then S.1 ||| bt j else S.1 &&& (bt j ^^^ (-1))), is, bif dg c then mso S.2.2 g (c - 48) ch is else S.2.2)
def atx (t g : Nat → Nat) (ch k : Nat) (S : Int32 × Bool × (Nat → Int32)) : Int32 × Bool × (Nat → Int32) := fo k (fun i S => atF (g i) ch (t i) S) S
theorem atF_lo {g ch c i : Nat} {S : Int32 × Bool × (Nat → Int32)} (hi : i < 130) : (atF g ch c S).2.2 i = S.2.2 i := by
  unfold atF
  dsimp only
  cases dg c
  · rfl
  · exact mso_lo hi
theorem atx_lo {t g : Nat → Nat} {ch i : Nat} {S : Int32 × Bool × (Nat → Int32)} (k : Nat) (hi : i < 130) : (atx t g ch k S).2.2 i = S.2.2 i :=
  fo_keep (fun S : Int32 × Bool × (Nat → Int32) => S.2.2 i) _ (fun _ _ => atF_lo hi) k S
theorem mus_of {N M : Nat → Int32} (h : ∀ i, i < 130 → N i = M i) {a n : Nat} (ha : a < 6) (hn : n < 10) : mus N a n = mus M a n := by
  unfold mus; rw [h _ (by omega)]
theorem mhm_of {N M : Nat → Int32} (h : ∀ i, i < 130 → N i = M i) {S : Int32} {n : Nat} (hn : n < 10) : ∀ {c : Nat}, c ≤ 6 → mhm N c S n = mhm M c S n
  | 0, _ => rfl
  | c + 1, hc => by
    show mhF N S n c (mhm N c S n) = mhF M S n c (mhm M c S n)
    unfold mhF
    rw [mhm_of h hn (by omega), mus_of h (by omega) hn]
def mbu (N : Nat → Int32) (c s : Nat) : Nat := fo 4 (fun ch x => x + cb 10 (mni (mj N 70 ch) c (mnet N c s)) + (if cb 10 (mni (mj N 70 ch) c (mnet N c s)) = 0 then 0 else cb 10 (N (214 + 4 * s + ch)))) (cb 10 (mnet N c s) + cb 10 (mni (mus N) c (mnet N c s)))
def mou (N : Nat → Int32) (c : Nat) (S : Int32) : Nat := fo c (fun h x => x + (bif tb S h then 0 else cb 10 (mni (mus N) c (bt h)))) 0
/-- the time of a nick's user in a network, as the reference has it -/
def mtn (N : Nat → Int32) (c : Nat) (S : Int32) (n : Nat) : Int32 := match mhm N c S n with
  | none => -9
  | some h => N (10 + (10 * h + n))
def rgp (N : Nat → Int32) (c g : Nat) (S : Int32) (G : Nat → Int32) : Nat → Int32 := fo 10 (fun n G => upd G (60 * 0 + 10 * g + n) (mtn N c S n)) G
/-- two times of a nick meet: the kills, and who stays -/
def mgK (a b : Int32) : Nat := if a = -9 then 0 else if b = -9 then 0 else if a = b then 2 else 1
def mgS (a b : Int32) : Int32 := if a = -9 then b else if b = -9 then a else if a = b then -9 else if b ≤ a then b else a
theorem mgK_1 {a b : Int32} (h : a = -9) : mgK a b = 0 := if_pos h
theorem mgK_2 {a b : Int32} (h : ¬ a = -9) (h2 : b = -9) : mgK a b = 0 := by unfold mgK; rw [if_neg h, if_pos h2]
theorem mgK_3 {a b : Int32} (h : ¬ a = -9) (h2 : ¬ b = -9) (h3 : a = b) : mgK a b = 2 := by unfold mgK; rw [if_neg h, if_neg h2, if_pos h3]
theorem mgK_4 {a b : Int32} (h : ¬ a = -9) (h2 : ¬ b = -9) (h3 : ¬ a = b) : mgK a b = 1 := by unfold mgK; rw [if_neg h, if_neg h2, if_neg h3]
theorem mgS_1 {a b : Int32} (h : a = -9) : mgS a b = b := if_pos h
theorem mgS_2 {a b : Int32} (h : ¬ a = -9) (h2 : b = -9) : mgS a b = a := by unfold mgS; rw [if_neg h, if_pos h2]
theorem mgS_3 {a b : Int32} (h : ¬ a = -9) (h2 : ¬ b = -9) (h3 : a = b) : mgS a b = -9 := by unfold mgS; rw [if_neg h, if_neg h2, if_pos h3]
theorem mgS_4 {a b : Int32} (h : ¬ a = -9) (h2 : ¬ b = -9) (h3 : ¬ a = b) (h4 : b ≤ a) : mgS a b = b := by unfold mgS; rw [if_neg h, if_neg h2, if_neg h3, if_pos h4]
theorem mgS_5 {a b : Int32} (h : ¬ a = -9) (h2 : ¬ b = -9) (h3 : ¬ a = b) (h4 : ¬ b ≤ a) : mgS a b = a := by unfold mgS; rw [if_neg h, if_neg h2, if_neg h3, if_neg h4]
abbrev av_G2 : Type := Nat × (Nat → Int32)
def mgF (lv p q n : Nat) (S : av_G2) : av_G2 := (S.1 + mgK (S.2 (60 * lv + 10 * p + n)) (S.2 (60 * lv + 10 * q + n)), upd S.2 (60 * lv + 10 * p + n) (mgS (S.2 (60 * lv + 10 * p + n)) (S.2 (60 * lv + 10 * q + n))))
def mgg (G : Nat → Int32) (lv p q k : Nat) : av_G2 := fo k (fun n S => mgF lv p q n S) (0, G)
theorem mgK_le (a b : Int32) : mgK a b ≤ 2 := by unfold mgK; (repeat' split) <;> omega
theorem mgg_le (G : Nat → Int32) (lv p q k : Nat) : (mgg G lv p q k).1 ≤ 2 * k := by
  induction k with
  | zero => exact Nat.le_refl 0
  | succ k ih =>
    show (mgg G lv p q k).1 + mgK ((mgg G lv p q k).2 (60 * lv + 10 * p + k)) ((mgg G lv p q k).2 (60 * lv + 10 * q + k)) ≤ 2 * (k + 1)
    have := mgK_le ((mgg G lv p q k).2 (60 * lv + 10 * p + k)) ((mgg G lv p q k).2 (60 * lv + 10 * q + k))
    omega
