/-! ===== the reference, in words of its array now (N) ===== -/
def inb (v a b : Int32) : Bool := decide (¬ v < a ∧ ¬ b < v)
theorem has_t {S : Int32} {k : Nat} (hk : k < 32) (h : (S >>> (nI k &&& 31)) &&& nI 1 = nI 1) : tb S k = true := by
  rw [hb_val hk] at h
  cases q : tb S k
  · rw [q] at h; exact absurd h (by decide)
  · rfl
theorem has_f {S : Int32} {k : Nat} (hk : k < 32) (h : ¬ (S >>> (nI k &&& 31)) &&& nI 1 = nI 1) : tb S k = false := by
  rw [hb_val hk] at h
  cases q : tb S k
  · rfl
  · rw [q] at h; exact absurd rfl h
theorem cb_add {S : Int32} {k : Nat} (hk : k < 32) : nI (cb k S) + ((S >>> (nI k &&& 31)) &&& nI 1) = nI (cb (k + 1) S) := by
  rw [hb_val hk, cb_s]
  cases tb S k
  · show nI (cb k S) + nI 0 = nI (cb k S + 0); rw [nI_add]
  · show nI (cb k S) + nI 1 = nI (cb k S + 1); rw [nI_add]
theorem sv_inb {n : Nat} (hn : 1 ≤ n) (hn2 : n < 2 ^ 30) (x : Int32) : inb x (nI 0) (nI (n - 1)) = sv (nI n) x := by
  unfold inb sv
  apply decide_eq_decide.mpr
  rw [show nI 0 = 0 from rfl]
  constructor
  · rintro ⟨h1, h2⟩
    refine ⟨h1, fun h3 => h2 ?_⟩
    obtain ⟨j, hj, rfl⟩ := nI_of h1
    have := (nI_leI (by omega) hj).mp h3
    exact (nI_ltI (by omega) hj).mpr (by omega)
  · rintro ⟨h1, h2⟩
    refine ⟨h1, fun h3 => h2 ?_⟩
    obtain ⟨j, hj, rfl⟩ := nI_of h1
    have := (nI_ltI (by omega) hj).mp h3
    exact (nI_leI (by omega) hj).mpr (by omega)
def mr0 (k : Nat) : Int32 := if 10 ≤ k ∧ k < 70 then -9 else nI 0
def mrs (N : Nat → Int32) (x : Int32) : Nat → Int32 := upd (fo 238 (fun k g => upd g k (mr0 k)) N) 0 x
/-- save: the whole row is put behind the last kept one; the eighth pushes the first out -/
def svP (H N : Nat → Int32) (u : Nat) : Nat → Int32 := fo 238 (fun k g => upd g (238 * u + k) (N k)) H
def svS (H : Nat → Int32) : Nat → Int32 := fo 1666 (fun k g => upd g k (g (k + 238))) H
def svH (H N : Nat → Int32) (u : Nat) : Nat → Int32 := if u = 8 then svP (svS H) N 7 else svP H N u
def svU (u : Nat) : Nat := if u = 8 then 8 else u + 1
def unN (N H : Nat → Int32) (u : Nat) : Nat → Int32 := fo 238 (fun k g => upd g k (H (238 * u + k))) N
def mnF (N : Nat → Int32) (k : Nat) (S : Int32) : Int32 := S ||| (bif tb S k then N (4 + k) else nI 0)
theorem mnF_t {N : Nat → Int32} {k : Nat} {S : Int32} (h : tb S k = true) : mnF N k S = S ||| N (4 + k) := by unfold mnF; rw [h]; rfl
theorem mnF_f {N : Nat → Int32} {k : Nat} {S : Int32} (h : tb S k = false) : mnF N k S = S ||| nI 0 := by unfold mnF; rw [h]; rfl
def mnR (N : Nat → Int32) (c : Nat) (S : Int32) : Int32 := fo c (fun k S => mnF N k S) S
def mnet (N : Nat → Int32) (c s : Nat) : Int32 := fo 6 (fun _ S => mnR N c S) (bt s)
def ml1 (x : Int32) (k : Nat) (p : Bool) : Int32 := (x &&& (bt k ^^^ (-1))) ||| (bif p then bt k else nI 0)
def mlk (N : Nat → Int32) (a b : Nat) (p : Bool) : Nat → Int32 := upd (upd N (4 + a) (ml1 (N (4 + a)) b p)) (4 + b) (ml1 (upd N (4 + a) (ml1 (N (4 + a)) b p) (4 + b)) a p)
theorem upd_upd {f : Nat → Int32} {k : Nat} {v w : Int32} : upd (upd f k v) k w = upd f k w := by funext j; unfold upd; split <;> rfl
theorem upd_ne {f : Nat → Int32} {k j : Nat} {v : Int32} (h : j ≠ k) : upd f k v j = f j := if_neg h
theorem upd_eq {f : Nat → Int32} {k : Nat} {v : Int32} : upd f k v k = v := if_pos rfl
theorem mlk_0 {N : Nat → Int32} {a b : Nat} {p : Bool} {i : Nat} (h : i < 4) : mlk N a b p i = N i := by
  unfold mlk; rw [upd_ne (by omega), upd_ne (by omega)]
def mus (N : Nat → Int32) (h n : Nat) : Bool := decide (¬ N (10 + (10 * h + n)) = -9)
def oJ : Option Nat → Int32
  | none => -9
  | some k => nI k
def mhF (N : Nat → Int32) (S : Int32) (n h : Nat) (o : Option Nat) : Option Nat := bif tb S h && mus N h n then some h else o
def mhm (N : Nat → Int32) (c : Nat) (S : Int32) (n : Nat) : Option Nat := fo c (fun h o => mhF N S n h o) none
theorem mhm_lt {N : Nat → Int32} {S : Int32} {n : Nat} : ∀ {c j : Nat}, mhm N c S n = some j → j < c
  | 0, j, h => by cases h
  | c + 1, j, h => by
    have h2 : mhF N S n c (mhm N c S n) = some j := h
    unfold mhF at h2
    cases q : (tb S c && mus N c n) with
    | true => rw [q] at h2; cases h2; exact Nat.lt_succ_self _
    | false => rw [q] at h2; exact Nat.lt_succ_of_lt (mhm_lt h2)
/-- the nicks n of the homes h of a network for which q h n holds -/
def mni (q : Nat → Nat → Bool) (c : Nat) (S : Int32) : Int32 := fo c (fun h a => fo 10 (fun n a => a ||| (bif tb S h && q h n then bt n else nI 0)) a) (nI 0)
def mj (N : Nat → Int32) (t ch : Nat) (h n : Nat) : Bool := tb (N (t + (10 * h + n))) ch
def mrm (N : Nat → Int32) (h n : Nat) : Nat → Int32 := upd (upd (upd N (10 + (10 * h + n)) (-9)) (70 + (10 * h + n)) (nI 0)) (130 + (10 * h + n)) (nI 0)
