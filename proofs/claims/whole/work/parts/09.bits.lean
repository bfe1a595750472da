/-! ===== bits (begun from kit/laws/BITS.to-paste) ===== -/
theorem tb_ext {x y : Int32} (h : ∀ i, i < 32 → tb x i = tb y i) : x = y := Int32.toBitVec_inj.mp (BitVec.eq_of_getLsbD_eq (fun i hi => h i hi))
theorem tb_or (x y : Int32) (i : Nat) : tb (x ||| y) i = (tb x i || tb y i) := by unfold tb; rw [Int32.toBitVec_or, BitVec.getLsbD_or]
theorem tb_and (x y : Int32) (i : Nat) : tb (x &&& y) i = (tb x i && tb y i) := by unfold tb; rw [Int32.toBitVec_and, BitVec.getLsbD_and]
theorem tb_xor (x y : Int32) (i : Nat) : tb (x ^^^ y) i = (tb x i ^^ tb y i) := by unfold tb; rw [Int32.toBitVec_xor, BitVec.getLsbD_xor]
theorem tb_big {x : Int32} {i : Nat} (h : 32 ≤ i) : tb x i = false := BitVec.getLsbD_of_ge _ _ h
theorem tb_m1 : ∀ i, i < 32 → tb (-1) i = true := by decide +kernel
theorem tb_0 (i : Nat) : tb 0 i = false := BitVec.getLsbD_zero
theorem tb_sl : ∀ n, n < 32 → ((nI n &&& 31).toBitVec.smod 32).toNat = n := by decide +kernel
theorem tb_shl (n : Nat) (hn : n < 32) (x : Int32) {i : Nat} (hi : i < 32) : tb (x <<< (nI n &&& 31)) i = (decide (n ≤ i) && tb x (i - n)) := by
  unfold tb
  rw [Int32.toBitVec_shiftLeft]
  show (x.toBitVec <<< ((nI n &&& 31).toBitVec.smod 32).toNat).getLsbD i = _
  rw [tb_sl n hn, BitVec.getLsbD_shiftLeft]
  rcases Nat.lt_or_ge i n with h | h
  · simp [h, Nat.not_le.mpr h]
  · simp [hi, h, Nat.not_lt.mpr h]
theorem tb_sshr (n : Nat) (hn : n < 32) (x : Int32) {i : Nat} (hi : i < 32) : tb (x >>> (nI n &&& 31)) i = if n + i < 32 then tb x (n + i) else tb x 31 := by
  unfold tb
  rw [Int32.toBitVec_shiftRight]
  show (x.toBitVec.sshiftRight ((nI n &&& 31).toBitVec.smod 32).toNat).getLsbD i = _
  rw [tb_sl n hn, BitVec.getLsbD_sshiftRight, BitVec.msb_eq_getLsbD_last]
  simp [hi]
theorem tb_bt {k : Nat} (hk : k < 32) (i : Nat) : tb (bt k) i = decide (i = k) := by
  by_cases hi : i < 32
  · have h : ∀ k, k < 32 → ∀ i, i < 32 → tb (bt k) i = decide (i = k) := by decide +kernel
    exact h k hk i hi
  · rw [tb_big (by omega)]
    simp; omega
theorem tb_not (x : Int32) {i : Nat} (hi : i < 32) : tb (x ^^^ (-1)) i = !tb x i := by
  rw [tb_xor, tb_m1 i hi]; cases tb x i <;> rfl
theorem tb_n1 (i : Nat) : tb (nI 1) i = decide (i = 0) := tb_bt (k := 0) (by decide) i
theorem hb_get {S : Int32} {k : Nat} (hk : k < 32) (i : Nat) : tb ((S >>> (nI k &&& 31)) &&& nI 1) i = (decide (i = 0) && tb S k) := by
  rw [tb_and, tb_n1]
  by_cases hi : i = 0
  · subst hi
    rw [tb_sshr k hk S (by decide), if_pos (by omega)]
    simp
  · simp [hi]
theorem hb_val {S : Int32} {k : Nat} (hk : k < 32) : (S >>> (nI k &&& 31)) &&& nI 1 = b2i (tb S k) := by
  apply tb_ext
  intro i _
  rw [hb_get hk]
  cases h : tb S k
  · rw [b2i_f, show nI 0 = 0 from rfl, tb_0]; simp
  · rw [b2i_t, tb_n1]; simp
theorem hb_f {S : Int32} {k : Nat} (hk : k < 32) (h : (S >>> (nI k &&& 31)) &&& nI 1 = 0) : tb S k = false := by
  rw [hb_val hk] at h; exact b2i_eq0.mp h
theorem hb_t {S : Int32} {k : Nat} (hk : k < 32) (h : ¬ (S >>> (nI k &&& 31)) &&& nI 1 = 0) : tb S k = true := by
  rw [hb_val hk] at h
  cases q : tb S k
  · rw [q] at h; exact absurd rfl h
  · rfl
/-- a set with a bit put or taken -/
def wb (S : Int32) (k : Nat) (p : Bool) : Int32 := bif p then S ||| bt k else S &&& (bt k ^^^ (-1))
theorem tb_wb {S : Int32} {k : Nat} (hk : k < 32) (p : Bool) {i : Nat} (hi : i < 32) : tb (wb S k p) i = if i = k then p else tb S i := by
  cases p
  · show tb (S &&& (bt k ^^^ (-1))) i = _
    rw [tb_and, tb_not _ hi, tb_bt hk]
    by_cases h : i = k <;> simp [h]
  · show tb (S ||| bt k) i = _
    rw [tb_or, tb_bt hk]
    by_cases h : i = k <;> simp [h]
/-- how many of the bits below n are in x -/
def cb (n : Nat) (x : Int32) : Nat := fo n (fun k c => c + (if tb x k then 1 else 0)) 0
theorem cb_s (n : Nat) (x : Int32) : cb (n + 1) x = cb n x + (if tb x n then 1 else 0) := rfl
theorem cb_le (n : Nat) (x : Int32) : cb n x ≤ n := by
  induction n with
  | zero => exact Nat.le_refl 0
  | succ n ih => rw [cb_s]; split <;> omega
theorem cb_congr {n : Nat} {x y : Int32} (h : ∀ i, i < n → tb x i = tb y i) : cb n x = cb n y := by
  induction n with
  | zero => rfl
  | succ n ih => rw [cb_s, cb_s, ih (fun i hi => h i (by omega)), h n (by omega)]
/-- x has no bit but those below n -/
def lo (n : Nat) (x : Int32) : Prop := ∀ i, n ≤ i → tb x i = false
theorem lo_ofNat {n : Nat} {x : Int32} (h : lo n x) (hn : n ≤ 31) : ∃ j, j < 2 ^ n ∧ x = nI j := by
  refine ⟨x.toBitVec.toNat, ?_, ?_⟩
  · have := BitVec.isLt x.toBitVec
    apply Nat.lt_pow_two_of_testBit
    intro i hi
    have h2 := h i hi
    unfold tb at h2
    rw [BitVec.testBit_toNat]
    exact h2
  · apply Int32.toBitVec_inj.mp
    show _ = BitVec.ofNat 32 _
    simp
/-- the JDK's count of bits -/
def jbc (x : Int32) : Int32 :=
  let u (a : Int32) (k : Nat) : Int32 := (a.toUInt32 >>> ((nI k).toUInt32 &&& Int32.toUInt32 31)).toInt32
  let a := x - (u x 1 &&& 1431655765)
  let b := (a &&& 858993459) + (u a 2 &&& 858993459)
  let c := (b + u b 4) &&& 252645135
  let e := c + u c 8
  let f := e + u e 16
  f &&& nI 63
theorem jbc_small : ∀ j, j < 1024 → jbc (nI j) = nI (cb 10 (nI j)) := by decide +kernel
theorem jbc_lo {x : Int32} (h : lo 10 x) : jbc x = nI (cb 10 x) := by
  obtain ⟨j, hj, rfl⟩ := lo_ofNat h (by decide)
  exact jbc_small j hj
theorem lo_or {n : Nat} {x y : Int32} (hx : lo n x) (hy : lo n y) : lo n (x ||| y) := fun i hi => by rw [tb_or, hx i hi, hy i hi]; rfl
theorem lo_and {n : Nat} {x y : Int32} (hx : lo n x) : lo n (x &&& y) := fun i hi => by rw [tb_and, hx i hi]; rfl
theorem lo_0 {n : Nat} : lo n (nI 0) := fun i _ => tb_0 i
theorem lo_bt {n k : Nat} (hk : k < 32) (h : k < n) : lo n (bt k) := fun i hi => by rw [tb_bt hk]; simp; omega
theorem lo_wb {n k : Nat} {x : Int32} (hk : k < 32) (h : k < n) (hx : lo n x) (p : Bool) : lo n (wb x k p) := fun i hi => by
  by_cases hi32 : i < 32
  · rw [tb_wb hk p hi32, if_neg (by omega)]; exact hx i hi
  · exact tb_big (by omega)
theorem lo_mono {n m : Nat} {x : Int32} (h : n ≤ m) (hx : lo n x) : lo m x := fun i hi => hx i (Nat.le_trans h hi)
theorem lo_ext {n : Nat} {x y : Int32} (hx : lo n x) (hy : lo n y) (h : ∀ i, i < n → tb x i = tb y i) : x = y := tb_ext (fun i _ => by
  by_cases hi : i < n
  · exact h i hi
  · rw [hx i (by omega), hy i (by omega)])
