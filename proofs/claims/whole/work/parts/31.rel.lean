/-! ===== sums ===== -/
def sm (n : Nat) (f : Nat → Nat) : Nat := fo n (fun k c => c + f k) 0
theorem sm_s (n : Nat) (f : Nat → Nat) : sm (n + 1) f = sm n f + f n := rfl
theorem sm_congr {f g : Nat → Nat} : ∀ {n : Nat}, (∀ k, k < n → f k = g k) → sm n f = sm n g
  | 0, _ => rfl
  | n + 1, h => by rw [sm_s, sm_s, sm_congr (fun k hk => h k (by omega)), h n (by omega)]
theorem sm_0 {f : Nat → Nat} : ∀ {n : Nat}, (∀ k, k < n → f k = 0) → sm n f = 0
  | 0, _ => rfl
  | n + 1, h => by rw [sm_s, sm_0 (fun k hk => h k (by omega)), h n (by omega)]
theorem sm_add {f g : Nat → Nat} : ∀ {n : Nat}, sm n (fun k => f k + g k) = sm n f + sm n g
  | 0 => rfl
  | n + 1 => by rw [sm_s, sm_s, sm_s, sm_add]; omega
theorem sm_swap {f : Nat → Nat → Nat} {m : Nat} : ∀ {n : Nat}, sm n (fun i => sm m (fun j => f i j)) = sm m (fun j => sm n (fun i => f i j))
  | 0 => (sm_0 (n := m) (f := fun j => sm 0 (fun i => f i j)) (fun _ _ => rfl)).symm
  | n + 1 => by
    rw [sm_s, sm_swap (n := n)]
    rw [← sm_add]
    rfl
theorem sm_one {f : Nat → Nat} {j : Nat} : ∀ {n : Nat}, j < n → (∀ k, k < n → k ≠ j → f k = 0) → sm n f = f j
  | 0, h, _ => absurd h (Nat.not_lt_zero _)
  | n + 1, h, h0 => by
    rw [sm_s]
    by_cases e : j = n
    · subst e
      rw [sm_0 (fun k hk => h0 k (by omega) (by omega))]; omega
    · rw [sm_one (n := n) (by omega) (fun k hk hkj => h0 k (by omega) hkj), h0 n (by omega) (fun q => e q.symm)]; omega
theorem sm_app {f : Nat → Nat} {a : Nat} : ∀ {b : Nat}, sm (a + b) f = sm a f + sm b (fun k => f (a + k))
  | 0 => rfl
  | b + 1 => by
    show sm (a + b) f + f (a + b) = _
    rw [sm_app (b := b), sm_s]; omega
theorem sm_blk {f : Nat → Nat} {b : Nat} : ∀ {a : Nat}, sm (b * a) f = sm a (fun s => sm b (fun k => f (b * s + k)))
  | 0 => rfl
  | a + 1 => by rw [Nat.mul_succ, sm_app, sm_blk (a := a), sm_s]
def bN (p : Bool) : Nat := bif p then 1 else 0
theorem cb_sm (n : Nat) (x : Int32) : cb n x = sm n (fun k => bN (tb x k)) := by
  induction n with
  | zero => rfl
  | succ n ih => rw [cb_s, sm_s, ih]; cases tb x n <;> rfl
theorem fo_sm {f : Nat → Nat} {n a : Nat} : fo n (fun k c => c + f k) a = a + sm n f := by
  induction n with
  | zero => rfl
  | succ n ih => rw [fo_s, ih, sm_s]; omega
theorem fo_congr {α : Type} {f g : Nat → α → α} {a : α} : ∀ {n : Nat}, (∀ k x, k < n → f k x = g k x) → fo n f a = fo n g a
  | 0, _ => rfl
  | n + 1, h => by rw [fo_s, fo_s, fo_congr (n := n) (fun k x hk => h k x (by omega)), h n _ (by omega)]
/-! ===== the relation between the class's arrays and the reference's row ===== -/
def okU (U N : Nat → Int32) (n : Nat) : Prop := ∀ s k, s < 6 → k < 10 → (U (s * 10 + k) = -1 ∧ N (10 + (10 * s + k)) = -9) ∨ (s < n ∧ ∃ t, t ≤ 9999 ∧ U (s * 10 + k) = nI t ∧ N (10 + (10 * s + k)) = nI t)
def okM (M N : Nat → Int32) (t : Nat) : Prop := ∀ s k ch, s < 6 → k < 10 → ch < 4 → tb (M (s * 4 + ch)) k = tb (N (t + (10 * s + k))) ch
def loM (M : Nat → Int32) : Prop := ∀ s ch, s < 6 → ch < 4 → lo 10 (M (s * 4 + ch))
def loJ (N : Nat → Int32) (t : Nat) : Prop := ∀ s k, s < 6 → k < 10 → lo 4 (N (t + (10 * s + k)))
def mUs (M U : Nat → Int32) : Prop := ∀ s k ch, s < 6 → k < 10 → ch < 4 → tb (M (s * 4 + ch)) k = true → us U s k = true
def oMs (O M : Nat → Int32) : Prop := ∀ s k ch, s < 6 → k < 10 → ch < 4 → tb (O (s * 4 + ch)) k = true → tb (M (s * 4 + ch)) k = true
def okX (L U : Nat → Int32) : Prop := ∀ s t k, s < 6 → t < 6 → k < 10 → us U s k = true → us U t k = true → tb (net L s) t = true → s = t
def RJ (M O U N : Nat → Int32) : Prop := okM M N 70 ∧ okM O N 130 ∧ loM M ∧ loM O ∧ loJ N 70 ∧ loJ N 130 ∧ mUs M U ∧ oMs O M
def RC (L M C D N : Nat → Int32) (n : Nat) : Prop := ∀ s ch, s < n → ch < 4 → hc L M s ch = true → C (s * 4 + ch) = N (190 + 4 * s + ch) ∧ D (s * 4 + ch) = N (214 + 4 * s + ch) ∧ lo 10 (D (s * 4 + ch)) ∧ ∀ t, t < 6 → tb (net L s) t = true → C (t * 4 + ch) = C (s * 4 + ch) ∧ D (t * 4 + ch) = D (s * 4 + ch)
def RM (n q : Nat) (Z L U M O C D N : Nat → Int32) : Prop := (Z 0 = nI n ∧ N 0 = nI n ∧ 1 ≤ n ∧ n ≤ 6) ∧ (Z 1 = nI q ∧ N 1 = nI q ∧ q ≤ 9999) ∧ (N 2 = Z 2 ∧ N 3 = Z 3) ∧ okL L n ∧ okN N L ∧ okU U N n ∧ RJ M O U N ∧ okX L U ∧ RC L M C D N n
theorem us_mus {U N : Nat → Int32} {n s k : Nat} (h : okU U N n) (hs : s < 6) (hk : k < 10) : mus N s k = us U s k := by
  unfold us mus
  rcases h s k hs hk with ⟨h1, h2⟩ | ⟨-, t, ht, h1, h2⟩
  · rw [h1, h2]; rfl
  · rw [h1, h2, decide_eq_true (nI_neg (by omega) (by decide)), decide_eq_true (nI_neg (by omega) (by decide))]
theorem us_lt {U N : Nat → Int32} {n s k : Nat} (h : okU U N n) (hs : s < 6) (hk : k < 10) (hu : us U s k = true) : s < n ∧ ∃ t, t ≤ 9999 ∧ U (s * 10 + k) = nI t ∧ N (10 + (10 * s + k)) = nI t := by
  rcases h s k hs hk with ⟨h1, -⟩ | h
  · unfold us at hu; rw [h1] at hu; simp at hu
  · exact h
theorem fnd_none : ∀ {m k : Nat} {p : Nat → Bool}, fnd m k p = none → ∀ j, k ≤ j → j < k + m → p j = false
  | 0, k, p, _, j, h1, h2 => by omega
  | m + 1, k, p, h, j, h1, h2 => by
    unfold fnd at h
    cases hp : p k with
    | true => rw [hp] at h; cases h
    | false =>
      rw [hp] at h
      by_cases e : j = k
      · rw [e]; exact hp
      · exact fnd_none (m := m) h j (by omega) (by omega)
theorem hm_some {U : Nat → Int32} {S : Int32} {k j : Nat} (h : hm U S k = some j) : j < 6 ∧ tb S j = true ∧ us U j k = true := by
  have h1 := fnd_lt h
  have h2 := h1.2
  simp only [Bool.and_eq_true] at h2
  exact ⟨by omega, h2⟩
theorem hm_none {U : Nat → Int32} {S : Int32} {k : Nat} (h : hm U S k = none) : ∀ j, j < 6 → tb S j = true → us U j k = false := by
  intro j hj hb
  have := fnd_none h j (by omega) (by omega)
  rw [hb] at this
  simpa using this
theorem mhm_some {N : Nat → Int32} {S : Int32} {k : Nat} : ∀ {c j : Nat}, mhm N c S k = some j → j < c ∧ tb S j = true ∧ mus N j k = true
  | 0, j, h => by cases h
  | c + 1, j, h => by
    have h2 : mhF N S k c (mhm N c S k) = some j := h
    unfold mhF at h2
    cases q : (tb S c && mus N c k) with
    | true =>
      rw [q] at h2; cases h2
      simp only [Bool.and_eq_true] at q
      exact ⟨by omega, q⟩
    | false => rw [q] at h2; have := mhm_some h2; exact ⟨by omega, this.2⟩
theorem mhm_none {N : Nat → Int32} {S : Int32} {k : Nat} : ∀ {c : Nat}, mhm N c S k = none → ∀ j, j < c → tb S j = true → mus N j k = false
  | 0, _, j, hj, _ => absurd hj (Nat.not_lt_zero _)
  | c + 1, h, j, hj, hb => by
    have h2 : mhF N S k c (mhm N c S k) = none := h
    unfold mhF at h2
    cases q : (tb S c && mus N c k) with
    | true => rw [q] at h2; cases h2
    | false =>
      rw [q] at h2
      by_cases e : j = c
      · rw [e] at hb ⊢; rw [hb] at q; simpa using q
      · exact mhm_none h2 j (by omega) hb
/-- in S each nick is used once -/
def uniq (U : Nat → Int32) (S : Int32) (k : Nat) : Prop := ∀ s t, s < 6 → t < 6 → tb S s = true → tb S t = true → us U s k = true → us U t k = true → s = t
theorem mhm_hm {U N : Nat → Int32} {n k : Nat} {S : Int32} (h : okU U N n) (hn : n ≤ 6) (hk : k < 10) (hu : uniq U S k) : mhm N n S k = hm U S k := by
  cases h1 : hm U S k with
  | none =>
    cases h2 : mhm N n S k with
    | none => rfl
    | some j =>
      have := mhm_some h2
      have h3 := hm_none h1 j (by omega) this.2.1
      rw [us_mus h (by omega) hk] at this
      rw [this.2.2] at h3; cases h3
  | some i =>
    have hi := hm_some h1
    have hin := (us_lt h hi.1 hk hi.2.2).1
    cases h2 : mhm N n S k with
    | none =>
      have h3 := mhm_none h2 i hin hi.2.1
      rw [us_mus h hi.1 hk, hi.2.2] at h3; cases h3
    | some j =>
      have hj := mhm_some h2
      rw [us_mus h (by omega) hk] at hj
      rw [hu i j hi.1 (by omega) hi.2.1 hj.2.1 hi.2.2 hj.2.2]
theorem net_uniq {L U : Nat → Int32} {n s k : Nat} (hL : okL L n) (hn : n ≤ 6) (hX : okX L U) (hs : s < 6) (hk : k < 10) : uniq U (net L s) k := fun a b ha hb h1 h2 h3 h4 =>
  hX a b k ha hb hk h3 h4 (net_trans hL hn ha hs (net_sym hL hn hs h1) h2)
theorem tb_mni {q : Nat → Nat → Bool} {S : Int32} {k : Nat} (hk : k < 10) : ∀ {c : Nat}, tb (mni q c S) k = true ↔ ∃ h, h < c ∧ tb S h = true ∧ q h k = true
  | 0 => ⟨fun h => (by rw [show mni q 0 S = 0 from rfl, tb_0] at h; cases h), fun ⟨_, h, _⟩ => absurd h (Nat.not_lt_zero _)⟩
  | c + 1 => by
    have e : mni q (c + 1) S = fo 10 (fun n a => a ||| (bif tb S c && q c n then bt n else nI 0)) (mni q c S) := rfl
    rw [e, tb_for0 (p := fun n => tb S c && q c n) (f := bt), tb_for, tb_mni hk (c := c)]
    constructor
    · rintro (⟨h, h1, h2⟩ | ⟨n, h1, h2, h3⟩)
      · exact ⟨h, by omega, h2⟩
      · rw [tb_bt (by omega)] at h3
        have : k = n := by simpa using h3
        subst this
        simp only [Bool.and_eq_true] at h2
        exact ⟨c, by omega, h2⟩
    · rintro ⟨h, h1, h2, h3⟩
      by_cases e : h = c
      · subst e
        exact Or.inr ⟨k, hk, by simp [h2, h3], by rw [tb_bt (by omega)]; simp⟩
      · exact Or.inl ⟨h, by omega, h2, h3⟩
theorem lo_mni {q : Nat → Nat → Bool} {S : Int32} : ∀ {c : Nat}, lo 10 (mni q c S)
  | 0 => lo_0
  | c + 1 => by
    have e : mni q (c + 1) S = fo 10 (fun n a => a ||| (bif tb S c && q c n then bt n else nI 0)) (mni q c S) := rfl
    rw [e]
    have : ∀ m, m ≤ 10 → lo 10 (fo m (fun n a => a ||| (bif tb S c && q c n then bt n else nI 0)) (mni q c S)) := by
      intro m
      induction m with
      | zero => intro _; exact lo_mni
      | succ m ih =>
        intro hm
        rw [fo_s]
        refine lo_or (ih (by omega)) ?_
        cases (tb S c && q c m)
        · exact lo_0
        · exact lo_bt (by omega) (by omega)
    exact this 10 (Nat.le_refl _)
theorem tb_un {M : Nat → Int32} {S : Int32} {ch k : Nat} : tb (un M S ch) k = true ↔ ∃ s, s < 6 ∧ tb S s = true ∧ tb (M (s * 4 + ch)) k = true := by
  unfold un
  rw [tb_for (p := fun s => tb S s) (f := fun s => M (s * 4 + ch)), show nI 0 = 0 from rfl, tb_0]
  simp
theorem lo_un {M : Nat → Int32} {S : Int32} {ch : Nat} (h : loM M) (hc : ch < 4) : lo 10 (un M S ch) := fun i hi => by
  cases q : tb (un M S ch) i
  · rfl
  · obtain ⟨s, h1, -, h3⟩ := tb_un.mp q
    rw [h s ch h1 hc i hi] at h3; cases h3
/-- the bits of S are servers that there are -/
def inN (n : Nat) (S : Int32) : Prop := ∀ i, tb S i = true → i < n
theorem net_in {L : Nat → Int32} {n s : Nat} (h : okL L n) (hn : n ≤ 6) (hs : s < n) : inN n (net L s) := fun _ hi => net_lt h hs hn hi
theorem mj_un {M N : Nat → Int32} {n t ch : Nat} {S : Int32} (h : okM M N t) (hl : loM M) (hn : n ≤ 6) (hc : ch < 4) (hS : inN n S) : mni (mj N t ch) n S = un M S ch := by
  apply lo_ext lo_mni (lo_un hl hc)
  intro k hk
  apply Bool.eq_iff_iff.mpr
  rw [tb_mni hk, tb_un]
  constructor
  · rintro ⟨s, h1, h2, h3⟩
    exact ⟨s, by omega, h2, by rw [h s k ch (by omega) hk hc]; exact h3⟩
  · rintro ⟨s, h1, h2, h3⟩
    exact ⟨s, hS s h2, h2, by rw [h s k ch h1 hk hc] at h3; exact h3⟩
theorem tb_nk {U : Nat → Int32} {S : Int32} {k : Nat} (hk : k < 10) : tb (nk U S) k = (hm U S k).isSome := by
  have key : ∀ m, m ≤ 10 → ∀ i, i < 32 → tb (fo m (fun n a => wb a n (hm U S n).isSome) (nI 0)) i = (decide (i < m) && (hm U S i).isSome) := by
    intro m
    induction m with
    | zero => intro _ i _; show tb (nI 0) i = _; rw [show nI 0 = 0 from rfl, tb_0]; simp
    | succ m ih =>
      intro hm' i hi
      rw [fo_s, tb_wb (by omega) _ hi]
      by_cases e : i = m
      · subst e; simp
      · rw [if_neg e, ih (by omega) i hi]
        by_cases h : i < m
        · simp [h, show i < m + 1 by omega]
        · simp [h, show ¬ i < m + 1 by omega]
  have := key 10 (Nat.le_refl _) k (by omega)
  rw [show nk U S = fo 10 (fun n a => wb a n (hm U S n).isSome) (nI 0) from rfl, this]
  simp [hk]
theorem lo_nk {U : Nat → Int32} {S : Int32} : lo 10 (nk U S) := by
  have : ∀ m, m ≤ 10 → lo 10 (fo m (fun n a => wb a n (hm U S n).isSome) (nI 0)) := by
    intro m
    induction m with
    | zero => intro _; exact lo_0
    | succ m ih => intro h; rw [fo_s]; exact lo_wb (by omega) (by omega) (ih (by omega)) _
  exact this 10 (Nat.le_refl _)
theorem mus_nk {U N : Nat → Int32} {n : Nat} {S : Int32} (h : okU U N n) (hn : n ≤ 6) (hS : inN n S) : mni (mus N) n S = nk U S := by
  apply lo_ext lo_mni lo_nk
  intro k hk
  rw [tb_nk hk]
  apply Bool.eq_iff_iff.mpr
  rw [tb_mni hk]
  constructor
  · rintro ⟨s, h1, h2, h3⟩
    rw [us_mus h (by omega) hk] at h3
    cases q : hm U S k with
    | none => rw [hm_none q s (by omega) h2] at h3; cases h3
    | some j => rfl
  · intro hq
    cases q : hm U S k with
    | none => rw [q] at hq; cases hq
    | some j =>
      have hj := hm_some q
      exact ⟨j, hS j hj.2.1, hj.2.1, by rw [us_mus h hj.1 hk]; exact hj.2.2⟩
theorem cu_sm (U : Nat → Int32) (S : Int32) : cu U S = sm 6 (fun s => sm 10 (fun k => bN (tb S s && us U s k))) := by
  unfold cu
  have e : (fun (s c : Nat) => fo 10 (fun n c => cuN U S s n c) c) = fun s c => c + sm 10 (fun k => bN (tb S s && us U s k)) := by
    funext s c
    rw [← fo_sm]
    apply fo_congr
    intro k x _
    unfold cuN bN
    cases (tb S s && us U s k) <;> rfl
  rw [e, fo_sm, Nat.zero_add]
theorem cu_cb {U : Nat → Int32} {S : Int32} (hu : ∀ k, k < 10 → uniq U S k) : cu U S = cb 10 (nk U S) := by
  rw [cu_sm, sm_swap, cb_sm]
  apply sm_congr
  intro k hk
  rw [tb_nk hk]
  cases q : hm U S k with
  | none =>
    rw [sm_0]
    · rfl
    · intro s hs
      cases hb : tb S s
      · rfl
      · rw [hm_none q s hs hb]; rfl
  | some j =>
    have hj := hm_some q
    rw [sm_one (j := j) hj.1]
    · rw [hj.2.1, hj.2.2]; rfl
    · intro s hs hsj
      cases hb : tb S s
      · rfl
      · cases hus : us U s k
        · rfl
        · exact absurd (hu k hk s j hs hj.1 hb hj.2.1 hus hj.2.2) hsj
