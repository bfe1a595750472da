/-! ===== networks: the class's and the reference's are the same closure ===== -/
theorem tb_for {p : Nat → Bool} {f : Nat → Int32} {a : Int32} {i : Nat} : ∀ {n : Nat}, tb (fo n (fun k a => bif p k then a ||| f k else a) a) i = true ↔ tb a i = true ∨ ∃ k, k < n ∧ p k = true ∧ tb (f k) i = true
  | 0 => ⟨Or.inl, fun h => h.elim id (fun ⟨_, h, _⟩ => absurd h (Nat.not_lt_zero _))⟩
  | n + 1 => by
    rw [fo_s]
    have ih := tb_for (p := p) (f := f) (a := a) (i := i) (n := n)
    cases hp : p n
    · rw [cond_false, ih]
      constructor
      · rintro (h | ⟨k, h1, h2⟩)
        · exact Or.inl h
        · exact Or.inr ⟨k, by omega, h2⟩
      · rintro (h | ⟨k, h1, h2, h3⟩)
        · exact Or.inl h
        · by_cases e : k = n
          · rw [e, hp] at h2; cases h2
          · exact Or.inr ⟨k, by omega, h2, h3⟩
    · rw [cond_true, tb_or, Bool.or_eq_true, ih]
      constructor
      · rintro ((h | ⟨k, h1, h2⟩) | h)
        · exact Or.inl h
        · exact Or.inr ⟨k, by omega, h2⟩
        · exact Or.inr ⟨n, by omega, hp, h⟩
      · rintro (h | ⟨k, h1, h2, h3⟩)
        · exact Or.inl (Or.inl h)
        · by_cases e : k = n
          · rw [e] at h3; exact Or.inr h3
          · exact Or.inl (Or.inr ⟨k, by omega, h2, h3⟩)
theorem tb_for0 {p : Nat → Bool} {f : Nat → Int32} {a : Int32} {n : Nat} : fo n (fun k a => a ||| (bif p k then f k else nI 0)) a = fo n (fun k a => bif p k then a ||| f k else a) a := by
  have : (fun (k : Nat) (a : Int32) => a ||| (bif p k then f k else nI 0)) = (fun k a => bif p k then a ||| f k else a) := by
    funext k a
    cases p k
    · show a ||| nI 0 = a
      apply tb_ext
      intro i _
      rw [tb_or, show nI 0 = 0 from rfl, tb_0, Bool.or_false]
    · rfl
  rw [this]
theorem cb_mono {x y : Int32} : ∀ {n : Nat}, (∀ i, i < n → tb x i = true → tb y i = true) → cb n x ≤ cb n y
  | 0, _ => Nat.le_refl 0
  | n + 1, h => by
    have ih := cb_mono (n := n) (fun i hi => h i (by omega))
    rw [cb_s, cb_s]
    have hn := h n (by omega)
    cases hx : tb x n
    · simp; split <;> omega
    · rw [hn hx]; simp; exact ih
theorem cb_lt {x y : Int32} : ∀ {n : Nat} (j : Nat), j < n → (∀ i, i < n → tb x i = true → tb y i = true) → tb x j = false → tb y j = true → cb n x < cb n y
  | 0, _, h, _, _, _ => absurd h (Nat.not_lt_zero _)
  | n + 1, j, hj, h, hx, hy => by
    rw [cb_s, cb_s]
    by_cases e : j = n
    · subst e
      have := cb_mono (n := j) (x := x) (y := y) (fun i hi => h i (by omega))
      rw [hx, hy]; simp; omega
    · have ih := cb_lt (n := n) j (by omega) (fun i hi => h i (by omega)) hx hy
      have hn := h n (by omega)
      cases hxn : tb x n
      · simp; split <;> omega
      · rw [hn hxn]; simp; exact ih
theorem cb_full {x : Int32} : ∀ {n : Nat}, n ≤ cb n x → ∀ i, i < n → tb x i = true
  | 0, _, i, hi => absurd hi (Nat.not_lt_zero _)
  | n + 1, h, i, hi => by
    rw [cb_s] at h
    have hle := cb_le n x
    cases hn : tb x n
    · rw [hn] at h; simp at h; omega
    · by_cases e : i = n
      · rw [e]; exact hn
      · rw [hn] at h; simp at h; exact cb_full (by omega) i (by omega)
theorem cb_pos {x : Int32} {n j : Nat} (hj : j < n) (h : tb x j = true) : 1 ≤ cb n x := by
  have := cb_lt (x := nI 0) (y := x) (n := n) j hj (fun i _ h => by rw [show nI 0 = 0 from rfl, tb_0] at h; cases h) (tb_0 j) h
  omega
theorem sat {F : Int32 → Int32} (hinf : ∀ S i, tb S i = true → tb (F S) i = true) (hlo : ∀ S, lo 6 S → lo 6 (F S)) {S : Int32} (hS : lo 6 S) {j : Nat} (hj : j < 6) (hs : tb S j = true) : ∀ m, 5 ≤ m → F (fo m (fun _ r => F r) S) = fo m (fun _ r => F r) S := by
  have hl : ∀ m, lo 6 (fo m (fun _ r => F r) S) := by
    intro m
    induction m with
    | zero => exact hS
    | succ m ih => exact hlo _ ih
  have key : ∀ m, F (fo m (fun _ r => F r) S) = fo m (fun _ r => F r) S ∨ m + 1 ≤ cb 6 (fo m (fun _ r => F r) S) := by
    intro m
    induction m with
    | zero => exact Or.inr (cb_pos hj hs)
    | succ m ih =>
      rw [fo_s]
      rcases ih with h | h
      · exact Or.inl (by rw [h, h])
      · by_cases e : F (fo m (fun _ r => F r) S) = fo m (fun _ r => F r) S
        · exact Or.inl (by rw [e, e])
        · right
          have : ∃ i, i < 6 ∧ tb (fo m (fun _ r => F r) S) i = false ∧ tb (F (fo m (fun _ r => F r) S)) i = true := by
            apply Classical.byContradiction
            intro hn
            apply e
            apply lo_ext (hlo _ (hl m)) (hl m)
            intro i hi
            cases hq : tb (fo m (fun _ r => F r) S) i
            · cases hq2 : tb (F (fo m (fun _ r => F r) S)) i
              · rfl
              · exact absurd ⟨i, hi, hq, hq2⟩ hn
            · exact hinf _ i hq
          obtain ⟨i, hi, h1, h2⟩ := this
          have := cb_lt i hi (fun k _ hk => hinf _ k hk) h1 h2
          omega
  intro m hm
  rcases key m with h | h
  · exact h
  · have hf := cb_full (n := 6) (x := fo m (fun _ r => F r) S) (by omega)
    apply lo_ext (hlo _ (hl m)) (hl m)
    intro i hi
    rw [hf i hi, hinf _ i (hf i hi)]
/-- links: both ends are among the first n servers, and each end knows the other -/
def okL (L : Nat → Int32) (n : Nat) : Prop := (∀ k j, k < 6 → tb (L k) j = true → k < n ∧ j < n) ∧ ∀ k j, k < 6 → j < 6 → tb (L k) j = true → tb (L j) k = true
theorem okL_lo {L : Nat → Int32} {n k : Nat} (h : okL L n) (hn : n ≤ 6) (hk : k < 6) : lo n (L k) := fun i hi => by
  cases q : tb (L k) i
  · rfl
  · have := (h.1 k i hk q).2; omega
theorem tb_wn {L : Nat → Int32} {S : Int32} {i : Nat} : tb (wn L S) i = true ↔ tb S i = true ∨ ∃ k, k < 6 ∧ tb S k = true ∧ tb (L k) i = true := tb_for
theorem wn_lo {L : Nat → Int32} {n : Nat} (h : okL L n) (hn : n ≤ 6) {S : Int32} (hS : lo 6 S) : lo 6 (wn L S) := fun i hi => by
  cases q : tb (wn L S) i
  · rfl
  · rcases tb_wn.mp q with e | ⟨k, h1, -, h3⟩
    · rw [hS i hi] at e; cases e
    · have := (h.1 k i h1 h3).2; omega
theorem net_fix {L : Nat → Int32} {n s : Nat} (h : okL L n) (hn : n ≤ 6) (hs : s < 6) : wn L (net L s) = net L s :=
  sat (F := wn L) (fun _ _ h => tb_wn.mpr (Or.inl h)) (fun _ => wn_lo h hn) (lo_bt (by omega) hs) hs (by rw [tb_bt (by omega)]; simp) 5 (Nat.le_refl 5)
theorem net_lo {L : Nat → Int32} {n s : Nat} (h : okL L n) (hn : n ≤ 6) (hs : s < 6) : lo 6 (net L s) := by
  have : ∀ m, lo 6 (fo m (fun _ r => wn L r) (bt s)) := by
    intro m
    induction m with
    | zero => exact lo_bt (by omega) hs
    | succ m ih => exact wn_lo h hn ih
  exact this 5
theorem rch_self {L : Nat → Int32} {s : Nat} (hs : s < 6) (m : Nat) : tb (fo m (fun _ r => wn L r) (bt s)) s = true := by
  induction m with
  | zero => show tb (bt s) s = true; rw [tb_bt (by omega)]; simp
  | succ m ih => exact tb_wn.mpr (Or.inl ih)
theorem net_self {L : Nat → Int32} {s : Nat} (hs : s < 6) : tb (net L s) s = true := rch_self hs 5
theorem net_step {L : Nat → Int32} {n s k i : Nat} (h : okL L n) (hn : n ≤ 6) (hs : s < 6) (hk : k < 6) (h1 : tb (net L s) k = true) (h2 : tb (L k) i = true) : tb (net L s) i = true := by
  rw [← net_fix h hn hs]
  exact tb_wn.mpr (Or.inr ⟨k, hk, h1, h2⟩)
/-- what holds of s and goes over links holds of its whole network -/
theorem rch_ind {L : Nat → Int32} {s : Nat} (hs : s < 6) {P : Nat → Prop} (h0 : P s) (h1 : ∀ k i, k < 6 → P k → tb (L k) i = true → P i) (m : Nat) : ∀ i, tb (fo m (fun _ r => wn L r) (bt s)) i = true → P i := by
  induction m with
  | zero =>
    intro i hi
    have hi : tb (bt s) i = true := hi
    rw [tb_bt (by omega)] at hi
    have : i = s := by simpa using hi
    rw [this]; exact h0
  | succ m ih =>
    intro i hi
    rcases tb_wn.mp hi with e | ⟨k, hk, h2, h3⟩
    · exact ih i e
    · exact h1 k i hk (ih k h2) h3
theorem net_ind {L : Nat → Int32} {s : Nat} (hs : s < 6) {P : Nat → Prop} (h0 : P s) (h1 : ∀ k i, k < 6 → P k → tb (L k) i = true → P i) : ∀ i, tb (net L s) i = true → P i := rch_ind hs h0 h1 5
theorem net_lt {L : Nat → Int32} {n s : Nat} (h : okL L n) (hs : s < n) (hn : n ≤ 6) {i : Nat} (hi : tb (net L s) i = true) : i < n :=
  net_ind (P := fun i => i < n) (by omega) hs (fun k i hk _ h2 => (h.1 k i hk h2).2) i hi
theorem net_trans {L : Nat → Int32} {n s t u : Nat} (h : okL L n) (hn : n ≤ 6) (hs : s < 6) (ht : t < 6) (h1 : tb (net L s) t = true) (h2 : tb (net L t) u = true) : tb (net L s) u = true :=
  net_ind (P := fun i => tb (net L s) i = true) ht h1 (fun k i hk h3 h4 => net_step h hn hs hk h3 h4) u h2
theorem net_sym {L : Nat → Int32} {n s t : Nat} (h : okL L n) (hn : n ≤ 6) (hs : s < 6) (h1 : tb (net L s) t = true) : tb (net L t) s = true := by
  have : ∀ i, tb (net L s) i = true → i < 6 ∧ tb (net L i) s = true := by
    refine net_ind (P := fun i => i < 6 ∧ tb (net L i) s = true) hs ⟨hs, net_self hs⟩ (fun k i hk h2 h3 => ?_)
    have hi : i < 6 := Nat.lt_of_lt_of_le (h.1 k i hk h3).2 hn
    exact ⟨hi, net_trans h hn hi hk (net_step h hn hi hi (net_self hi) (h.2 k i hk hi h3)) h2.2⟩
  exact (this t h1).2
theorem net_eq {L : Nat → Int32} {n s t : Nat} (h : okL L n) (hn : n ≤ 6) (hs : s < 6) (ht : t < 6) (h1 : tb (net L s) t = true) : net L s = net L t := by
  apply lo_ext (net_lo h hn hs) (net_lo h hn ht)
  intro i hi
  cases q : tb (net L s) i
  · cases q2 : tb (net L t) i
    · rfl
    · rw [net_trans h hn hs ht h1 q2] at q; cases q
  · rw [net_trans h hn ht hs (net_sym h hn hs h1) q]
/-- the reference's row of links is the class's -/
def okN (N L : Nat → Int32) : Prop := ∀ k, k < 6 → N (4 + k) = L k
theorem mnF_inf {N : Nat → Int32} {k : Nat} {S : Int32} {i : Nat} (h : tb S i = true) : tb (mnF N k S) i = true := by
  unfold mnF; rw [tb_or, h]; rfl
theorem mnk_inf {N : Nat → Int32} {S : Int32} {i : Nat} (h : tb S i = true) : ∀ m, tb (fo m (fun k S => mnF N k S) S) i = true
  | 0 => h
  | m + 1 => mnF_inf (mnk_inf h m)
theorem mnk_up {N : Nat → Int32} {S : Int32} {i : Nat} {m c : Nat} (hm : m ≤ c) (h : tb (fo m (fun k S => mnF N k S) S) i = true) : tb (fo c (fun k S => mnF N k S) S) i = true := by
  induction c with
  | zero => rw [show m = 0 by omega] at h; exact h
  | succ c ih =>
    by_cases e : m = c + 1
    · rw [e] at h; exact h
    · exact mnF_inf (ih (by omega))
theorem mnk_ind {N L : Nat → Int32} {c : Nat} (hN : okN N L) (hc : c ≤ 6) {P : Nat → Prop} (h1 : ∀ k i, k < 6 → P k → tb (L k) i = true → P i) {S : Int32} (h0 : ∀ i, tb S i = true → P i) : ∀ m, m ≤ c → ∀ i, tb (fo m (fun k S => mnF N k S) S) i = true → P i
  | 0, _, i, hi => h0 i hi
  | m + 1, hm, i, hi => by
    have hi : tb (mnF N m (fo m (fun k S => mnF N k S) S)) i = true := hi
    have ih := mnk_ind hN hc h1 h0 m (by omega)
    cases q : tb (fo m (fun k S => mnF N k S) S) m
    · rw [mnF_f q, tb_or, show nI 0 = 0 from rfl, tb_0, Bool.or_false] at hi
      exact ih i hi
    · rw [mnF_t q, tb_or, Bool.or_eq_true, hN m (by omega)] at hi
      rcases hi with e | e
      · exact ih i e
      · exact h1 m i (by omega) (ih m q) e
theorem mnR_lo {N L : Nat → Int32} {n : Nat} (hL : okL L n) (hn : n ≤ 6) (hN : okN N L) {S : Int32} (hS : lo 6 S) : lo 6 (mnR N n S) := fun i hi => by
  cases q : tb (mnR N n S) i
  · rfl
  · have := mnk_ind (P := fun i => i < 6) hN hn (fun k i hk _ h => Nat.lt_of_lt_of_le (hL.1 k i hk h).2 hn) (S := S) (fun i h => by
      by_cases e : i < 6
      · exact e
      · rw [hS i (by omega)] at h; cases h) n (Nat.le_refl n) i q
    omega
theorem mnet_eq {N L : Nat → Int32} {n s : Nat} (hL : okL L n) (hn : n ≤ 6) (hN : okN N L) (hs : s < 6) : mnet N n s = net L s := by
  have hfix : mnR N n (mnet N n s) = mnet N n s := sat (F := mnR N n) (fun S i h => mnk_inf h n) (fun _ => mnR_lo hL hn hN) (lo_bt (by omega) hs) hs (by rw [tb_bt (by omega)]; simp) 6 (by decide)
  have hlo : lo 6 (mnet N n s) := by
    have : ∀ m, lo 6 (fo m (fun _ r => mnR N n r) (bt s)) := by
      intro m
      induction m with
      | zero => exact lo_bt (by omega) hs
      | succ m ih => exact mnR_lo hL hn hN ih
    exact this 6
  have hself : tb (mnet N n s) s = true := by
    have : ∀ m, tb (fo m (fun _ r => mnR N n r) (bt s)) s = true := by
      intro m
      induction m with
      | zero => show tb (bt s) s = true; rw [tb_bt (by omega)]; simp
      | succ m ih => exact mnk_inf ih n
    exact this 6
  have hclo : ∀ k i, k < 6 → tb (mnet N n s) k = true → tb (L k) i = true → tb (mnet N n s) i = true := by
    intro k i hk h1 h2
    have hkn := (hL.1 k i hk h2).1
    rw [← hfix]
    refine mnk_up (m := k + 1) (by omega) ?_
    show tb (mnF N k (fo k (fun k S => mnF N k S) (mnet N n s))) i = true
    rw [mnF_t (mnk_inf h1 k), tb_or, hN k hk, h2, Bool.or_true]
  have hind : ∀ m i, tb (fo m (fun _ r => mnR N n r) (bt s)) i = true → tb (net L s) i = true := by
    intro m
    induction m with
    | zero =>
      intro i hi
      have hi : tb (bt s) i = true := hi
      rw [tb_bt (by omega)] at hi
      have : i = s := by simpa using hi
      rw [this]; exact net_self hs
    | succ m ih =>
      exact mnk_ind (P := fun i => tb (net L s) i = true) hN hn (fun k i hk h3 h4 => net_step hL hn hs hk h3 h4) ih n (Nat.le_refl n)
  apply lo_ext hlo (net_lo hL hn hs)
  intro i hi
  cases q : tb (net L s) i
  · cases q2 : tb (mnet N n s) i
    · rfl
    · rw [hind 6 i q2] at q; cases q
  · exact net_ind (P := fun i => tb (mnet N n s) i = true) hs hself (fun k i hk h3 h4 => hclo k i hk h3 h4) i q
theorem mwn_eq {N L : Nat → Int32} {n : Nat} (hL : okL L n) (hn : n ≤ 6) (hN : okN N L) (S : Int32) : mwn N n S = wn L S := by
  unfold mwn
  rw [tb_for0 (p := fun k => tb S k) (f := fun k => N (4 + k))]
  apply tb_ext
  intro i _
  have e : tb (fo n (fun k a => bif tb S k then a ||| N (4 + k) else a) S) i = true ↔ tb (wn L S) i = true := by
    rw [tb_for (p := fun k => tb S k) (f := fun k => N (4 + k)), tb_wn]
    constructor
    · rintro (h | ⟨k, h1, h2, h3⟩)
      · exact Or.inl h
      · exact Or.inr ⟨k, by omega, h2, by rw [← hN k (by omega)]; exact h3⟩
    · rintro (h | ⟨k, h1, h2, h3⟩)
      · exact Or.inl h
      · exact Or.inr ⟨k, (hL.1 k i h1 h3).1, h2, by rw [hN k h1]; exact h3⟩
  exact Bool.eq_iff_iff.mpr e
theorem mrc_eq {N L : Nat → Int32} {n a : Nat} (hL : okL L n) (hn : n ≤ 6) (hN : okN N L) (k : Nat) : mrc N n a k = rch L a k := by
  induction k with
  | zero => rfl
  | succ k ih =>
    show mwn N n (mrc N n a k) = wn L (rch L a k)
    rw [ih, mwn_eq hL hn hN]
