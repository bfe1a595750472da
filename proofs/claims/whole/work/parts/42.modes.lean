/-! ===== the mode text: both read it alike ===== -/
theorem fnd_at : ∀ {m j k : Nat} {p : Nat → Bool}, j ≤ k → k < j + m → p k = true → (∀ i, j ≤ i → i < k → p i = false) → fnd m j p = some k
  | 0, j, k, p, h1, h2, _, _ => by omega
  | m + 1, j, k, p, h1, h2, h3, h4 => by
    unfold fnd
    by_cases e : j = k
    · rw [e, h3]; rfl
    · rw [h4 j (Nat.le_refl _) (by omega)]
      exact fnd_at (by omega) (by omega) h3 (fun i h5 h6 => h4 i (by omega) h6)
theorem fnd_no : ∀ {m j : Nat} {p : Nat → Bool}, (∀ i, j ≤ i → i < j + m → p i = false) → fnd m j p = none
  | 0, _, _, _ => rfl
  | m + 1, j, p, h => by
    unfold fnd
    rw [h j (Nat.le_refl _) (by omega)]
    exact fnd_no (fun i h1 h2 => h i (by omega) (by omega))
theorem sg_cases {c : Nat} (h : sg c = true) : c = 43 ∨ c = 45 := of_decide_eq_true h
theorem ix_sg {c : Nat} (h : sg c = true) : ix c = none := by
  rcases sg_cases h with e | e
  · rw [e]; decide
  · rw [e]; decide
theorem ix_dg {c : Nat} (h : dg c = true) : ix c = none := by
  have h2 := dg_ge h
  have : ∀ c, c < 58 → 48 ≤ c → ix c = none := by decide
  exact this c (by omega) h2.1
theorem sg_dg {c : Nat} (h : dg c = true) : sg c = false := by
  have h2 := dg_ge h
  apply decide_eq_false
  omega
theorem eo_at {t : Nat → Nat} {n k : Nat} {M : Int32} (hk : k < n) (h0 : ∀ i, i < k → ¬ pl t M (i + 1) = 0) (h1 : pl t M (k + 1) = 0) : eo t n M = some k := by
  unfold eo
  rw [fnd_at (k := k) (by omega) (by omega) (decide_eq_true h1) (fun i _ h2 => decide_eq_false (h0 i h2))]
theorem eo_end {t : Nat → Nat} {n : Nat} {M : Int32} (h0 : ∀ i, i < n → ¬ pl t M (i + 1) = 0) : eo t n M = if pl t M n = 3 then none else some n := by
  unfold eo
  rw [fnd_no (fun i _ h2 => decide_eq_false (h0 i (by omega)))]
theorem pl_s (t : Nat → Nat) (M : Int32) (k : Nat) : pl t M (k + 1) = pa (pl t M k) (t k) M := rfl
theorem ci_s (t : Nat → Nat) (k : Nat) : ci t (k + 1) = ciF (t k) (ci t k) := rfl
theorem chk_eo {t : Nat → Nat} {M : Int32} {n : Nat} : ∀ k, k ≤ n → (∀ i, i < k → ¬ pl t M (i + 1) = 0) → ¬ pl t M k = 4 → ¬ pl t M k = 0 → (pl t M k = 3 → ¬ ci t k = 0) → (pl t M k = 1 → ci t k = 0) → (chk t M n k (decide (¬ pl t M k = 2)) (decide (¬ pl t M k = 1)) (ci t k)).1 = eo t n M ∧ ((chk t M n k (decide (¬ pl t M k = 2)) (decide (¬ pl t M k = 1)) (ci t k)).1 = none → (chk t M n k (decide (¬ pl t M k = 2)) (decide (¬ pl t M k = 1)) (ci t k)).2 = ci t n) := by
  refine loop_wf (fun k => (∀ i, i < k → ¬ pl t M (i + 1) = 0) → ¬ pl t M k = 4 → ¬ pl t M k = 0 → (pl t M k = 3 → ¬ ci t k = 0) → (pl t M k = 1 → ci t k = 0) → (chk t M n k (decide (¬ pl t M k = 2)) (decide (¬ pl t M k = 1)) (ci t k)).1 = eo t n M ∧ ((chk t M n k (decide (¬ pl t M k = 2)) (decide (¬ pl t M k = 1)) (ci t k)).1 = none → (chk t M n k (decide (¬ pl t M k = 2)) (decide (¬ pl t M k = 1)) (ci t k)).2 = ci t n)) n (fun k hk ih h0 h4 hz h3 h1 => ?_)
  have hle := pl_le t M k
  have next : ∀ j, k < j → j ≤ n → (∀ i, k ≤ i → i < j → ¬ pl t M (i + 1) = 0) → ¬ pl t M j = 4 → (pl t M j = 3 → ¬ ci t j = 0) → (pl t M j = 1 → ci t j = 0) → (chk t M n j (decide (¬ pl t M j = 2)) (decide (¬ pl t M j = 1)) (ci t j)).1 = eo t n M ∧ ((chk t M n j (decide (¬ pl t M j = 2)) (decide (¬ pl t M j = 1)) (ci t j)).1 = none → (chk t M n j (decide (¬ pl t M j = 2)) (decide (¬ pl t M j = 1)) (ci t j)).2 = ci t n) := by
    intro j h5 h6 h7 h8 h9 h10
    refine ih j h5 h6 (fun i hi => ?_) h8 ?_ h9 h10
    · by_cases e : i < k
      · exact h0 i e
      · exact h7 i (by omega) hi
    · have := h7 (j - 1) (by omega) (by omega)
      rw [show j - 1 + 1 = j by omega] at this; exact this
  by_cases hn : n ≤ k
  · have e : k = n := by omega
    rw [chk_end hn, e]
    rw [e] at h0 h3 h1 hz h4 hle
    rw [eo_end h0]
    by_cases p3 : pl t M n = 3
    · rw [if_neg (h3 p3), if_pos p3, decide_eq_true (by omega)]
      exact ⟨rfl, fun _ => rfl⟩
    · rw [if_neg p3]
      by_cases p1 : pl t M n = 1
      · rw [if_pos (h1 p1)]; exact ⟨rfl, fun h => by cases h⟩
      · have p2 : pl t M n = 2 := by omega
        rw [decide_eq_false (show ¬ ¬ pl t M n = 2 by omega), cond_false]
        split
        · exact ⟨rfl, fun h => by cases h⟩
        · exact ⟨rfl, fun h => by cases h⟩
  · have hkn : k < n := by omega
    cases hs : sg (t k) with
    | true =>
      by_cases p2 : pl t M k = 2
      · have hpa : pl t M (k + 1) = 0 := by rw [pl_s]; unfold pa; rw [if_neg h4, hs, cond_true, if_pos p2]
        have n111 : ¬ t k = 111 := by
          rcases sg_cases hs with e | e <;> omega
        rw [chk_mb hn (by rw [hs, decide_eq_false (show ¬ ¬ pl t M k = 2 by omega)]; rfl) (decide_eq_true (by omega)) n111 (by rw [ix_sg hs]; rfl), eo_at hkn h0 hpa]
        exact ⟨rfl, fun h => by cases h⟩
      · have hpa : pl t M (k + 1) = 2 := by rw [pl_s]; unfold pa; rw [if_neg h4, hs, cond_true, if_neg p2]
        have hci : ci t (k + 1) = ci t k := by rw [ci_s]; unfold ciF; rw [hs]; rfl
        rw [chk_sg hn hs (decide_eq_true p2)]
        have := next (k + 1) (by omega) (by omega) (fun i h5 h6 => by rw [show i = k by omega, hpa]; decide) (by rw [hpa]; decide) (by rw [hpa]; intro h; cases h) (by rw [hpa]; intro h; cases h)
        rw [hpa, hci, decide_eq_false (show ¬ ¬ 2 = 2 by decide), decide_eq_true (show ¬ 2 = 1 by decide)] at this
        exact this
    | false =>
      by_cases p1 : pl t M k = 1
      · have hpa : pl t M (k + 1) = 0 := by rw [pl_s]; unfold pa; rw [if_neg h4, hs, cond_false, if_pos p1]
        rw [chk_nm hn (by rw [hs]; rfl) (decide_eq_false (by omega)), eo_at hkn h0 hpa]
        exact ⟨rfl, fun h => by cases h⟩
      · have hmi : decide (¬ pl t M k = 1) = true := decide_eq_true p1
        have hsm : (sg (t k) && decide (¬ pl t M k = 2)) = false := by rw [hs]; rfl
        by_cases c111 : t k = 111
        · have hpa : pl t M (k + 1) = 4 := by rw [pl_s]; unfold pa; rw [if_neg h4, hs, cond_false, if_neg p1, if_pos c111]
          have hpa2 : pl t M (k + 1 + 1) = (bif dg (t (k + 1)) && tb M (t (k + 1) - 48) then 3 else 0) := by rw [pl_s, hpa]; unfold pa; rw [if_pos rfl]
          have hok : ∀ i, i < k + 1 → ¬ pl t M (i + 1) = 0 := fun i hi => by
            by_cases e : i < k
            · exact h0 i e
            · rw [show i = k by omega, hpa]; decide
          by_cases hk1 : k + 1 < n
          · cases hd : (dg (t (k + 1)) && tb M (t (k + 1) - 48)) with
            | true =>
              have hd2 := hd
              rw [Bool.and_eq_true] at hd2
              rw [hd, cond_true] at hpa2
              have hci : ci t (k + 1 + 1) = ci t k + 1 := by
                rw [ci_s, ci_s]; unfold ciF
                rw [sg_dg hd2.1, hd2.1, hs, c111]; rfl
              rw [chk_oo hn hsm hmi c111 hk1 hd2.1 hd2.2]
              have := next (k + 1 + 1) (by omega) (by omega) (fun i h5 h6 => by
                by_cases e : i = k
                · rw [e, hpa]; decide
                · rw [show i = k + 1 by omega, hpa2]; decide) (by rw [hpa2]; decide) (fun _ => by rw [hci]; omega) (by rw [hpa2]; intro h; cases h)
              rw [hpa2, hci, decide_eq_true (show ¬ 3 = 2 by decide), decide_eq_true (show ¬ 3 = 1 by decide)] at this
              rw [hmi]
              exact this
            | false =>
              rw [hd, cond_false] at hpa2
              rw [chk_ob hn hsm hmi c111 (by rw [Bool.and_assoc, hd, Bool.and_false]), eo_at hk1 hok hpa2]
              exact ⟨rfl, fun h => by cases h⟩
          · have en : k + 1 = n := by omega
            rw [chk_ob hn hsm hmi c111 (by rw [decide_eq_false hk1]; rfl)]
            rw [en] at hok hpa
            rw [eo_end hok, hpa, if_neg (by decide), en]
            exact ⟨rfl, fun h => by cases h⟩
        · cases hi : (ix (t k)).isSome with
          | true =>
            have hpa : pl t M (k + 1) = 3 := by rw [pl_s]; unfold pa; rw [if_neg h4, hs, cond_false, if_neg p1, if_neg c111, hi]; rfl
            have hdg : dg (t k) = false := by
              cases e : dg (t k)
              · rfl
              · rw [ix_dg e] at hi; cases hi
            have hci : ci t (k + 1) = ci t k + 1 := by rw [ci_s]; unfold ciF; rw [hs, hdg]; rfl
            rw [chk_mo hn hsm hmi c111 hi]
            have := next (k + 1) (by omega) (by omega) (fun i h5 h6 => by rw [show i = k by omega, hpa]; decide) (by rw [hpa]; decide) (fun _ => by rw [hci]; omega) (by rw [hpa]; intro h; cases h)
            rw [hpa, hci, decide_eq_true (show ¬ 3 = 2 by decide), decide_eq_true (show ¬ 3 = 1 by decide)] at this
            rw [hmi]
            exact this
          | false =>
            have hpa : pl t M (k + 1) = 0 := by rw [pl_s]; unfold pa; rw [if_neg h4, hs, cond_false, if_neg p1, if_neg c111, hi]; rfl
            rw [chk_mb hn hsm hmi c111 hi, eo_at hkn h0 hpa]
            exact ⟨rfl, fun h => by cases h⟩
theorem chk_0 {t : Nat → Nat} {M : Int32} {n : Nat} : (chk t M n 0 true false 0).1 = eo t n M ∧ ((chk t M n 0 true false 0).1 = none → (chk t M n 0 true false 0).2 = ci t n) :=
  chk_eo 0 (Nat.zero_le _) (fun i h => absurd h (Nat.not_lt_zero _)) (show ¬ 1 = 4 by decide) (show ¬ 1 = 0 by decide) (fun h => by cases h) (fun _ => rfl)
/-- a text without fault: every step of it is good, its first character is a sign, its digits are members -/
theorem eo_good {t : Nat → Nat} {n : Nat} {M : Int32} (h : eo t n M = none) : (∀ i, i < n → ¬ pl t M (i + 1) = 0) ∧ pl t M n = 3 := by
  unfold eo at h
  cases hf : fnd n 0 (fun i => decide (pl t M (i + 1) = 0)) with
  | some k => rw [hf] at h; cases h
  | none =>
    rw [hf] at h
    dsimp only at h
    by_cases e : pl t M n = 3
    · exact ⟨fun i hi => of_decide_eq_false (fnd_none hf i (by omega) (by omega)), e⟩
    · rw [if_neg e] at h; cases h
theorem eo_sign {t : Nat → Nat} {n : Nat} {M : Int32} (h : eo t n M = none) : 0 < n ∧ sg (t 0) = true := by
  obtain ⟨h1, h2⟩ := eo_good h
  have hn : 0 < n := by
    apply Nat.pos_of_ne_zero
    intro e
    rw [e] at h2
    exact absurd h2 (show ¬ 1 = 3 by decide)
  refine ⟨hn, ?_⟩
  have := h1 0 hn
  cases hs : sg (t 0)
  · exfalso
    apply this
    rw [pl_s]
    unfold pa
    rw [if_neg (show ¬ pl t M 0 = 4 from (by decide : ¬ 1 = 4)), hs, cond_false, if_pos (show pl t M 0 = 1 from rfl)]
  · rfl
theorem eo_digit {t : Nat → Nat} {n k : Nat} {M : Int32} (h : eo t n M = none) (hk : k < n) (hd : dg (t k) = true) : tb M (t k - 48) = true := by
  have h1 := (eo_good h).1 k hk
  cases hb : tb M (t k - 48)
  · exfalso
    apply h1
    rw [pl_s]
    unfold pa
    by_cases p4 : pl t M k = 4
    · rw [if_pos p4, hb, Bool.and_false]; rfl
    · rw [if_neg p4, sg_dg hd, cond_false]
      by_cases p1 : pl t M k = 1
      · rw [if_pos p1]
      · have := dg_ge hd
        rw [if_neg p1, if_neg (by omega), ix_dg hd]; rfl
  · rfl
