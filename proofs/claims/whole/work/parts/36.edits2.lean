/-! ===== nicks changed, channels joined and left ===== -/
theorem okM_congr {M N N' : Nat → Int32} {t : Nat} (h : okM M N t) (e : ∀ i, t ≤ i → i < t + 60 → N' i = N i) : okM M N' t := fun s k ch hs hk h4 => by
  rw [e _ (by omega) (by omega)]; exact h s k ch hs hk h4
theorem loJ_congr {N N' : Nat → Int32} {t : Nat} (h : loJ N t) (e : ∀ i, t ≤ i → i < t + 60 → N' i = N i) : loJ N' t := fun s k hs hk => by
  rw [e _ (by omega) (by omega)]; exact h s k hs hk
theorem RC_congr {L M M' C D N N' : Nat → Int32} {n : Nat} (hn : n ≤ 6) (h : RC L M C D N n) (e : ∀ i, 190 ≤ i → i < 238 → N' i = N i) (hh : ∀ s ch, s < n → ch < 4 → hc L M' s ch = true → hc L M s ch = true) : RC L M' C D N' n := fun s ch hs h4 q => by
  rw [e _ (by omega) (by omega), e _ (by omega) (by omega)]; exact h s ch hs h4 (hh s ch hs h4 q)
theorem okN_congr {N N' L : Nat → Int32} (h : okN N L) (e : ∀ i, 4 ≤ i → i < 10 → N' i = N i) : okN N' L := fun k hk => by
  rw [e _ (by omega) (by omega)]; exact h k hk
theorem mch_at {N : Nat → Int32} {s q n i : Nat} (hq : q < 10) (hn : n < 10) : mch N s q n i = if i = 130 + (10 * s + n) then nI 0 else if i = 70 + (10 * s + n) then nI 0 else if i = 10 + (10 * s + n) then -9 else if i = 130 + (10 * s + q) then N (130 + (10 * s + n)) else if i = 70 + (10 * s + q) then N (70 + (10 * s + n)) else if i = 10 + (10 * s + q) then N 1 else N i := by
  unfold mch
  rw [upd_ne (f := N) (show 70 + (10 * s + n) ≠ 10 + (10 * s + q) by omega)]
  rw [upd_ne (show 130 + (10 * s + n) ≠ 70 + (10 * s + q) by omega), upd_ne (show 130 + (10 * s + n) ≠ 10 + (10 * s + q) by omega), mrm_at]
  rfl
theorem RB_changeNick {n s k q z : Nat} {L U M O C D N : Nat → Int32} (hn : n ≤ 6) (hs : s < n) (hk : k < 10) (hq : q < 10) (hz : z ≤ 9999) (h1 : N 1 = nI z) (hu : us U s k = true) (ho : hm U (net L s) q = none) (h : RB n L U M O C D N) : RB n L (rmU (upd U (s * 10 + q) (nI z)) s k) (rmA (cpA M s k q) s k) (rmA (cpA O s k q) s k) C D (mch N s q k) := by
  obtain ⟨hL, hNL, hU, ⟨j1, j2, j3, j4, j5, j6, j7, j8⟩, hX, hC⟩ := h
  have huq : us U s q = false := hm_none ho s (by omega) (net_self (by omega))
  have hqk : q ≠ k := fun e => by rw [e, hu] at huq; cases huq
  have hus : ∀ s' k', k' < 10 → us (rmU (upd U (s * 10 + q) (nI z)) s k) s' k' = if s' = s ∧ k' = k then false else if s' = s ∧ k' = q then true else us U s' k' := by
    intro s' k' hk'
    unfold rmU
    rw [us_upd hk hk', us_upd hq hk', decide_eq_false (show ¬ ¬ (-1 : Int32) = -1 by simp), decide_eq_true (nI_neg (show z < 2 ^ 31 by omega) (by decide))]
  have hMq : ∀ c, c < 4 → tb (M (s * 4 + c)) q = false := fun c hc => by
    cases e : tb (M (s * 4 + c)) q
    · rfl
    · rw [j7 s q c (by omega) hq hc e] at huq; cases huq
  have hOq : ∀ c, c < 4 → tb (O (s * 4 + c)) q = false := fun c hc => by
    cases e : tb (O (s * 4 + c)) q
    · rfl
    · rw [← hMq c hc, j8 s q c (by omega) hq hc e]
  have gM : ∀ (M : Nat → Int32), (∀ c, c < 4 → tb (M (s * 4 + c)) q = false) → ∀ s' c i, c < 4 → i < 32 → tb (rmA (cpA M s k q) s k (s' * 4 + c)) i = if s' = s ∧ i = k then false else if s' = s ∧ i = q then tb (M (s * 4 + c)) k else tb (M (s' * 4 + c)) i := by
    intro M hM s' c i hc hi
    rw [tb_rmA hc hk hi, tb_cpA hc hq hi, hM c hc, Bool.or_false]
  refine ⟨hL, okN_congr hNL (fun i h1 h2 => ?_), fun s' k' hs' hk' => ?_, ⟨fun s' k' ch hs' hk' h4 => ?_, fun s' k' ch hs' hk' h4 => ?_, loM_rmA hk (loM_cpA hq j3), loM_rmA hk (loM_cpA hq j4), fun s' k' hs' hk' => ?_, fun s' k' hs' hk' => ?_, fun s' k' ch hs' hk' h4 h => ?_, fun s' k' ch hs' hk' h4 h => ?_⟩, fun s' t k' hs' ht hk' h1 h2 h3 => ?_, RC_congr hn hC (fun i h1 h2 => ?_) (fun s' ch hs' h4 h => ?_)⟩
  · rw [mch_at hq hk, if_neg (by omega), if_neg (by omega), if_neg (by omega), if_neg (by omega), if_neg (by omega), if_neg (by omega)]
  · rw [mch_at hq hk, if_neg (by omega), if_neg (by omega), if_neg (c := 10 + (10 * s' + k') = 130 + (10 * s + q)) (by omega), if_neg (c := 10 + (10 * s' + k') = 70 + (10 * s + q)) (by omega)]
    unfold rmU
    by_cases e : s' = s ∧ k' = k
    · rw [e.1, e.2, upd_eq, if_pos rfl]; exact Or.inl ⟨rfl, rfl⟩
    · rw [upd_ne (by omega), if_neg (by omega)]
      by_cases e2 : s' = s ∧ k' = q
      · rw [e2.1, e2.2, upd_eq, if_pos rfl]; exact Or.inr ⟨hs, z, hz, rfl, h1⟩
      · rw [upd_ne (by omega), if_neg (by omega)]; exact hU s' k' hs' hk'
  · rw [gM M hMq s' ch k' h4 (by omega)]
    by_cases e : s' = s ∧ k' = k
    · rw [if_pos e, e.1, e.2, mch_at hq hk, if_neg (by omega), if_pos rfl]; exact (tb_0 _).symm
    · rw [if_neg e]
      by_cases e2 : s' = s ∧ k' = q
      · rw [if_pos e2, e2.1, e2.2, mch_at hq hk, if_neg (by omega), if_neg (by omega), if_neg (by omega), if_neg (by omega), if_pos rfl]
        exact j1 s k ch (by omega) hk h4
      · rw [if_neg e2, mch_at hq hk, if_neg (by omega), if_neg (by omega), if_neg (by omega), if_neg (by omega), if_neg (by omega), if_neg (by omega)]; exact j1 s' k' ch hs' hk' h4
  · rw [gM O hOq s' ch k' h4 (by omega)]
    by_cases e : s' = s ∧ k' = k
    · rw [if_pos e, e.1, e.2, mch_at hq hk, if_pos rfl]; exact (tb_0 _).symm
    · rw [if_neg e]
      by_cases e2 : s' = s ∧ k' = q
      · rw [if_pos e2, e2.1, e2.2, mch_at hq hk, if_neg (by omega), if_neg (by omega), if_neg (by omega), if_pos rfl]
        exact j2 s k ch (by omega) hk h4
      · rw [if_neg e2, mch_at hq hk, if_neg (by omega), if_neg (by omega), if_neg (by omega), if_neg (by omega), if_neg (by omega), if_neg (by omega)]; exact j2 s' k' ch hs' hk' h4
  · rw [mch_at hq hk]
    by_cases e : s' = s ∧ k' = k
    · rw [e.1, e.2, if_neg (by omega), if_pos rfl]; exact lo_0
    · rw [if_neg (by omega), if_neg (by omega), if_neg (by omega), if_neg (by omega)]
      split
      · exact j5 s k (by omega) hk
      · rw [if_neg (by omega)]; exact j5 s' k' hs' hk'
  · rw [mch_at hq hk]
    by_cases e : s' = s ∧ k' = k
    · rw [e.1, e.2, if_pos rfl]; exact lo_0
    · rw [if_neg (by omega), if_neg (by omega), if_neg (by omega)]
      split
      · exact j6 s k (by omega) hk
      · rw [if_neg (by omega), if_neg (by omega)]; exact j6 s' k' hs' hk'
  · rw [gM M hMq s' ch k' h4 (by omega)] at h
    rw [hus s' k' hk']
    by_cases e : s' = s ∧ k' = k
    · rw [if_pos e] at h; cases h
    · rw [if_neg e] at h ⊢
      by_cases e2 : s' = s ∧ k' = q
      · rw [if_pos e2]
      · rw [if_neg e2] at h ⊢; exact j7 s' k' ch hs' hk' h4 h
  · rw [gM O hOq s' ch k' h4 (by omega)] at h
    rw [gM M hMq s' ch k' h4 (by omega)]
    by_cases e : s' = s ∧ k' = k
    · rw [if_pos e] at h; cases h
    · rw [if_neg e] at h ⊢
      by_cases e2 : s' = s ∧ k' = q
      · rw [if_pos e2] at h ⊢; exact j8 s k ch (by omega) hk h4 h
      · rw [if_neg e2] at h ⊢; exact j8 s' k' ch hs' hk' h4 h
  · rw [hus s' k' hk'] at h1
    rw [hus t k' hk'] at h2
    by_cases e : s' = s ∧ k' = k
    · rw [if_pos e] at h1; cases h1
    · rw [if_neg e] at h1
      by_cases e' : t = s ∧ k' = k
      · rw [if_pos e'] at h2; cases h2
      · rw [if_neg e'] at h2
        by_cases e2 : s' = s ∧ k' = q
        · by_cases e3 : t = s ∧ k' = q
          · rw [e2.1, e3.1]
          · rw [if_neg e3] at h2
            rw [e2.1] at h3
            have := hm_none ho t ht h3
            rw [e2.2, this] at h2; cases h2
        · rw [if_neg e2] at h1
          by_cases e3 : t = s ∧ k' = q
          · have h5 := net_sym hL hn hs' h3
            rw [e3.1] at h5
            have := hm_none ho s' hs' h5
            rw [e3.2, this] at h1; cases h1
          · rw [if_neg e3] at h2
            exact hX s' t k' hs' ht hk' h1 h2 h3
  · rw [mch_at hq hk, if_neg (by omega), if_neg (by omega), if_neg (by omega), if_neg (by omega), if_neg (by omega), if_neg (by omega)]
  · obtain ⟨t, i, q1, q2, q3, q4⟩ := (hc_true (n := n) (loM_rmA hk (loM_cpA hq j3)) h4).mp h
    rw [gM M hMq t ch i h4 (by omega)] at q4
    by_cases e : t = s ∧ i = k
    · rw [if_pos e] at q4; cases q4
    · rw [if_neg e] at q4
      by_cases e2 : t = s ∧ i = q
      · rw [if_pos e2] at q4
        exact (hc_true (n := n) j3 h4).mpr ⟨s, k, by omega, hk, by rw [← e2.1]; exact q3, q4⟩
      · rw [if_neg e2] at q4
        exact (hc_true (n := n) j3 h4).mpr ⟨t, i, q1, q2, q3, q4⟩
/-! join, part -/
theorem adM_at {M : Nat → Int32} {s n ch s' c : Nat} (h1 : ch < 4) (h2 : c < 4) : adM M s n ch (s' * 4 + c) = if s' = s ∧ c = ch then wb (M (s' * 4 + c)) n true else M (s' * 4 + c) := by
  unfold adM
  by_cases e : s' = s ∧ c = ch
  · rw [if_pos e, e.1, e.2, upd_eq]
  · rw [if_neg e, upd_ne (by omega)]
theorem rmM_at {M : Nat → Int32} {s n ch s' c : Nat} (h1 : ch < 4) (h2 : c < 4) : rmM M s n ch (s' * 4 + c) = if s' = s ∧ c = ch then wb (M (s' * 4 + c)) n false else M (s' * 4 + c) := by
  unfold rmM
  by_cases e : s' = s ∧ c = ch
  · rw [if_pos e, e.1, e.2, upd_eq]
  · rw [if_neg e, upd_ne (by omega)]
theorem tb_adM {M : Nat → Int32} {s n ch s' c i : Nat} (h1 : ch < 4) (h2 : c < 4) (hn : n < 10) (hi : i < 32) : tb (adM M s n ch (s' * 4 + c)) i = if s' = s ∧ c = ch ∧ i = n then true else tb (M (s' * 4 + c)) i := by
  rw [adM_at h1 h2]
  by_cases e : s' = s ∧ c = ch
  · rw [if_pos e, tb_wb (by omega) _ hi]
    by_cases e2 : i = n
    · rw [if_pos e2, if_pos ⟨e.1, e.2, e2⟩]
    · rw [if_neg e2, if_neg (fun q => e2 q.2.2)]
  · rw [if_neg e, if_neg (fun q => e ⟨q.1, q.2.1⟩)]
theorem tb_rmM {M : Nat → Int32} {s n ch s' c i : Nat} (h1 : ch < 4) (h2 : c < 4) (hn : n < 10) (hi : i < 32) : tb (rmM M s n ch (s' * 4 + c)) i = if s' = s ∧ c = ch ∧ i = n then false else tb (M (s' * 4 + c)) i := by
  rw [rmM_at h1 h2]
  by_cases e : s' = s ∧ c = ch
  · rw [if_pos e, tb_wb (by omega) _ hi]
    by_cases e2 : i = n
    · rw [if_pos e2, if_pos ⟨e.1, e.2, e2⟩]
    · rw [if_neg e2, if_neg (fun q => e2 q.2.2)]
  · rw [if_neg e, if_neg (fun q => e ⟨q.1, q.2.1⟩)]
theorem loM_adM {M : Nat → Int32} {s n ch : Nat} (h1 : ch < 4) (hn : n < 10) (h : loM M) : loM (adM M s n ch) := fun s' c hs hc => by
  rw [adM_at h1 hc]
  split
  · exact lo_wb (by omega) (by omega) (h s' c hs hc) _
  · exact h s' c hs hc
theorem loM_rmM {M : Nat → Int32} {s n ch : Nat} (h1 : ch < 4) (hn : n < 10) (h : loM M) : loM (rmM M s n ch) := fun s' c hs hc => by
  rw [rmM_at h1 hc]
  split
  · exact lo_wb (by omega) (by omega) (h s' c hs hc) _
  · exact h s' c hs hc
theorem okM_ad {M N : Nat → Int32} {s k ch t : Nat} (hs : s < 6) (hk : k < 10) (h4 : ch < 4) (h : okM M N t) : okM (adM M s k ch) (mjo N (t + (10 * s + k)) ch) t := fun s' k' c hs' hk' hc => by
  rw [tb_adM h4 hc hk (by omega)]
  unfold mjo
  by_cases e : s' = s ∧ k' = k
  · rw [e.1, e.2, upd_eq, tb_or, tb_bt (by omega)]
    by_cases e2 : c = ch
    · rw [if_pos ⟨rfl, e2, rfl⟩, decide_eq_true e2, Bool.or_true]
    · rw [if_neg (fun q => e2 q.2.1), decide_eq_false e2, Bool.or_false]; exact h s k c hs hk hc
  · rw [if_neg (fun q => e ⟨q.1, q.2.2⟩), upd_ne (by omega)]; exact h s' k' c hs' hk' hc
theorem okM_rm {M N : Nat → Int32} {s k ch t : Nat} (hs : s < 6) (hk : k < 10) (h4 : ch < 4) (h : okM M N t) : okM (rmM M s k ch) (mlv N (t + (10 * s + k)) ch) t := fun s' k' c hs' hk' hc => by
  rw [tb_rmM h4 hc hk (by omega)]
  unfold mlv
  by_cases e : s' = s ∧ k' = k
  · rw [e.1, e.2, upd_eq, tb_and, tb_not _ (by omega), tb_bt (by omega)]
    by_cases e2 : c = ch
    · rw [if_pos ⟨rfl, e2, rfl⟩, decide_eq_true e2, Bool.not_true, Bool.and_false]
    · rw [if_neg (fun q => e2 q.2.1), decide_eq_false e2, Bool.not_false, Bool.and_true]; exact h s k c hs hk hc
  · rw [if_neg (fun q => e ⟨q.1, q.2.2⟩), upd_ne (by omega)]; exact h s' k' c hs' hk' hc
theorem loJ_ad {N : Nat → Int32} {i ch t : Nat} (h4 : ch < 4) (h : loJ N t) : loJ (mjo N i ch) t := fun s k hs hk => by
  unfold mjo
  by_cases e : t + (10 * s + k) = i
  · rw [← e, upd_eq]; exact lo_or (h s k hs hk) (lo_bt (by omega) h4)
  · rw [upd_ne e]; exact h s k hs hk
theorem loJ_rm {N : Nat → Int32} {i ch t : Nat} (h : loJ N t) : loJ (mlv N i ch) t := fun s k hs hk => by
  unfold mlv
  by_cases e : t + (10 * s + k) = i
  · rw [← e, upd_eq]; exact lo_and (h s k hs hk)
  · rw [upd_ne e]; exact h s k hs hk
theorem RB_leave {n s k ch : Nat} {L U M O C D N : Nat → Int32} (hn : n ≤ 6) (hs : s < 6) (hk : k < 10) (h4 : ch < 4) (h : RB n L U M O C D N) : RB n L U (rmM M s k ch) (rmM O s k ch) C D (mle N s k ch) := by
  obtain ⟨hL, hNL, hU, ⟨j1, j2, j3, j4, j5, j6, j7, j8⟩, hX, hC⟩ := h
  have e70 : ∀ i, i < 70 → mle N s k ch i = N i := fun i hi => mle_lo hi
  have e190 : ∀ i, 190 ≤ i → i < 238 → mle N s k ch i = N i := fun i hi _ => by unfold mle mlv; rw [upd_ne (by omega), upd_ne (by omega)]
  refine ⟨hL, okN_congr hNL (fun i _ h => e70 i (by omega)), okU_hi hU (fun i _ h => e70 i h), ⟨?_, ?_, loM_rmM h4 hk j3, loM_rmM h4 hk j4, loJ_rm (loJ_rm j5), loJ_rm (loJ_rm j6), fun s' k' c hs' hk' hc h => ?_, fun s' k' c hs' hk' hc h => ?_⟩, hX, RC_congr hn hC e190 (fun s' c hs' hc h => hc_mono j3 (loM_rmM h4 hk j3) hc (fun _ h => h) (fun t i ht hi h => ?_) h)⟩
  · unfold mle
    exact okM_congr (okM_rm hs hk h4 j1) (fun i h1 h2 => by rw [mlv, upd_ne (by omega)])
  · unfold mle
    exact okM_rm hs hk h4 (okM_congr j2 (fun i h1 h2 => by rw [mlv, upd_ne (by omega)]))
  · rw [tb_rmM h4 hc hk (by omega)] at h
    split at h
    · cases h
    · exact j7 s' k' c hs' hk' hc h
  · rw [tb_rmM h4 hc hk (by omega)] at h ⊢
    split at h
    · cases h
    · rename_i e; rw [if_neg e]; exact j8 s' k' c hs' hk' hc h
  · rw [tb_rmM h4 hc hk (by omega)] at h
    split at h
    · cases h
    · exact h
theorem RB_joinOld {n s k ch : Nat} {L U M O C D N : Nat → Int32} (hn : n ≤ 6) (hs : s < 6) (hk : k < 10) (h4 : ch < 4) (hu : us U s k = true) (hh : hc L M s ch = true) (h : RB n L U M O C D N) : RB n L U (adM M s k ch) O C D (mjo N (70 + (10 * s + k)) ch) := by
  obtain ⟨hL, hNL, hU, ⟨j1, j2, j3, j4, j5, j6, j7, j8⟩, hX, hC⟩ := h
  have e : ∀ i, (i < 70 ∨ 130 ≤ i) → mjo N (70 + (10 * s + k)) ch i = N i := fun i hi => upd_ne (by omega)
  refine ⟨hL, okN_congr hNL (fun i _ h => e i (by omega)), okU_hi hU (fun i _ h => e i (by omega)), ⟨okM_ad hs hk h4 j1, okM_congr j2 (fun i h1 h2 => e i (by omega)), loM_adM h4 hk j3, j4, loJ_ad h4 j5, loJ_congr j6 (fun i h1 h2 => e i (by omega)), fun s' k' c hs' hk' hc h => ?_, fun s' k' c hs' hk' hc h => ?_⟩, hX, RC_congr hn hC (fun i h1 h2 => e i (by omega)) (fun s' c hs' h5 h => ?_)⟩
  · rw [tb_adM h4 hc hk (by omega)] at h
    split at h
    · rename_i e; rw [e.1, e.2.2]; exact hu
    · exact j7 s' k' c hs' hk' hc h
  · rw [tb_adM h4 hc hk (by omega)]
    split
    · rfl
    · exact j8 s' k' c hs' hk' hc h
  · obtain ⟨t, i, q1, q2, q3, q4⟩ := (hc_true (n := n) (loM_adM h4 hk j3) h5).mp h
    rw [tb_adM h4 h5 hk (by omega)] at q4
    by_cases e : t = s ∧ c = ch ∧ i = k
    · rw [e.1] at q3
      unfold hc at hh ⊢
      rw [e.2.1, net_eq hL hn (by omega) (by omega) q3]; exact hh
    · rw [if_neg e] at q4
      exact (hc_true (n := n) j3 h5).mpr ⟨t, i, q1, q2, q3, q4⟩
