/-! ===== the edits, each with its relation: clock, links, users, channels ===== -/
theorem inb_iff {x a b : Int32} : inb x a b = decide (¬ x < a ∧ x ≤ b) := by
  unfold inb
  apply decide_eq_decide.mpr
  rw [Int32.not_lt (a := b)]
theorem fl_at {f : Nat → Int32} {n i : Nat} {v : Int32} : fl f n v i = if i < n then v else f i := by
  unfold fl
  induction n with
  | zero => rw [if_neg (by omega)]; rfl
  | succ m ih =>
    rw [fo_s]
    by_cases e : i = m
    · rw [e, upd_eq, if_pos (by omega)]
    · rw [upd_ne e, ih]
      by_cases h : i < m
      · rw [if_pos h, if_pos (by omega)]
      · rw [if_neg h, if_neg (by omega)]
theorem mrs_at {N : Nat → Int32} {x : Int32} {i : Nat} (h : i < 238) : mrs N x i = if i = 0 then x else mr0 i := by
  have key : ∀ m, fo m (fun k g => upd g k (mr0 k)) N i = if i < m then mr0 i else N i := by
    intro m
    induction m with
    | zero => rw [if_neg (by omega)]; rfl
    | succ m ih =>
      rw [fo_s]
      by_cases e : i = m
      · rw [e, upd_eq, if_pos (by omega)]
      · rw [upd_ne e, ih]
        by_cases h : i < m
        · rw [if_pos h, if_pos (by omega)]
        · rw [if_neg h, if_neg (by omega)]
  unfold mrs
  by_cases e : i = 0
  · rw [e, upd_eq, if_pos rfl]
  · rw [upd_ne e, if_neg e, key, if_pos h]
theorem mcu_cu {U N : Nat → Int32} {n : Nat} (h : okU U N n) : mcu N = cu U (nI 63) := by
  have e : mcu N = sm (10 * 6) (fun k => if N (10 + k) = -9 then 0 else 1) := by
    unfold mcu
    rw [← Nat.zero_add (sm (10 * 6) _), ← fo_sm]
    apply fo_congr
    intro k x _
    split <;> rfl
  rw [e, sm_blk, cu_sm]
  apply sm_congr
  intro s hs
  apply sm_congr
  intro k hk
  have h63 : ∀ s, s < 6 → tb (nI 63) s = true := by decide
  rw [h63 s hs, ← us_mus h hs hk]
  unfold mus
  by_cases e : N (10 + (10 * s + k)) = -9
  · rw [if_pos e]; simp [e, bN]
  · rw [if_neg e]; simp [e, bN]
theorem RB_new {n : Nat} {L U M O C D N : Nat → Int32} (hL : ∀ i, i < 6 → L i = nI 0) (hU : ∀ i, i < 60 → U i = -1) (hM : ∀ i, i < 24 → M i = nI 0) (hO : ∀ i, i < 24 → O i = nI 0) (hN : ∀ i, 4 ≤ i → i < 238 → N i = mr0 i) : RB n L U M O C D N := by
  have m0 : ∀ i, 4 ≤ i → i < 10 → mr0 i = nI 0 := fun i h1 h2 => if_neg (by omega)
  have m1 : ∀ i, 10 ≤ i → i < 70 → mr0 i = -9 := fun i h1 h2 => if_pos (by omega)
  have m2 : ∀ i, 70 ≤ i → mr0 i = nI 0 := fun i h1 => if_neg (by omega)
  have z : ∀ i, tb (nI 0) i = false := fun i => tb_0 i
  have hlM : loM M := fun s ch hs hc => by rw [hM _ (by omega)]; exact lo_0
  refine ⟨⟨fun k j hk h => ?_, fun k j hk hj h => ?_⟩, fun k hk => ?_, fun s k hs hk => Or.inl ⟨hU _ (by omega), ?_⟩, ⟨fun s k ch hs hk hc => ?_, fun s k ch hs hk hc => ?_, hlM, fun s ch hs hc => ?_, fun s k hs hk => ?_, fun s k hs hk => ?_, fun s k ch hs hk hc h => ?_, fun s k ch hs hk hc h => ?_⟩, fun s t k hs ht hk h1 h2 h3 => ?_, fun s ch hs h4 h => ?_⟩
  · rw [hL k hk, z] at h; cases h
  · rw [hL k hk, z] at h; cases h
  · rw [hL k hk, hN _ (by omega) (by omega), m0 _ (by omega) (by omega)]
  · rw [hN _ (by omega) (by omega), m1 _ (by omega) (by omega)]
  · rw [hM _ (by omega), hN _ (by omega) (by omega), m2 _ (by omega), z, z]
  · rw [hO _ (by omega), hN _ (by omega) (by omega), m2 _ (by omega), z, z]
  · rw [hO _ (by omega)]; exact lo_0
  · rw [hN _ (by omega) (by omega), m2 _ (by omega)]; exact lo_0
  · rw [hN _ (by omega) (by omega), m2 _ (by omega)]; exact lo_0
  · rw [hM _ (by omega), z] at h; cases h
  · rw [hO _ (by omega), z] at h; cases h
  · unfold us at h1; rw [hU _ (by omega)] at h1; simp at h1
  · obtain ⟨t, k, q1, q2, q3, q4⟩ := (hc_true (n := n) hlM h4).mp h
    rw [hM _ (by omega), z] at q4; cases q4
/-- fewer links: networks only lose servers -/
theorem net_mono {L L' : Nat → Int32} {n s : Nat} (hL : okL L n) (hn : n ≤ 6) (h : ∀ k i, k < 6 → tb (L' k) i = true → tb (L k) i = true) (hs : s < 6) {i : Nat} (hi : tb (net L' s) i = true) : tb (net L s) i = true :=
  net_ind (P := fun i => tb (net L s) i = true) hs (net_self hs) (fun k i hk h1 h2 => net_step hL hn hs hk h1 (h k i hk h2)) i hi
theorem hc_mono {L L' M M' : Nat → Int32} {s ch : Nat} (hl : loM M) (hl' : loM M') (h4 : ch < 4) (hS : ∀ i, tb (net L' s) i = true → tb (net L s) i = true) (hM : ∀ t k, t < 6 → k < 10 → tb (M' (t * 4 + ch)) k = true → tb (M (t * 4 + ch)) k = true) (h : hc L' M' s ch = true) : hc L M s ch = true := by
  obtain ⟨t, k, q1, q2, q3, q4⟩ := (hc_true (n := 0) hl' h4).mp h
  exact (hc_true (n := 0) hl h4).mpr ⟨t, k, q1, q2, hS t q3, hM t k q1 q2 q4⟩
theorem RB_unlink {n a b : Nat} {L U M O C D N : Nat → Int32} (hn : n ≤ 6) (ha : a < n) (hb : b < n) (h : RB n L U M O C D N) : RB n (lkL L a b false) U M O C D (mlk N a b false) := by
  obtain ⟨hL, hNL, hU, ⟨j1, j2, j3, j4, j5, j6, j7, j8⟩, hX, hC⟩ := h
  have hN : ∀ i, 10 ≤ i → mlk N a b false i = N i := fun i hi => mlk_ne (by omega) (by omega)
  have hsub : ∀ k i, k < 6 → tb (lkL L a b false k) i = true → tb (L k) i = true := by
    intro k i hk h
    by_cases e : i < 32
    · rw [tb_lkL (by omega) (by omega) e] at h
      split at h
      · cases h
      · exact h
    · rw [tb_big (by omega)] at h; cases h
  refine ⟨okL_lk hL hn ha hb, okN_lk hNL (by omega) (by omega), okU_hi hU (fun i h1 _ => hN i h1), ⟨fun s k ch hs hk h4 => ?_, fun s k ch hs hk h4 => ?_, j3, j4, fun s k hs hk => ?_, fun s k hs hk => ?_, j7, j8⟩, fun s t k hs ht hk h1 h2 h3 => hX s t k hs ht hk h1 h2 (net_mono hL hn hsub hs h3), fun s ch hs h4 h => ?_⟩
  · rw [hN _ (by omega)]; exact j1 s k ch hs hk h4
  · rw [hN _ (by omega)]; exact j2 s k ch hs hk h4
  · rw [hN _ (by omega)]; exact j5 s k hs hk
  · rw [hN _ (by omega)]; exact j6 s k hs hk
  · rw [hN _ (by omega), hN _ (by omega)]
    obtain ⟨c1, c2, c3, c4⟩ := hC s ch hs h4 (hc_mono j3 j3 h4 (fun i => net_mono hL hn hsub (by omega)) (fun _ _ _ _ h => h) h)
    exact ⟨c1, c2, c3, fun t ht h => c4 t ht (net_mono hL hn hsub (by omega) h)⟩
theorem us_upd {U : Nat → Int32} {s n s' k : Nat} {v : Int32} (hn : n < 10) (hk : k < 10) : us (upd U (s * 10 + n) v) s' k = if s' = s ∧ k = n then decide (¬ v = -1) else us U s' k := by
  unfold us
  by_cases e : s' = s ∧ k = n
  · rw [if_pos e, e.1, e.2, upd_eq]
  · rw [if_neg e, upd_ne (by omega)]
theorem RB_signOn {n s k q : Nat} {L U M O C D N : Nat → Int32} (hn : n ≤ 6) (hs : s < n) (hk : k < 10) (hq : q ≤ 9999) (ho : hm U (net L s) k = none) (h : RB n L U M O C D N) : RB n L (upd U (s * 10 + k) (nI q)) M O C D (upd N (10 + (10 * s + k)) (nI q)) := by
  obtain ⟨hL, hNL, hU, ⟨j1, j2, j3, j4, j5, j6, j7, j8⟩, hX, hC⟩ := h
  have hN : ∀ i, (i < 10 ∨ 70 ≤ i) → upd N (10 + (10 * s + k)) (nI q) i = N i := fun i hi => upd_ne (by omega)
  have hq1 : decide (¬ nI q = -1) = true := decide_eq_true (nI_neg (by omega) (by decide))
  refine ⟨hL, fun i hi => ?_, fun s' k' hs' hk' => ?_, ⟨fun s k ch hs hk h4 => ?_, fun s k ch hs hk h4 => ?_, j3, j4, fun s k hs hk => ?_, fun s k hs hk => ?_, fun s' k' ch hs' hk' h4 h => ?_, j8⟩, fun s' t k' hs' ht hk' h1 h2 h3 => ?_, fun s ch hs h4 h => ?_⟩
  · rw [hN _ (by omega)]; exact hNL i hi
  · by_cases e : s' = s ∧ k' = k
    · rw [e.1, e.2, upd_eq, upd_eq]
      exact Or.inr ⟨hs, q, hq, rfl, rfl⟩
    · rw [upd_ne (by omega), upd_ne (by omega)]; exact hU s' k' hs' hk'
  · rw [hN _ (by omega)]; exact j1 s k ch hs hk h4
  · rw [hN _ (by omega)]; exact j2 s k ch hs hk h4
  · rw [hN _ (by omega)]; exact j5 s k hs hk
  · rw [hN _ (by omega)]; exact j6 s k hs hk
  · rw [us_upd hk hk']
    split
    · exact hq1
    · exact j7 s' k' ch hs' hk' h4 h
  · rw [us_upd hk hk'] at h1 h2
    by_cases e1 : s' = s ∧ k' = k
    · by_cases e2 : t = s ∧ k' = k
      · rw [e1.1, e2.1]
      · rw [if_neg e2] at h2
        rw [e1.1] at h3
        have := hm_none ho t ht h3
        rw [e1.2, this] at h2; cases h2
    · rw [if_neg e1] at h1
      by_cases e2 : t = s ∧ k' = k
      · have h5 := net_sym hL hn hs' h3
        rw [e2.1] at h5
        have := hm_none ho s' hs' h5
        rw [e2.2, this] at h1; cases h1
      · rw [if_neg e2] at h2
        exact hX s' t k' hs' ht hk' h1 h2 h3
  · rw [hN _ (by omega), hN _ (by omega)]; exact hC s ch hs h4 h
theorem rmA_at {M : Nat → Int32} {s n s' c : Nat} (hc : c < 4) : rmA M s n (s' * 4 + c) = if s' = s then wb (M (s' * 4 + c)) n false else M (s' * 4 + c) := by
  have key : ∀ m, m ≤ 4 → fo m (fun ch M => rmM M s n ch) M (s' * 4 + c) = if s' = s ∧ c < m then wb (M (s' * 4 + c)) n false else M (s' * 4 + c) := by
    intro m
    induction m with
    | zero => intro _; rw [if_neg (by omega)]; rfl
    | succ m ih =>
      intro hm
      rw [fo_s]
      unfold rmM at ih ⊢
      by_cases e : s' * 4 + c = s * 4 + m
      · rw [e, upd_eq]
        rw [e] at ih
        rw [ih (by omega), if_neg (by omega), if_pos (by omega)]
      · rw [upd_ne e, ih (by omega)]
        by_cases h : s' = s ∧ c < m
        · rw [if_pos h, if_pos (by omega)]
        · rw [if_neg h, if_neg (by omega)]
  have := key 4 (Nat.le_refl _)
  unfold rmA
  rw [this]
  by_cases h : s' = s
  · rw [if_pos ⟨h, hc⟩, if_pos h]
  · rw [if_neg (fun q => h q.1), if_neg h]
theorem tb_rmA {M : Nat → Int32} {s n s' c i : Nat} (hc : c < 4) (hn : n < 10) (hi : i < 32) : tb (rmA M s n (s' * 4 + c)) i = if s' = s ∧ i = n then false else tb (M (s' * 4 + c)) i := by
  rw [rmA_at hc]
  by_cases e : s' = s
  · rw [if_pos e, tb_wb (by omega) _ hi]
    by_cases e2 : i = n
    · rw [if_pos e2, if_pos ⟨e, e2⟩]
    · rw [if_neg e2, if_neg (fun q => e2 q.2)]
  · rw [if_neg e, if_neg (fun q => e q.1)]
theorem loM_rmA {M : Nat → Int32} {s n : Nat} (hn : n < 10) (h : loM M) : loM (rmA M s n) := fun s' ch hs hc => by
  rw [rmA_at hc]
  split
  · exact lo_wb (by omega) (by omega) (h s' ch hs hc) _
  · exact h s' ch hs hc
theorem mrm_at {N : Nat → Int32} {h n i : Nat} : mrm N h n i = if i = 130 + (10 * h + n) then nI 0 else if i = 70 + (10 * h + n) then nI 0 else if i = 10 + (10 * h + n) then -9 else N i := rfl
theorem RB_signOff {n s k : Nat} {L U M O C D N : Nat → Int32} (hn : n ≤ 6) (hs : s < 6) (hk : k < 10) (h : RB n L U M O C D N) : RB n L (upd U (s * 10 + k) (-1)) (rmA M s k) (rmA O s k) C D (mrm N s k) := by
  obtain ⟨hL, hNL, hU, ⟨j1, j2, j3, j4, j5, j6, j7, j8⟩, hX, hC⟩ := h
  have hus : ∀ s' k', k' < 10 → us (upd U (s * 10 + k) (-1)) s' k' = true → us U s' k' = true ∧ ¬ (s' = s ∧ k' = k) := by
    intro s' k' hk' h
    rw [us_upd hk hk'] at h
    by_cases e : s' = s ∧ k' = k
    · rw [if_pos e] at h; simp at h
    · rw [if_neg e] at h; exact ⟨h, e⟩
  refine ⟨hL, fun i hi => ?_, fun s' k' hs' hk' => ?_, ⟨fun s' k' ch hs' hk' h4 => ?_, fun s' k' ch hs' hk' h4 => ?_, loM_rmA hk j3, loM_rmA hk j4, fun s' k' hs' hk' => ?_, fun s' k' hs' hk' => ?_, fun s' k' ch hs' hk' h4 h => ?_, fun s' k' ch hs' hk' h4 h => ?_⟩, fun s' t k' hs' ht hk' h1 h2 h3 => ?_, fun s' ch hs' h4 h => ?_⟩
  · rw [mrm_at, if_neg (by omega), if_neg (by omega), if_neg (by omega)]; exact hNL i hi
  · rw [mrm_at, if_neg (by omega), if_neg (by omega)]
    by_cases e : s' = s ∧ k' = k
    · rw [e.1, e.2, upd_eq, if_pos rfl]; exact Or.inl ⟨rfl, rfl⟩
    · rw [upd_ne (by omega), if_neg (by omega)]; exact hU s' k' hs' hk'
  · rw [tb_rmA h4 hk (by omega)]
    by_cases e : s' = s ∧ k' = k
    · rw [if_pos e, e.1, e.2, mrm_at, if_neg (by omega), if_pos rfl]; exact (tb_0 _).symm
    · rw [if_neg e, mrm_at, if_neg (by omega), if_neg (by omega), if_neg (by omega)]; exact j1 s' k' ch hs' hk' h4
  · rw [tb_rmA h4 hk (by omega)]
    by_cases e : s' = s ∧ k' = k
    · rw [if_pos e, e.1, e.2, mrm_at, if_pos rfl]; exact (tb_0 _).symm
    · rw [if_neg e, mrm_at, if_neg (by omega), if_neg (by omega), if_neg (by omega)]; exact j2 s' k' ch hs' hk' h4
  · rw [mrm_at]
    split
    · exact lo_0
    · split
      · exact lo_0
      · rw [if_neg (by omega)]; exact j5 s' k' hs' hk'
  · rw [mrm_at]
    split
    · exact lo_0
    · rw [if_neg (by omega), if_neg (by omega)]; exact j6 s' k' hs' hk'
  · rw [tb_rmA h4 hk (by omega)] at h
    by_cases e : s' = s ∧ k' = k
    · rw [if_pos e] at h; cases h
    · rw [if_neg e] at h
      rw [us_upd hk hk', if_neg e]; exact j7 s' k' ch hs' hk' h4 h
  · rw [tb_rmA h4 hk (by omega)] at h ⊢
    by_cases e : s' = s ∧ k' = k
    · rw [if_pos e] at h; cases h
    · rw [if_neg e] at h ⊢
      exact j8 s' k' ch hs' hk' h4 h
  · exact hX s' t k' hs' ht hk' (hus s' k' hk' h1).1 (hus t k' hk' h2).1 h3
  · rw [mrm_at, if_neg (by omega), if_neg (by omega), if_neg (by omega), mrm_at, if_neg (by omega), if_neg (by omega), if_neg (by omega)]
    refine hC s' ch hs' h4 (hc_mono j3 (loM_rmA hk j3) h4 (fun _ h => h) (fun t i ht hi h => ?_) h)
    rw [tb_rmA h4 hk (by omega)] at h
    split at h
    · cases h
    · exact h
theorem cpA_at {M : Nat → Int32} {s n q s' c : Nat} (hc : c < 4) : cpA M s n q (s' * 4 + c) = if s' = s ∧ tb (M (s * 4 + c)) n = true then wb (M (s' * 4 + c)) q true else M (s' * 4 + c) := by
  have key : ∀ m, m ≤ 4 → ∀ s' c, c < 4 → fo m (fun ch M => cpM n q s ch M) M (s' * 4 + c) = if s' = s ∧ c < m ∧ tb (M (s * 4 + c)) n = true then wb (M (s' * 4 + c)) q true else M (s' * 4 + c) := by
    intro m
    induction m with
    | zero => intro _ s' c hc; rw [if_neg (by omega)]; rfl
    | succ m ih =>
      intro hm s' c hc
      rw [fo_s]
      have ih := ih (by omega)
      have im := ih s m (by omega)
      rw [if_neg (by omega)] at im
      cases hb : tb (M (s * 4 + m)) n
      · rw [cpM_f (by rw [im]; exact hb), ih s' c hc]
        by_cases e : s' = s ∧ c < m ∧ tb (M (s * 4 + c)) n = true
        · rw [if_pos e, if_pos ⟨e.1, by omega, e.2.2⟩]
        · rw [if_neg e, if_neg (fun q => e ⟨q.1, by
            by_cases e2 : c = m
            · rw [e2, hb] at q; cases q.2.2
            · omega, q.2.2⟩)]
      · rw [cpM_t (by rw [im]; exact hb)]
        unfold adM
        by_cases e : s' = s ∧ c = m
        · rw [e.1, e.2, upd_eq, im, if_pos ⟨rfl, by omega, hb⟩]
        · rw [upd_ne (by omega), ih s' c hc]
          by_cases e3 : s' = s ∧ c < m ∧ tb (M (s * 4 + c)) n = true
          · rw [if_pos e3, if_pos ⟨e3.1, by omega, e3.2.2⟩]
          · rw [if_neg e3, if_neg (fun q => e3 ⟨q.1, by omega, q.2.2⟩)]
  unfold cpA
  rw [key 4 (Nat.le_refl _) s' c hc]
  by_cases e : s' = s ∧ tb (M (s * 4 + c)) n = true
  · rw [if_pos e, if_pos ⟨e.1, hc, e.2⟩]
  · rw [if_neg e, if_neg (fun q => e ⟨q.1, q.2.2⟩)]
theorem tb_cpA {M : Nat → Int32} {s n q s' c i : Nat} (hc : c < 4) (hq : q < 10) (hi : i < 32) : tb (cpA M s n q (s' * 4 + c)) i = if s' = s ∧ i = q then (tb (M (s * 4 + c)) n || tb (M (s * 4 + c)) q) else tb (M (s' * 4 + c)) i := by
  rw [cpA_at hc]
  by_cases e : s' = s
  · subst e
    cases hb : tb (M (s' * 4 + c)) n
    · rw [if_neg (fun h => by cases h.2)]
      by_cases e2 : i = q
      · rw [if_pos ⟨rfl, e2⟩, e2, Bool.false_or]
      · rw [if_neg (fun h => e2 h.2)]
    · rw [if_pos ⟨rfl, rfl⟩, tb_wb (by omega) _ hi]
      by_cases e2 : i = q
      · rw [if_pos e2, if_pos ⟨rfl, e2⟩, Bool.true_or]
      · rw [if_neg e2, if_neg (fun h => e2 h.2)]
  · rw [if_neg (fun h => e h.1), if_neg (fun h => e h.1)]
theorem loM_cpA {M : Nat → Int32} {s n q : Nat} (hq : q < 10) (h : loM M) : loM (cpA M s n q) := fun s' ch hs hc => by
  rw [cpA_at hc]
  split
  · exact lo_wb (by omega) (by omega) (h s' ch hs hc) _
  · exact h s' ch hs hc
