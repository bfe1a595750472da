/-! ===== hops, forecasts, the text ===== -/
theorem inv_congr {σ τ : av_S} (h : ∀ k, (k < 68 ∨ k = 78 ∨ k = 79 ∨ k = 80) → τ k = σ k) (h2 : τ 77 2 = σ 77 2) (h4 : τ 77 4 = σ 77 4) (hI : Inv σ) : Inv τ := by
  obtain ⟨hC, ⟨j, c, hj, hc, h1, h3, h5, h6⟩, n, t, hn, g1, g2, g3⟩ := hI
  refine ⟨?_, ⟨j, c, hj, hc, ?_, ?_, ?_, fun i hi => ?_⟩, n, t, hn, ?_, ?_, fun i hi => ?_⟩
  · unfold RCur
    rw [h 0 (by omega), h 1 (by omega), h 2 (by omega), h 3 (by omega), h 4 (by omega), h 5 (by omega), h 6 (by omega), h 78 (by omega)]
    exact hC
  · rw [h 64 (by omega)]; exact h1
  · rw [h 64 (by omega)]; exact h3
  · rw [h2]; exact h5
  · have hr : rwI j i < 8 := Nat.mod_lt _ (by decide)
    have := h6 i hi
    unfold RHi at this ⊢
    rw [h (7 * (rwI j i + 1)) (by omega), h (7 * (rwI j i + 1) + 1) (by omega), h (7 * (rwI j i + 1) + 2) (by omega), h (7 * (rwI j i + 1) + 3) (by omega), h (7 * (rwI j i + 1) + 4) (by omega), h (7 * (rwI j i + 1) + 5) (by omega), h (7 * (rwI j i + 1) + 6) (by omega), h 79 (by omega)]
    exact this
  · rw [h 66 (by omega)]; exact g1
  · rw [h4]; exact g2
  · rw [h 67 (by omega), h 80 (by omega)]; exact g3 i hi
theorem fnd_first : ∀ {m k j : Nat} {p : Nat → Bool}, fnd m k p = some j → k ≤ j ∧ ∀ i, k ≤ i → i < j → p i = false
  | 0, k, j, p, h => by cases h
  | m + 1, k, j, p, h => by
    unfold fnd at h
    cases hp : p k with
    | true => rw [hp] at h; cases h; exact ⟨Nat.le_refl _, fun i h1 h2 => by omega⟩
    | false =>
      rw [hp] at h
      have ih := fnd_first (m := m) h
      refine ⟨by omega, fun i h1 h2 => ?_⟩
      by_cases e : i = k
      · rw [e]; exact hp
      · exact ih.2 i (by omega) h2
theorem rch_up {L : Nat → Int32} {a i k m : Nat} (hkm : k ≤ m) (h : tb (rch L a k) i = true) : tb (rch L a m) i = true := by
  induction m with
  | zero => rw [show k = 0 by omega] at h; exact h
  | succ m ih =>
    by_cases e : k = m + 1
    · rw [e] at h; exact h
    · exact tb_wn.mpr (Or.inl (ih (by omega)))
theorem sub_of_add {a b c d : Nat} (h : a + b = c + d) : nI a - nI c = nI d - nI b := by
  by_cases e : c ≤ a
  · rw [pk_sub e, pk_sub (by omega)]
    congr 1; omega
  · have e1 : nI a - nI c = -(nI c - nI a) := Int32.neg_sub.symm
    have e2 : nI d - nI b = -(nI b - nI d) := Int32.neg_sub.symm
    rw [e1, e2, pk_sub (by omega), pk_sub (by omega)]
    congr 2; omega
theorem tn_mtn {U N : Nat → Int32} {n k : Nat} {S : Int32} (h : okU U N n) (hn : n ≤ 6) (hk : k < 10) (hu : uniq U S k) : (tn U S k = -1 ∧ mtn N n S k = -9) ∨ ∃ t, t ≤ 9999 ∧ tn U S k = nI t ∧ mtn N n S k = nI t := by
  unfold tn mtn
  rw [mhm_hm h hn hk hu]
  cases ho : hm U S k with
  | none => exact Or.inl ⟨rfl, rfl⟩
  | some u =>
    have hs := hm_some ho
    obtain ⟨-, t, ht, h1, h2⟩ := us_lt h hs.1 hk hs.2.2
    exact Or.inr ⟨t, ht, h1, h2⟩
theorem srv_nI {s t : Nat} (hs : s ≤ 9999) (ht : t ≤ 9999) : srv (nI s) (nI t) = if s = t then -1 else nI (min s t) := by
  unfold srv
  rw [if_neg (by
    rintro (h | h)
    · exact nI_neg (by omega) (by decide) h
    · exact nI_neg (by omega) (by decide) h)]
  by_cases e : s = t
  · rw [if_pos (by rw [e]), if_pos e]
  · rw [if_neg (fun q => e ((nI_eq (by omega) (by omega)).mp q)), if_neg e]
    unfold imin
    exact nI_min (by omega) (by omega)
theorem srv_l {b : Int32} : srv (-1) b = imax (-1) b := if_pos (Or.inl rfl)
/-- kills at a nick: both count the same -/
theorem mgK_ck {a b a' b' : Int32} (ha : (a = -1 ∧ a' = -9) ∨ ∃ t, t ≤ 9999 ∧ a = nI t ∧ a' = nI t) (hb : (b = -1 ∧ b' = -9) ∨ ∃ t, t ≤ 9999 ∧ b = nI t ∧ b' = nI t) : mgK a' b' = if a = -1 ∨ b = -1 then 0 else if srv a b = -1 then 2 else 1 := by
  rcases ha with ⟨h1, h2⟩ | ⟨s, hs, h1, h2⟩
  · rw [mgK_1 h2, if_pos (Or.inl h1)]
  · rcases hb with ⟨h3, h4⟩ | ⟨t, ht, h3, h4⟩
    · rw [mgK_2 (by rw [h2]; exact nI_neg (by omega) (by decide)) h4, if_pos (Or.inr h3)]
    · rw [if_neg (by
        rw [h1, h3]
        rintro (h | h)
        · exact nI_neg (by omega) (by decide) h
        · exact nI_neg (by omega) (by decide) h)]
      rw [h1, h3, srv_nI hs ht, h2, h4]
      by_cases e : s = t
      · rw [mgK_3 (nI_neg (by omega) (by decide)) (nI_neg (by omega) (by decide)) (by rw [e]), if_pos e, if_pos rfl]
      · rw [mgK_4 (nI_neg (by omega) (by decide)) (nI_neg (by omega) (by decide)) (fun q => e ((nI_eq (by omega) (by omega)).mp q)), if_neg e, if_neg (nI_neg (by omega) (by decide))]
theorem ck_sm (U : Nat → Int32) (a b : Int32) : ck U a b = sm 10 (fun k => if tn U a k = -1 ∨ tn U b k = -1 then 0 else if srv (tn U a k) (tn U b k) = -1 then 2 else 1) := by
  unfold ck
  rw [← Nat.zero_add (sm 10 _), ← fo_sm]
  apply fo_congr
  intro k x _
  unfold ckF
  split
  · rfl
  · split <;> rfl
theorem rgp_at {N : Nat → Int32} {c g : Nat} {S : Int32} {G : Nat → Int32} {i : Nat} : rgp N c g S G i = if 10 * g ≤ i ∧ i < 10 * g + 10 then mtn N c S (i - 10 * g) else G i := by
  have key : ∀ m, m ≤ 10 → fo m (fun n G => upd G (60 * 0 + 10 * g + n) (mtn N c S n)) G i = if 10 * g ≤ i ∧ i < 10 * g + m then mtn N c S (i - 10 * g) else G i := by
    intro m
    induction m with
    | zero => intro _; rw [if_neg (by omega)]; rfl
    | succ m ih =>
      intro hm
      rw [fo_s]
      by_cases e : i = 60 * 0 + 10 * g + m
      · rw [e, upd_eq, if_pos (by omega)]
        congr 1; omega
      · rw [upd_ne e, ih (by omega)]
        by_cases h : 10 * g ≤ i ∧ i < 10 * g + m
        · rw [if_pos h, if_pos (by omega)]
        · rw [if_neg h, if_neg (by omega)]
  exact key 10 (Nat.le_refl _)
/-- merging group p with q: what is read is what stood there -/
theorem mgg_at {G : Nat → Int32} {v p q : Nat} (hpq : p ≠ q) (k : Nat) : k ≤ 10 → (mgg G v p q k).1 = sm k (fun n => mgK (G (60 * v + 10 * p + n)) (G (60 * v + 10 * q + n))) ∧ ∀ i, (mgg G v p q k).2 i = if 60 * v + 10 * p ≤ i ∧ i < 60 * v + 10 * p + k then mgS (G i) (G (60 * v + 10 * q + (i - (60 * v + 10 * p)))) else G i := by
  induction k with
  | zero => intro _; exact ⟨rfl, fun i => by rw [if_neg (by omega)]; rfl⟩
  | succ k ih =>
    intro hk
    obtain ⟨h1, h2⟩ := ih (by omega)
    have r1 : (mgg G v p q k).2 (60 * v + 10 * p + k) = G (60 * v + 10 * p + k) := by rw [h2, if_neg (by omega)]
    have r2 : (mgg G v p q k).2 (60 * v + 10 * q + k) = G (60 * v + 10 * q + k) := by rw [h2, if_neg (by omega)]
    have e : mgg G v p q (k + 1) = mgF v p q k (mgg G v p q k) := rfl
    refine ⟨?_, fun i => ?_⟩
    · rw [e]; unfold mgF; dsimp only; rw [h1, r1, r2, sm_s]
    · rw [e]; unfold mgF; dsimp only; rw [r1, r2]
      by_cases ei : i = 60 * v + 10 * p + k
      · rw [ei, upd_eq, if_pos (by omega)]
        congr 2; omega
      · rw [upd_ne ei, h2]
        by_cases h : 60 * v + 10 * p ≤ i ∧ i < 60 * v + 10 * p + k
        · rw [if_pos h, if_pos (by omega)]
        · rw [if_neg h, if_neg (by omega)]
theorem kills_eq {U N G : Nat → Int32} {n : Nat} {A B : Int32} (h : okU U N n) (hn : n ≤ 6) (hA : ∀ k, k < 10 → uniq U A k) (hB : ∀ k, k < 10 → uniq U B k) : (mgg (rgp N n 1 B (rgp N n 0 A G)) 0 0 1 10).1 = ck U A B := by
  rw [(mgg_at (by decide) 10 (Nat.le_refl _)).1, ck_sm]
  apply sm_congr
  intro k hk
  rw [rgp_at, if_neg (by omega), rgp_at, if_pos (by omega), rgp_at, if_pos (by omega)]
  rw [show 60 * 0 + 10 * 0 + k - 10 * 0 = k by omega, show 60 * 0 + 10 * 1 + k - 10 * 1 = k by omega]
  exact mgK_ck (tn_mtn h hn hk (hA k hk)) (tn_mtn h hn hk (hB k hk))
theorem ml1_wb (x : Int32) {k : Nat} (hk : k < 32) (p : Bool) : ml1 x k p = wb x k p := by
  apply tb_ext
  intro i hi
  rw [tb_wb hk p hi]
  unfold ml1
  rw [tb_or, tb_and, tb_not _ hi, tb_bt hk]
  cases p
  · rw [cond_false, show nI 0 = 0 from rfl, tb_0]
    by_cases e : i = k <;> simp [e]
  · rw [cond_true, tb_bt hk]
    by_cases e : i = k <;> simp [e]
theorem okN_lk {N L : Nat → Int32} {a b : Nat} {p : Bool} (h : okN N L) (ha : a < 6) (hb : b < 6) : okN (mlk N a b p) (lkL L a b p) := by
  intro k hk
  have e1 : ∀ j, j < 6 → upd N (4 + a) (ml1 (N (4 + a)) b p) (4 + j) = upd L a (wb (L a) b p) j := by
    intro j hj
    by_cases e : j = a
    · rw [e, upd_eq, upd_eq, h a ha, ml1_wb _ (by omega)]
    · rw [upd_ne (by omega), upd_ne e, h j hj]
  unfold mlk lkL
  by_cases e : k = b
  · rw [e, upd_eq, upd_eq, e1 b hb, ml1_wb _ (by omega)]
  · rw [upd_ne (by omega), upd_ne e, e1 k hk]
theorem tb_lkL {L : Nat → Int32} {a b k i : Nat} {p : Bool} (ha : a < 6) (hb : b < 6) (hi : i < 32) : tb (lkL L a b p k) i = if (k = a ∧ i = b) ∨ (k = b ∧ i = a) then p else tb (L k) i := by
  unfold lkL
  by_cases e : k = b
  · rw [e, upd_eq, tb_wb (by omega) p hi]
    by_cases e2 : i = a
    · rw [if_pos e2, if_pos (Or.inr ⟨rfl, e2⟩)]
    · rw [if_neg e2]
      by_cases e3 : b = a
      · rw [e3, upd_eq, tb_wb (by omega) p hi, if_neg e2, if_neg (by omega)]
      · rw [upd_ne e3, if_neg (by omega)]
  · rw [upd_ne e]
    by_cases e2 : k = a
    · rw [e2, upd_eq, tb_wb (by omega) p hi]
      by_cases e3 : i = b
      · rw [if_pos e3, if_pos (Or.inl ⟨rfl, e3⟩)]
      · rw [if_neg e3, if_neg (by omega)]
    · rw [upd_ne e2, if_neg (by omega)]
theorem okL_lk {L : Nat → Int32} {a b n : Nat} {p : Bool} (h : okL L n) (hn : n ≤ 6) (ha : a < n) (hb : b < n) : okL (lkL L a b p) n := by
  have h32 : ∀ k i, tb (lkL L a b p k) i = true → i < 32 := fun k i q => by
    by_cases e : i < 32
    · exact e
    · rw [tb_big (by omega)] at q; cases q
  refine ⟨fun k j hk hj => ?_, fun k j hk hj hq => ?_⟩
  · rw [tb_lkL (by omega) (by omega) (h32 k j hj)] at hj
    by_cases e : (k = a ∧ j = b) ∨ (k = b ∧ j = a)
    · omega
    · rw [if_neg e] at hj; exact h.1 k j hk hj
  · rw [tb_lkL (by omega) (by omega) (by omega)] at hq ⊢
    by_cases e : (k = a ∧ j = b) ∨ (k = b ∧ j = a)
    · rw [if_pos e] at hq
      rw [if_pos (by omega)]; exact hq
    · rw [if_neg e] at hq
      rw [if_neg (by omega)]; exact h.2 k j hk hj hq
theorem lkL_back {L : Nat → Int32} {a b n : Nat} (h : okL L n) (hn : n ≤ 6) (ha : a < n) (hb : b < n) (h1 : tb (L a) b = true) (k : Nat) : lkL (lkL L a b false) a b true k = L k := by
  apply tb_ext
  intro i hi
  rw [tb_lkL (by omega) (by omega) hi, tb_lkL (by omega) (by omega) hi]
  have h2 := h.2 a b (by omega) (by omega) h1
  by_cases e : (k = a ∧ i = b) ∨ (k = b ∧ i = a)
  · rw [if_pos e]
    rcases e with ⟨e1, e2⟩ | ⟨e1, e2⟩
    · rw [e1, e2]; exact h1.symm
    · rw [e1, e2]; exact h2.symm
  · rw [if_neg e, if_neg e]
theorem sm_ext {f : Nat → Nat} {n : Nat} : ∀ {m : Nat}, n ≤ m → (∀ k, n ≤ k → k < m → f k = 0) → sm m f = sm n f
  | 0, h, _ => by rw [show n = 0 by omega]
  | m + 1, h, h0 => by
    by_cases e : n = m + 1
    · rw [e]
    · rw [sm_s, sm_ext (m := m) (by omega) (fun k h1 h2 => h0 k h1 (by omega)), h0 m (by omega) (by omega)]; omega
theorem mou_cu {U N : Nat → Int32} {n : Nat} {S : Int32} (h : okU U N n) (hn : n ≤ 6) : cu U S + mou N n S = sm 6 (fun s => sm 10 (fun k => bN (us U s k))) := by
  have e : mou N n S = sm 6 (fun s => bif tb S s then 0 else sm 10 (fun k => bN (us U s k))) := by
    unfold mou
    rw [fo_sm, Nat.zero_add, sm_ext (n := n) (m := 6) hn]
    · apply sm_congr
      intro s hs
      cases tb S s
      · rw [cond_false, cond_false, cb_sm]
        apply sm_congr
        intro k hk
        congr 1
        apply Bool.eq_iff_iff.mpr
        rw [tb_mni hk]
        constructor
        · rintro ⟨t, h1, h2, h3⟩
          rw [tb_bt (by omega)] at h2
          have : t = s := by simpa using h2
          rw [this, us_mus h (by omega) hk] at h3; exact h3
        · intro hu
          exact ⟨s, hs, by rw [tb_bt (by omega)]; simp, by rw [us_mus h (by omega) hk]; exact hu⟩
      · rfl
    · intro s h1 h2
      cases tb S s
      · rw [cond_false]
        apply sm_0
        intro k hk
        cases hu : us U s k
        · rfl
        · have := (us_lt h h2 hk hu).1; omega
      · rfl
  rw [e, cu_sm, ← sm_add]
  apply sm_congr
  intro s _
  cases tb S s
  · rw [cond_false]
    rw [sm_0 (f := fun k => bN (false && us U s k)) (fun k _ => rfl)]; omega
  · rw [cond_true]; rfl
section Looks2
variable {l : Launch} {σ : av_S}
theorem q_hops (hI : Inv σ) (x y : Int32) : OpS l cX5_hops 5 cX6_hops 7 [.int x, .int y] σ := by
  obtain ⟨n, q, ⟨hZ, hN, hn1, hn6⟩, -, -, hL, hNL, -⟩ := id hI.1
  rcases sv_cases (n := n) (by omega) x with h | ⟨a, ha, rfl⟩
  · exact OpS.mk (c_X5_hops_bad x y (by rw [hZ]; exact and_f1 h)) (c_X6_hops_bad x y n (and_f1 h) hN hn1 hn6) rfl hI (by decide) (by decide)
  · have ha1 := sv_nI (n := n) (by omega) ha
    rcases sv_cases (n := n) (by omega) y with h | ⟨b, hb, rfl⟩
    · exact OpS.mk (c_X5_hops_bad _ y (by rw [hZ]; exact and_f2 h)) (c_X6_hops_bad _ y n (and_f2 h) hN hn1 hn6) rfl hI (by decide) (by decide)
    · have hb1 := sv_nI (n := n) (by omega) hb
      have hx := c_X5_hops_ok (l := l) (σ := σ) a b (by omega) (by omega) (by rw [hZ]; exact and_t ha1 hb1)
      have e1 : mnet (σ 78) n a = net (σ 1) a := mnet_eq hL hn6 hNL (by omega)
      cases hc : tb (net (σ 1) a) b with
      | false =>
        have hf : fnd 6 0 (fun k => tb (rch (σ 1) a k) b) = none := by
          cases q2 : fnd 6 0 (fun k => tb (rch (σ 1) a k) b) with
          | none => rfl
          | some k =>
            have := fnd_lt q2
            rw [show net (σ 1) a = rch (σ 1) a 5 from rfl, rch_up (m := 5) (by omega) this.2] at hc; cases hc
        have e : hpI (σ 1) a b = -9 := by unfold hpI; rw [hf]
        rw [e] at hx
        exact OpS.mk hx (c_X6_hops_no a b n (by omega) (by omega) (and_t ha1 hb1) (by rw [e1]; exact hc) hN hn1 hn6) rfl hI (by decide) (by decide)
      | true =>
        cases q2 : fnd 6 0 (fun k => tb (rch (σ 1) a k) b) with
        | none =>
          have := fnd_none q2 5 (by omega) (by omega)
          rw [show net (σ 1) a = rch (σ 1) a 5 from rfl, this] at hc; cases hc
        | some K =>
          have h1 := fnd_lt q2
          have h2 := fnd_first q2
          have e : hpI (σ 1) a b = nI K := by unfold hpI; rw [q2]
          rw [e] at hx
          exact OpS.mk hx (c_X6_hops_ok a b K n (by omega) (by omega) (and_t ha1 hb1) (by rw [e1]; exact hc) (by rw [mrc_eq hL hn6 hNL]; exact h1.2) (fun k hk => by rw [mrc_eq hL hn6 hNL]; exact h2.2 k (by omega) hk) (by omega) hN hn1 hn6) rfl hI (by decide) (by decide)
theorem q_killsIfConnected (hI : Inv σ) (x y : Int32) : OpS l cX5_killsIfConnected 3 cX6_killsIfConnected 4 [.int x, .int y] σ := by
  obtain ⟨n, q, ⟨hZ, hN, hn1, hn6⟩, -, -, hL, hNL, hU, hJ, hX, -⟩ := id hI.1
  rcases sv_cases (n := n) (by omega) x with h | ⟨a, ha, rfl⟩
  · exact OpS.mk (c_X5_killsIfConnected_bad x y (by rw [hZ]; exact and_f1 h)) (c_X6_killsIfConnected_bad x y n (and_f1 h) hN hn1 hn6) rfl hI (by decide) (by decide)
  · have ha1 := sv_nI (n := n) (by omega) ha
    rcases sv_cases (n := n) (by omega) y with h | ⟨b, hb, rfl⟩
    · exact OpS.mk (c_X5_killsIfConnected_bad _ y (by rw [hZ]; exact and_f2 h)) (c_X6_killsIfConnected_bad _ y n (and_f2 h) hN hn1 hn6) rfl hI (by decide) (by decide)
    · have hb1 := sv_nI (n := n) (by omega) hb
      have e1 : mnet (σ 78) n a = net (σ 1) a := mnet_eq hL hn6 hNL (by omega)
      have e2 : mnet (σ 78) n b = net (σ 1) b := mnet_eq hL hn6 hNL (by omega)
      cases hc : tb (net (σ 1) a) b with
      | true => exact OpS.mk (c_X5_killsIfConnected_st a b (by omega) (by omega) (by rw [hZ]; exact and_t ha1 hb1) hc) (c_X6_killsIfConnected_st a b n (by omega) (by omega) (and_t ha1 hb1) (by rw [e1]; exact hc) hN hn1 hn6) rfl hI (by decide) (by decide)
      | false =>
        refine OpS.mk (c_X5_killsIfConnected_ok a b (by omega) (by omega) (by rw [hZ]; exact and_t ha1 hb1) hc) (c_X6_killsIfConnected_ok a b n (by omega) (by omega) (and_t ha1 hb1) (by rw [e1]; exact hc) hN hn1 hn6) ?_ (inv_congr (fun k hk => av_set_ne _ _ (by omega)) rfl rfl hI) (by decide) (by decide)
        rw [e1, e2, kills_eq hU hn6 (fun k hk => net_uniq hL hn6 hX (by omega) hk) (fun k hk => net_uniq hL hn6 hX (by omega) hk)]
theorem burst_eq {n s : Nat} {L U M C D N : Nat → Int32} (hn : n ≤ 6) (hL : okL L n) (hNL : okN N L) (hU : okU U N n) (hM : okM M N 70) (hl : loM M) (hX : okX L U) (hC : RC L M C D N n) (hs : s < n) : cm L U M D s = nI (mbu N n s) := by
  have e1 : mnet N n s = net L s := mnet_eq hL hn hNL (by omega)
  have h0 : jbc (net L s) + nI (cu U (net L s)) = nI (cb 10 (mnet N n s) + cb 10 (mni (mus N) n (mnet N n s))) := by
    rw [jbc_lo (lo_mono (by decide) (net_lo hL hn (by omega))), cu_cb (fun k hk => net_uniq hL hn hX (by omega) hk), nI_add, e1, mus_nk hU hn (net_in hL hn hs)]
  unfold cm mbu
  rw [h0]
  have key : ∀ m, m ≤ 4 → fo m (fun ch x => cmF L M D s ch x) (nI (cb 10 (mnet N n s) + cb 10 (mni (mus N) n (mnet N n s)))) = nI (fo m (fun ch x => x + cb 10 (mni (mj N 70 ch) n (mnet N n s)) + (if cb 10 (mni (mj N 70 ch) n (mnet N n s)) = 0 then 0 else cb 10 (N (214 + 4 * s + ch)))) (cb 10 (mnet N n s) + cb 10 (mni (mus N) n (mnet N n s)))) := by
    intro m
    induction m with
    | zero => intro _; rfl
    | succ m ih =>
      intro hm
      rw [fo_s, fo_s, ih (by omega)]
      generalize fo m _ _ = y
      have e2 : mni (mj N 70 m) n (mnet N n s) = un M (net L s) m := by rw [e1, mj_un hM hl hn (by omega) (net_in hL hn hs)]
      rw [e2]
      unfold cmF
      rw [jbc_lo (lo_un hl (by omega))]
      have hle := cb_le 10 (un M (net L s) m)
      by_cases e : cb 10 (un M (net L s) m) = 0
      · rw [e, if_pos (show nI 0 ≤ 0 by decide), if_pos rfl]
        rfl
      · rw [if_neg (nI_nle (by omega) (by omega)), if_neg e]
        have hh : hc L M s m = true := by
          cases q : hc L M s m
          · exact absurd ((hc_iff hl (by omega)).mp q) e
          · rfl
        obtain ⟨-, hD, hDl, -⟩ := hC s m hs (by omega) hh
        rw [jbc_lo hDl, hD, nI_add, nI_add]
        congr 1
        omega
  exact key 4 (Nat.le_refl _)
theorem q_burstSize (hI : Inv σ) (x y : Int32) : OpS l cX5_burstSize 3 cX6_burstSize 4 [.int x, .int y] σ := by
  obtain ⟨n, q, ⟨hZ, hN, hn1, hn6⟩, -, -, hL, hNL, hU, hJ, hX, hC⟩ := id hI.1
  rcases sv_cases (n := n) (by omega) x with h | ⟨a, ha, rfl⟩
  · exact OpS.mk (c_X5_burstSize_bad x y (by rw [hZ]; exact and_f1 h)) (c_X6_burstSize_bad x y n (and_f1 h) hN hn1 hn6) rfl hI (by decide) (by decide)
  · have ha1 := sv_nI (n := n) (by omega) ha
    rcases sv_cases (n := n) (by omega) y with h | ⟨b, hb, rfl⟩
    · exact OpS.mk (c_X5_burstSize_bad _ y (by rw [hZ]; exact and_f2 h)) (c_X6_burstSize_bad _ y n (and_f2 h) hN hn1 hn6) rfl hI (by decide) (by decide)
    · have hb1 := sv_nI (n := n) (by omega) hb
      have e1 : mnet (σ 78) n a = net (σ 1) a := mnet_eq hL hn6 hNL (by omega)
      cases hc : tb (net (σ 1) a) b with
      | true => exact OpS.mk (c_X5_burstSize_st a b (by omega) (by omega) (by rw [hZ]; exact and_t ha1 hb1) hc) (c_X6_burstSize_st a b n (by omega) (by omega) (and_t ha1 hb1) (by rw [e1]; exact hc) hN hn1 hn6) rfl hI (by decide) (by decide)
      | false =>
        refine OpS.mk (c_X5_burstSize_ok a b (by omega) (by omega) (by rw [hZ]; exact and_t ha1 hb1) hc) (c_X6_burstSize_ok a b n (by omega) (by omega) (and_t ha1 hb1) (by rw [e1]; exact hc) hN hn1 hn6) ?_ hI (by decide) (by decide)
        rw [burst_eq hn6 hL hNL hU hJ.1 hJ.2.2.1 hX hC ha, burst_eq hn6 hL hNL hU hJ.1 hJ.2.2.1 hX hC hb, nI_add]
end Looks2
