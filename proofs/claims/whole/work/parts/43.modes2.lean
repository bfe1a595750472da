/-! ===== the mode text: both apply it alike ===== -/
def AR (L M O N : Nat → Int32) (S : Int32) (ch : Nat) (t g : Nat → Nat) (d0 : Int32) (k : Nat) : Prop :=
  (ma t k (d0, false)).1 = (atx t g ch k (d0, true, N)).1 ∧ (1 ≤ k → (ma t k (d0, false)).2 = (atx t g ch k (d0, true, N)).2.1 ∧ (oa t k (un O S ch, false)).2 = (atx t g ch k (d0, true, N)).2.1) ∧ lo 10 (atx t g ch k (d0, true, N)).1 ∧ (∀ i, (i < 130 ∨ 190 ≤ i) → (atx t g ch k (d0, true, N)).2.2 i = N i) ∧ loJ (atx t g ch k (d0, true, N)).2.2 130 ∧ ∀ s' d c, s' < 6 → d < 10 → c < 4 → tb ((atx t g ch k (d0, true, N)).2.2 (130 + (10 * s' + d))) c = if c = ch ∧ tb S s' = true then (tb (M (s' * 4 + ch)) d && tb (oa t k (un O S ch, false)).1 d) else tb (O (s' * 4 + c)) d
theorem atF_sg {g ch c : Nat} {S : Int32 × Bool × (Nat → Int32)} (h : sg c = true) : atF g ch c S = (S.1, decide (c = 43), S.2.2) := by
  have hd : dg c = false := by
    cases e : dg c
    · rfl
    · rw [sg_dg e] at h; cases h
  unfold atF
  rw [h, ix_sg h, hd]; rfl
theorem atF_ix {g ch c j : Nat} {S : Int32 × Bool × (Nat → Int32)} (h : sg c = false) (hj : ix c = some j) : atF g ch c S = (wb S.1 j S.2.1, S.2.1, S.2.2) := by
  have hd : dg c = false := by
    cases e : dg c
    · rfl
    · rw [ix_dg e] at hj; cases hj
  unfold atF
  rw [h, hj, hd]; rfl
theorem atF_dg {g ch c : Nat} {S : Int32 × Bool × (Nat → Int32)} (hd : dg c = true) : atF g ch c S = (S.1, S.2.1, mso S.2.2 g (c - 48) ch S.2.1) := by
  unfold atF
  rw [sg_dg hd, ix_dg hd, hd]; rfl
theorem atF_no {g ch c : Nat} {S : Int32 × Bool × (Nat → Int32)} (h : sg c = false) (hi : ix c = none) (hd : dg c = false) : atF g ch c S = S := by
  unfold atF
  rw [h, hi, hd]; rfl
theorem atx_s (t g : Nat → Nat) (ch k : Nat) (S : Int32 × Bool × (Nat → Int32)) : atx t g ch (k + 1) S = atF (g k) ch (t k) (atx t g ch k S) := rfl
theorem ma_s (t : Nat → Nat) (k : Nat) (S : Int32 × Bool) : ma t (k + 1) S = maF (t k) (ma t k S) := rfl
theorem oa_s (t : Nat → Nat) (k : Nat) (S : Int32 × Bool) : oa t (k + 1) S = oaF (t k) (oa t k S) := rfl
theorem AR_step {L M O N : Nat → Int32} {S : Int32} {ch : Nat} {t g : Nat → Nat} {d0 : Int32} {k : Nat} (h4 : ch < 4) (h0 : sg (t 0) = true) (hg : dg (t k) = true → g k < 6 ∧ tb S (g k) = true ∧ tb (M (g k * 4 + ch)) (t k - 48) = true ∧ ∀ s', s' < 6 → tb S s' = true → s' ≠ g k → tb (M (s' * 4 + ch)) (t k - 48) = false) (h : AR L M O N S ch t g d0 k) : AR L M O N S ch t g d0 (k + 1) := by
  obtain ⟨a1, a2, a3, a4, a5, a6⟩ := h
  unfold AR
  rw [atx_s, ma_s, oa_s]
  cases hs : sg (t k) with
  | true =>
    rw [atF_sg hs]
    have e1 : maF (t k) (ma t k (d0, false)) = ((ma t k (d0, false)).1, decide (t k = 43)) := by unfold maF; rw [hs]; rfl
    have e2 : oaF (t k) (oa t k (un O S ch, false)) = ((oa t k (un O S ch, false)).1, decide (t k = 43)) := by unfold oaF; rw [hs]; rfl
    rw [e1, e2]
    exact ⟨a1, fun _ => ⟨rfl, rfl⟩, a3, a4, a5, a6⟩
  | false =>
    have hk : 1 ≤ k := by
      apply Nat.pos_of_ne_zero
      intro e
      rw [e, h0] at hs; cases hs
    obtain ⟨b1, b2⟩ := a2 hk
    cases hi : ix (t k) with
    | some j =>
      have hd : dg (t k) = false := by
        cases e : dg (t k)
        · rfl
        · rw [ix_dg e] at hi; cases hi
      rw [atF_ix hs hi]
      have e1 : maF (t k) (ma t k (d0, false)) = (wb (ma t k (d0, false)).1 j (ma t k (d0, false)).2, (ma t k (d0, false)).2) := by unfold maF; rw [hs, cond_false, hi]
      have e2 : oaF (t k) (oa t k (un O S ch, false)) = oa t k (un O S ch, false) := by unfold oaF; rw [hs, hd]; rfl
      rw [e1, e2]
      have hj := ix_lt hi
      refine ⟨?_, fun _ => ⟨b1, b2⟩, lo_wb (by omega) (by omega) a3 _, a4, a5, a6⟩
      show wb (ma t k (d0, false)).1 j (ma t k (d0, false)).2 = wb (atx t g ch k (d0, true, N)).1 j (atx t g ch k (d0, true, N)).2.1
      rw [a1, b1]
    | none =>
      have e1 : maF (t k) (ma t k (d0, false)) = ma t k (d0, false) := by unfold maF; rw [hs, cond_false, hi]
      rw [e1]
      cases hd : dg (t k) with
      | false =>
        have e2 : oaF (t k) (oa t k (un O S ch, false)) = oa t k (un O S ch, false) := by unfold oaF; rw [hs, hd]; rfl
        rw [e2, atF_no hs hi hd]
        exact ⟨a1, fun _ => ⟨b1, b2⟩, a3, a4, a5, a6⟩
      | true =>
        obtain ⟨g1, g2, g3, g5⟩ := hg hd
        have hd10 : t k - 48 < 10 := by have := dg_ge hd; omega
        have e2 : oaF (t k) (oa t k (un O S ch, false)) = (wb (oa t k (un O S ch, false)).1 (t k - 48) (oa t k (un O S ch, false)).2, (oa t k (un O S ch, false)).2) := by unfold oaF; rw [hs, hd]; rfl
        rw [e2, atF_dg hd]
        refine ⟨a1, fun _ => ⟨b1, b2⟩, a3, fun i hi => ?_, fun s' d hs' hd' => ?_, fun s' d c hs' hd' hc => ?_⟩
        · show mso _ _ _ _ _ i = _
          unfold mso; rw [upd_ne (by omega)]; exact a4 i hi
        · show lo 4 (mso _ _ _ _ _ _)
          unfold mso
          by_cases e : s' = g k ∧ d = t k - 48
          · rw [e.1, e.2, upd_eq, ml1_wb _ (by omega)]
            exact lo_wb (by omega) h4 (a5 (g k) (t k - 48) g1 hd10) _
          · rw [upd_ne (by omega)]; exact a5 s' d hs' hd'
        · show tb (mso _ _ _ _ _ _) c = _
          unfold mso
          dsimp only
          rw [tb_wb (by omega) _ (by omega)]
          by_cases e : s' = g k ∧ d = t k - 48
          · rw [e.1, e.2, upd_eq, ml1_wb _ (by omega), tb_wb (by omega) _ (by omega), a6 (g k) (t k - 48) c g1 hd10 hc]
            by_cases ec : c = ch
            · rw [if_pos ec, if_pos ⟨ec, g2⟩, if_pos rfl, g3, Bool.true_and, b2]
            · rw [if_neg ec, if_neg (fun q => ec q.1), if_neg (fun q => ec q.1)]
          · rw [upd_ne (by omega), a6 s' d c hs' hd' hc]
            by_cases ec : c = ch ∧ tb S s' = true
            · rw [if_pos ec, if_pos ec]
              by_cases ed : d = t k - 48
              · rw [if_pos ed, ed, g5 s' hs' ec.2 (fun q => e ⟨q, ed⟩), Bool.false_and, Bool.false_and]
              · rw [if_neg ed]
            · rw [if_neg ec, if_neg ec]
theorem RB_modes {n s ch N0 : Nat} {t g : Nat → Nat} {L U M O C D N : Nat → Int32} (hn : n ≤ 6) (hs : s < n) (h4 : ch < 4) (hh : hc L M s ch = true) (h : RB n L U M O C D N) (h0 : sg (t 0) = true) (hN0 : 0 < N0) (hg : ∀ k, k < N0 → dg (t k) = true → g k < 6 ∧ tb (net L s) (g k) = true ∧ tb (M (g k * 4 + ch)) (t k - 48) = true ∧ ∀ s', s' < 6 → tb (net L s) s' = true → s' ≠ g k → tb (M (s' * 4 + ch)) (t k - 48) = false) : RB n L U M (so M O (net L s) ch (oa t N0 (un O (net L s) ch, false)).1) (ds C (net L s) ch (C (s * 4 + ch))) (ds D (net L s) ch (ma t N0 (D (s * 4 + ch), false)).1) (msc (atx t g ch N0 (N (214 + 4 * s + ch), true, N)).2.2 n (net L s) ch ((atx t g ch N0 (N (214 + 4 * s + ch), true, N)).2.2 (190 + 4 * s + ch)) (atx t g ch N0 (N (214 + 4 * s + ch), true, N)).1) := by
  obtain ⟨hL, hNL, hU, ⟨j1, j2, j3, j4, j5, j6, j7, j8⟩, hX, hC⟩ := h
  obtain ⟨c1, c2, c3, c4⟩ := hC s ch hs h4 hh
  rw [← c2]
  have key : ∀ k, k ≤ N0 → AR L M O N (net L s) ch t g (D (s * 4 + ch)) k := by
    intro k
    induction k with
    | zero =>
      intro _
      refine ⟨rfl, fun h => absurd h (by omega), c3, fun i _ => rfl, j6, fun s' d c hs' hd hc' => ?_⟩
      show tb (N (130 + (10 * s' + d))) c = if c = ch ∧ tb (net L s) s' = true then (tb (M (s' * 4 + ch)) d && tb (un O (net L s) ch) d) else tb (O (s' * 4 + c)) d
      rw [← j2 s' d c hs' hd hc']
      by_cases e : c = ch ∧ tb (net L s) s' = true
      · rw [if_pos e, e.1]
        apply Bool.eq_iff_iff.mpr
        rw [Bool.and_eq_true]
        constructor
        · intro hq
          exact ⟨j8 s' d ch hs' hd h4 hq, tb_un.mpr ⟨s', hs', e.2, hq⟩⟩
        · rintro ⟨q1, q2⟩
          obtain ⟨u, u1, u2, u3⟩ := tb_un.mp q2
          have q3 := j7 s' d ch hs' hd h4 q1
          have q4 := j7 u d ch u1 hd h4 (j8 u d ch u1 hd h4 u3)
          have := net_uniq hL hn hX (show s < 6 by omega) hd s' u hs' u1 e.2 u2 q3 q4
          rw [this]; exact u3
      · rw [if_neg e]
    | succ k ih => intro hk; exact AR_step h4 h0 (hg k (by omega)) (ih (by omega))
  obtain ⟨a1, -, a3, a4, a5, a6⟩ := key N0 (Nat.le_refl _)
  have elo : ∀ i, i < 130 → msc (atx t g ch N0 (D (s * 4 + ch), true, N)).2.2 n (net L s) ch ((atx t g ch N0 (D (s * 4 + ch), true, N)).2.2 (190 + 4 * s + ch)) (atx t g ch N0 (D (s * 4 + ch), true, N)).1 i = N i := fun i hi => (msc_lo (by omega)).trans (a4 i (Or.inl hi))
  refine ⟨hL, okN_congr hNL (fun i _ h => elo i (by omega)), okU_hi hU (fun i _ h => elo i (by omega)), ⟨okM_congr j1 (fun i _ h => elo i (by omega)), fun s' k c hs' hk hc' => ?_, j3, fun s' c hs' hc' => ?_, loJ_congr j5 (fun i _ h => elo i (by omega)), loJ_congr a5 (fun i _ h => msc_lo (by omega)), j7, fun s' k c hs' hk hc' hq => ?_⟩, hX, fun s' c hs' hc' hq => ?_⟩
  · rw [msc_lo (by omega), a6 s' k c hs' hk hc', so_at h4 hc' hs']
    by_cases e : c = ch ∧ tb (net L s) s' = true
    · rw [if_pos e, if_pos e, tb_and]
    · rw [if_neg e, if_neg e]
  · rw [so_at h4 hc' hs']
    split
    · exact lo_and (j3 s' ch hs' h4)
    · exact j4 s' c hs' hc'
  · rw [so_at h4 hc' hs'] at hq
    by_cases e : c = ch ∧ tb (net L s) s' = true
    · rw [if_pos e, tb_and, Bool.and_eq_true] at hq
      rw [e.1]; exact hq.1
    · rw [if_neg e] at hq; exact j8 s' k c hs' hk hc' hq
  · obtain ⟨m1, m2⟩ := msc_at (N := (atx t g ch N0 (D (s * 4 + ch), true, N)).2.2) (n := n) (S := net L s) (v := (atx t g ch N0 (D (s * 4 + ch), true, N)).2.2 (190 + 4 * s + ch)) (w := (atx t g ch N0 (D (s * 4 + ch), true, N)).1) (ch := ch) (t := s') (c := c) hn h4 hc' (by omega)
    rw [m1, m2, ds_at h4 hc' (by omega), ds_at h4 hc' (by omega)]
    by_cases e : c = ch ∧ tb (net L s) s' = true
    · rw [if_pos e, if_pos e, if_pos ⟨hs', e⟩, if_pos ⟨hs', e⟩, a4 _ (Or.inr (by omega)), a1]
      refine ⟨c1, rfl, a3, fun u hu hb => ?_⟩
      have hb2 := net_trans hL hn (by omega) (show s' < 6 by omega) e.2 hb
      rw [ds_at h4 hc' hu, ds_at h4 hc' hu, if_pos ⟨e.1, hb2⟩, if_pos ⟨e.1, hb2⟩]; exact ⟨rfl, rfl⟩
    · rw [if_neg e, if_neg e, if_neg (fun q => e q.2), if_neg (fun q => e q.2), a4 _ (Or.inr (by omega)), a4 _ (Or.inr (by omega))]
      obtain ⟨d1, d2, d3, d4⟩ := hC s' c hs' hc' hq
      refine ⟨d1, d2, d3, fun u hu hb => ?_⟩
      have e2 : ¬ (c = ch ∧ tb (net L s) u = true) := fun q => e ⟨q.1, net_trans hL hn (by omega) hu q.2 (net_sym hL hn (by omega) hb)⟩
      rw [ds_at h4 hc' hu, ds_at h4 hc' hu, if_neg e2, if_neg e2]; exact d4 u hu hb
theorem q_applyModes {l : Launch} {σ : av_S} (hI : Inv σ) (x y z : Int32) : OpS l cX5_applyModes 7 cX6_applyModes 5 [.int x, .int y, .int z] σ := by
  obtain ⟨hC0, ⟨j, c, hj, hc8, g1, g2, g3, g4⟩, hT⟩ := id hI
  obtain ⟨n, q, ⟨hZ, hN, hn1, hn6⟩, ⟨hq1, hq2, hq9⟩, ⟨h8, h9⟩, hB⟩ := id hC0
  obtain ⟨hL, hNL, hU, hJ, hX, hC⟩ := id hB
  obtain ⟨m, t, hm40, t1, t2, t3⟩ := id hT
  rcases sv_cases (n := n) (by omega) x with h | ⟨s, hs, rfl⟩
  · exact OpS.mk (c_X5_applyModes_bad x y z (by rw [hZ]; exact and3_f1 h)) (c_X6_applyModes_bad x y z n (and3_f1 h) hN hn1 hn6) rfl hI (by decide) (by decide)
  · have hs1 := sv_nI (n := n) (by omega) hs
    rcases sv_cases (n := 10) (by omega) y with h | ⟨k, hk, rfl⟩
    · exact OpS.mk (c_X5_applyModes_bad _ y z (and3_f2 h)) (c_X6_applyModes_bad _ y z n (and3_f2 h) hN hn1 hn6) rfl hI (by decide) (by decide)
    · have hk1 := sv_nI (n := 10) (by omega) hk
      rcases sv_cases (n := 4) (by omega) z with h | ⟨ch, h4, rfl⟩
      · exact OpS.mk (c_X5_applyModes_bad _ _ z (and3_f3 h)) (c_X6_applyModes_bad _ _ z n (and3_f3 h) hN hn1 hn6) rfl hI (by decide) (by decide)
      · have h41 := sv_nI (n := 4) (by omega) h4
        have eo' := ope_eq (show s < 6 by omega) hk h4 hB
        cases hp : tb (σ 4 (s * 4 + ch)) k with
        | false => exact OpS.mk (c_X5_applyModes_st s k ch (by omega) hk (by rw [hZ]; exact hs1) hk1 h4 h41 hp) (c_X6_applyModes_st s k ch n (by omega) hk (and_t hs1 hk1) h4 h41 (by rw [eo']; exact hp) hN hn1 hn6) rfl hI (by decide) (by decide)
        | true =>
          have e1 : mnet (σ 78) n s = net (σ 1) s := mnet_eq hL hn6 hNL (by omega)
          have e3 : mni (mj (σ 78) 70 ch) n (mnet (σ 78) n s) = un (σ 3) (net (σ 1) s) ch := by rw [e1, mj_un hJ.1 hJ.2.2.1 hn6 h4 (net_in hL hn6 hs)]
          have ht : ∀ i, i < m → σ 67 i = nI (t i) ∧ t i < 256 := fun i hi => ⟨(t3 i hi).2.1, (t3 i hi).1⟩
          have ht2 : ∀ i, i < m → σ 80 i = nI (t i) ∧ t i < 256 := fun i hi => ⟨(t3 i hi).2.2, (t3 i hi).1⟩
          obtain ⟨k1, k2⟩ := chk_0 (t := t) (M := un (σ 3) (net (σ 1) s) ch) (n := m)
          cases ho : eo t m (un (σ 3) (net (σ 1) s) ch) with
          | some u =>
            have hu := eo_lt ho
            refine OpS.mk (c_X5_applyModes_err s k ch u t m (by omega) hk (by rw [hZ]; exact hs1) hk1 h4 h41 hp t1 hm40 ht ho (by omega)) (c_X6_applyModes_err s k ch u t m n (by omega) hk (and_t hs1 hk1) h4 h41 (by rw [eo']; exact hp) t2 hm40 ht2 (by rw [e3, k1]; exact ho) (by omega) hN hn1 hn6) rfl (inv_congr (σ := σ) (fun i hi => av_set_ne _ _ (by omega)) rfl rfl hI) (by decide) (by decide)
          | none =>
            have hh : hc (σ 1) (σ 3) s ch = true := (hc_true (n := n) hJ.2.2.1 h4).mpr ⟨s, k, by omega, hk, net_self (by omega), hJ.2.2.2.2.2.2.2 s k ch (by omega) hk h4 hp⟩
            obtain ⟨hm0, hsg⟩ := eo_sign ho
            have hgm : ∀ i, i < m → dg (t i) = true → ∃ u, hm (σ 2) (net (σ 1) s) (t i - 48) = some u ∧ tb (σ 3 (u * 4 + ch)) (t i - 48) = true := by
              intro i hi hd
              have hd10 : t i - 48 < 10 := by have := dg_ge hd; omega
              obtain ⟨w, w1, w2, w3⟩ := tb_un.mp (eo_digit ho hi hd)
              have w4 := hJ.2.2.2.2.2.2.1 w (t i - 48) ch w1 hd10 h4 w3
              cases hq : hm (σ 2) (net (σ 1) s) (t i - 48) with
              | none => rw [hm_none hq w w1 w2] at w4; cases w4
              | some u =>
                have hu := hm_some hq
                have := net_uniq hL hn6 hX (show s < 6 by omega) hd10 w u w1 hu.1 w2 hu.2.1 w4 hu.2.2
                exact ⟨u, rfl, by rw [← this]; exact w3⟩
            have hB' := RB_modes (N0 := m) (t := t) (g := fun i => (hm (σ 2) (net (σ 1) s) (t i - 48)).getD 0) hn6 hs h4 hh hB hsg hm0 (fun i hi hd => by
              have hd10 : t i - 48 < 10 := by have := dg_ge hd; omega
              obtain ⟨u, u1, u2⟩ := hgm i hi hd
              have hu := hm_some u1
              rw [u1, Option.getD_some]
              refine ⟨hu.1, hu.2.1, u2, fun s' hs' hb hne => ?_⟩
              cases hq : tb (σ 3 (s' * 4 + ch)) (t i - 48)
              · rfl
              · exact absurd (net_uniq hL hn6 hX (show s < 6 by omega) hd10 s' u hs' hu.1 hb hu.2.1 (hJ.2.2.2.2.2.2.1 s' (t i - 48) ch hs' hd10 h4 hq) hu.2.2) hne)
            have h1 := c_X5_applyModes_ok (l := l) (σ := σ) s k ch t m j c (by omega) hk (by rw [hZ]; exact hs1) hk1 h4 h41 hp t1 hm40 ht ho g1 hj g2 hc8
            have hh1 : ∀ (τ : av_S), τ 78 = σ 78 → τ 77 = σ 77 → τ 80 = σ 80 → av_M l RX6 cX6_applyModes 5 (some .int) 4 [.ref 77, .int (nI s), .int (nI k), .int (nI ch)] τ (some (.int (nI (ci t m)))) (av_set (av_set (av_set τ 77 (upd (upd (upd (σ 77) 5 (nI (ci t m))) 2 (nI (svU c))) 4 (nI 0))) 78 (msc (atx t (fun i => (hm (σ 2) (net (σ 1) s) (t i - 48)).getD 0) ch m (σ 78 (214 + 4 * s + ch), true, σ 78)).2.2 n (net (σ 1) s) ch ((atx t (fun i => (hm (σ 2) (net (σ 1) s) (t i - 48)).getD 0) ch m (σ 78 (214 + 4 * s + ch), true, σ 78)).2.2 (190 + 4 * s + ch)) (atx t (fun i => (hm (σ 2) (net (σ 1) s) (t i - 48)).getD 0) ch m (σ 78 (214 + 4 * s + ch), true, σ 78)).1)) 79 (svH (τ 79) (σ 78) c)) := by
              intro τ e78 e77 e80
              have hr := c_X6_applyModes_ok (l := l) (σ := τ) s k ch t (fun i => (hm (σ 2) (net (σ 1) s) (t i - 48)).getD 0) m n c (by omega) hk (and_t hs1 hk1) h4 h41 (by rw [e78, eo']; exact hp) (by rw [e77]; exact t2) hm40 (by rw [e80]; exact ht2) (fun i hi hd => by
                have hd10 : t i - 48 < 10 := by have := dg_ge hd; omega
                obtain ⟨u, u1, u2⟩ := hgm i hi hd
                rw [e78, e1, mhm_hm hU hn6 hd10 (net_uniq hL hn6 hX (by omega) hd10), u1, Option.getD_some]) (by rw [e78, e3, k1]; exact ho) (by rw [e78]; exact hN) hn1 hn6 (by rw [e77]; exact g3) hc8
              rw [e78, e77, e3, e1, k2 (by rw [k1]; exact ho)] at hr
              exact hr
            refine OpS.mk h1 (hh1 _ rfl rfl rfl) rfl (inv_edit hC0 hj hc8 g4 (fun i h7 h65 h63 => ?_) rfl rfl ⟨n, q, ?_⟩ ⟨0, t, by omega, rfl, rfl, fun i hi => absurd hi (Nat.not_lt_zero _)⟩) (by decide) (by decide)
            · rw [av_set_ne _ _ (by omega), av_set_ne _ _ (by omega), av_set_ne _ _ (by omega), av_set_ne _ _ (by omega), av_set_ne _ _ (by omega), av_set_ne _ _ (by omega), av_set_ne _ _ (by omega)]
            · have elo : ∀ i, i < 130 → msc (atx t (fun i => (hm (σ 2) (net (σ 1) s) (t i - 48)).getD 0) ch m (σ 78 (214 + 4 * s + ch), true, σ 78)).2.2 n (net (σ 1) s) ch ((atx t (fun i => (hm (σ 2) (net (σ 1) s) (t i - 48)).getD 0) ch m (σ 78 (214 + 4 * s + ch), true, σ 78)).2.2 (190 + 4 * s + ch)) (atx t (fun i => (hm (σ 2) (net (σ 1) s) (t i - 48)).getD 0) ch m (σ 78 (214 + 4 * s + ch), true, σ 78)).1 i = σ 78 i := fun i hi => (msc_lo (by omega)).trans (atx_lo m hi)
              exact RM_mk hZ ((elo 0 (by omega)).trans hN) hn1 hn6 hq1 ((elo 1 (by omega)).trans hq2) hq9 ((elo 2 (by omega)).trans h8) ((elo 3 (by omega)).trans h9) hB'
