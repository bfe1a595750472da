/-! ===== connect ===== -/
theorem RB_link {n q a b : Nat} {L U M : Nat → Int32} {T : av_T4} {N C0 D0 : Nat → Int32} (hL : okL L n) (hn : n ≤ 6) (ha : a < n) (hb : b < n) (hX : okX L U) (hd : ∀ s t k, s < 6 → t < 6 → k < 10 → tb (net L a) s = true → tb (net L b) t = true → us U s k = true → us U t k = true → False) (h : PB n q a b L U M 4 T N) : RB n (lkL L a b true) U M T.2.1 T.2.2.1 T.2.2.2 (mlk N a b true) := by
  obtain ⟨z0, z1, z2, hNL, hU, hJ, hC⟩ := h
  have hN : ∀ i, 10 ≤ i → mlk N a b true i = N i := fun i hi => mlk_ne (by omega) (by omega)
  refine ⟨okL_lk hL hn ha hb, okN_lk hNL (by omega) (by omega), okU_hi hU (fun i h1 _ => hN i h1), RJ_congr hJ (fun i h1 _ => hN i (by omega)), fun s t k hs ht hk h1 h2 h3 => ?_, fun s c hs hc hh => ?_⟩
  · rw [net_link hL hn ha hb hs] at h3
    by_cases hW : tb (net L a ||| net L b) s = true
    · rw [if_pos hW] at h3
      rw [tb_or, Bool.or_eq_true] at hW h3
      rcases hW with g | g
      · rcases h3 with g2 | g2
        · exact hX s t k hs ht hk h1 h2 (net_trans hL hn hs (by omega) (net_sym hL hn (by omega) g) g2)
        · exact (hd s t k hs ht hk g g2 h1 h2).elim
      · rcases h3 with g2 | g2
        · exact (hd t s k ht hs hk g2 g h2 h1).elim
        · exact hX s t k hs ht hk h1 h2 (net_trans hL hn hs (by omega) (net_sym hL hn (by omega) g) g2)
    · rw [if_neg hW] at h3
      exact hX s t k hs ht hk h1 h2 h3
  · have e : net (lkL L a b true) s = eN 4 (net L a ||| net L b) L s c := by
      rw [net_link hL hn ha hb (by omega)]
      unfold eN
      by_cases hW : tb (net L a ||| net L b) s = true
      · rw [if_pos hW, if_pos ⟨hc, hW⟩]
      · rw [if_neg hW, if_neg (fun q => hW q.2)]
    have hne : ¬ un M (eN 4 (net L a ||| net L b) L s c) c = 0 := by
      rw [← e]; exact of_decide_eq_true hh
    rw [hN _ (by omega), hN _ (by omega), e]
    exact hC s c hs hc hne
theorem q_connect {l : Launch} {σ : av_S} (hI : Inv σ) (x y : Int32) : OpS l cX5_connect 4 cX6_connect 5 [.int x, .int y] σ := by
  obtain ⟨n, q, ⟨hZ, hN, hn1, hn6⟩, ⟨hq1, hq2, hq9⟩, ⟨h8, h9⟩, hB⟩ := id hI.1
  obtain ⟨hL, hNL, -⟩ := id hB
  rcases sv_cases (n := n) (by omega) x with h | ⟨a, ha, rfl⟩
  · exact OpS.mk (c_X5_connect_bad x y (by rw [hZ]; exact and_f1 h)) (c_X6_connect_bad x y n (and_f1 h) hN hn1 hn6) rfl hI (by decide) (by decide)
  · have ha1 := sv_nI (n := n) (by omega) ha
    rcases sv_cases (n := n) (by omega) y with h | ⟨b, hb, rfl⟩
    · exact OpS.mk (c_X5_connect_bad _ y (by rw [hZ]; exact and_f2 h)) (c_X6_connect_bad _ y n (and_f2 h) hN hn1 hn6) rfl hI (by decide) (by decide)
    · have hb1 := sv_nI (n := n) (by omega) hb
      by_cases hab : a = b
      · subst hab
        exact OpS.mk (c_X5_connect_same _) (c_X6_connect_same _ n hN hn1 hn6) rfl hI (by decide) (by decide)
      · have e1 : mnet (σ 78) n a = net (σ 1) a := mnet_eq hL hn6 hNL (by omega)
        cases hsh : tb (net (σ 1) a) b with
        | true => exact OpS.mk (c_X5_connect_st a b (by omega) (by omega) (by rw [hZ]; exact and_t ha1 hb1) hab hsh) (c_X6_connect_st a b n (by omega) (by omega) (and_t ha1 hb1) hab (by rw [e1]; exact hsh) hN hn1 hn6) rfl hI (by decide) (by decide)
        | false =>
          have hB0 : RB n (σ 1) (σ 2) (σ 3) (σ 4) (σ 5) (σ 6) (mc0 (σ 78)) := RB_congr hn6 (fun _ _ => rfl) (fun _ _ => rfl) (fun _ _ => rfl) (fun _ _ => rfl) (fun _ _ => rfl) (fun _ _ => rfl) (fun i h1 _ => by unfold mc0; rw [upd_ne (by omega), upd_ne (by omega)]) hB
          have hK : mcnK (σ 78) n a b = mkn (mc0 (σ 78)) n (net (σ 1) a) (net (σ 1) b) 10 := by
            unfold mcnK; rw [mnet_eq hL hn6 hB0.2.1 (by omega), mnet_eq hL hn6 hB0.2.1 (by omega)]
          obtain ⟨kB, -, kd, kc⟩ := KN_all hn6 (show a < 6 by omega) (show b < 6 by omega) hB0
          have hlo : ∀ i, i < 10 → (mkn (mc0 (σ 78)) n (net (σ 1) a) (net (σ 1) b) 10).2 i = mc0 (σ 78) i := fun i hi => mkn_lo 10 hi
          have hP := PB_all (n := n) (q := q) (Z := σ 0) (O := (sn3 (net (σ 1) a) (net (σ 1) b) (σ 2, σ 3, σ 4)).2.2) (C := σ 5) (D := σ 6) hL hn6 ha hb ⟨⟨hZ, (hlo 0 (by omega)).trans hN⟩, ⟨hq1, (hlo 1 (by omega)).trans hq2⟩, ⟨hlo 2 (by omega), hlo 3 (by omega)⟩, kB.2.1, kB.2.2.1, kB.2.2.2.1, RCe_0 kB.2.2.2.2.2⟩
          have hB' := RB_link (C0 := σ 5) (D0 := σ 6) hL hn6 ha hb kB.2.2.2.2.1 kd hP
          obtain ⟨⟨z0, n0⟩, ⟨z1, n1⟩, ⟨z2, z3⟩, -⟩ := hP
          refine OpE (r' := nI (mcnK (σ 78) n a b).1) (N' := mcn (σ 78) n a b) hI (fun j c hj hc8 g1 g2 => ⟨_, c_X5_connect_ok a b j c (by omega) (by omega) (by rw [hZ]; exact and_t ha1 hb1) hab hsh g1 hj g2 hc8, fun k hk => ?_, n, q, ?_⟩) (fun τ u e78 hu hu8 => ?_) ?_ (by decide)
          · rw [av_set_ne _ _ (by omega), av_set_ne _ _ (by omega), av_set_ne _ _ (by omega), av_set_ne _ _ (by omega), av_set_ne _ _ (by omega), av_set_ne _ _ (by omega), av_set_ne _ _ (by omega)]
          · unfold mcn
            rw [hK]
            exact RM_mk z0 ((mlk_0 (by omega)).trans n0) hn1 hn6 z1 ((mlk_0 (by omega)).trans n1) hq9 ((mlk_0 (by omega)).trans z2) ((mlk_0 (by omega)).trans z3) hB'
          · have h := c_X6_connect_ok (l := l) (σ := τ) a b n u (by omega) (by omega) (and_t ha1 hb1) hab (by rw [e78, e1]; exact hsh) (by rw [e78]; exact hN) hn1 hn6 hu hu8
            rw [e78] at h; exact av_M.mono (by decide) h
          · rw [hK, kc, ck_sm]
