/-! ===== changeNick, join, part, kick ===== -/
section Edits2
variable {l : Launch} {σ : av_S}
theorem and3_f1 {p q r : Bool} (h : p = false) : (p && q && r) = false := by rw [h]; rfl
theorem and3_f2 {p q r : Bool} (h : q = false) : (p && q && r) = false := by rw [h]; cases p <;> rfl
theorem and3_f3 {p q r : Bool} (h : r = false) : (p && q && r) = false := by rw [h]; cases p <;> cases q <;> rfl
theorem q_changeNick (hI : Inv σ) (x y z : Int32) : OpS l cX5_changeNick 5 cX6_changeNick 7 [.int x, .int y, .int z] σ := by
  obtain ⟨n, q, ⟨hZ, hN, hn1, hn6⟩, ⟨hq1, hq2, hq9⟩, ⟨h8, h9⟩, hB⟩ := id hI.1
  obtain ⟨hL, hNL, hU, hJ, hX, hC⟩ := id hB
  rcases sv_cases (n := n) (by omega) x with h | ⟨s, hs, rfl⟩
  · exact OpS.mk (c_X5_changeNick_bad x y z (by rw [hZ]; exact and3_f1 h)) (c_X6_changeNick_bad x y z n (and3_f1 h) hN hn1 hn6) rfl hI (by decide) (by decide)
  · have hs1 := sv_nI (n := n) (by omega) hs
    rcases sv_cases (n := 10) (by omega) y with h | ⟨k, hk, rfl⟩
    · exact OpS.mk (c_X5_changeNick_bad _ y z (and3_f2 h)) (c_X6_changeNick_bad _ y z n (and3_f2 h) hN hn1 hn6) rfl hI (by decide) (by decide)
    · have hk1 := sv_nI (n := 10) (by omega) hk
      rcases sv_cases (n := 10) (by omega) z with h | ⟨w, hw, rfl⟩
      · exact OpS.mk (c_X5_changeNick_bad _ _ z (and3_f3 h)) (c_X6_changeNick_bad _ _ z n (and3_f3 h) hN hn1 hn6) rfl hI (by decide) (by decide)
      · have hw1 := sv_nI (n := 10) (by omega) hw
        have eu := us_mus hU (show s < 6 by omega) hk
        cases hu0 : us (σ 2) s k with
        | false => exact OpS.mk (c_X5_changeNick_st1 s k w (by omega) hk (by rw [hZ]; exact hs1) hk1 hw hw1 hu0) (c_X6_changeNick_st1 s k w n (by omega) hk (and_t hs1 hk1) hw hw1 (by rw [eu]; exact hu0) hN hn1 hn6) rfl hI (by decide) (by decide)
        | true =>
          have e1 : mnet (σ 78) n s = net (σ 1) s := mnet_eq hL hn6 hNL (by omega)
          have e2 : mhm (σ 78) n (net (σ 1) s) w = hm (σ 2) (net (σ 1) s) w := mhm_hm hU hn6 hw (net_uniq hL hn6 hX (by omega) hw)
          cases ho : hm (σ 2) (net (σ 1) s) w with
          | some u => exact OpS.mk (c_X5_changeNick_st2 s k w u (by omega) hk (by rw [hZ]; exact hs1) hk1 hw hw1 hu0 ho (hm_some ho).1) (c_X6_changeNick_st2 s k w u n (by omega) hk (and_t hs1 hk1) hw hw1 (by rw [eu]; exact hu0) (by rw [e1, e2]; exact ho) (hm_some ho).1 hN hn1 hn6) rfl hI (by decide) (by decide)
          | none =>
            have hB' := RB_changeNick hn6 hs hk hw hq9 hq2 hu0 ho hB
            have hlo : ∀ i, i < 4 → mch (σ 78) s w k i = σ 78 i := fun i hi => by
              rw [mch_at hw hk, if_neg (by omega), if_neg (by omega), if_neg (by omega), if_neg (by omega), if_neg (by omega), if_neg (by omega)]
            refine OpE (r' := σ 78 (10 + (10 * s + k))) (N' := mch (σ 78) s w k) hI (fun j c hj hc8 g1 g2 => ⟨_, c_X5_changeNick_ok s k w j c (by omega) hk (by rw [hZ]; exact hs1) hk1 hw hw1 hu0 ho g1 hj g2 hc8, fun k hk => ?_, n, q, RM_mk hZ ((hlo 0 (by omega)).trans hN) hn1 hn6 hq1 ((hlo 1 (by omega)).trans hq2) hq9 ((hlo 2 (by omega)).trans h8) ((hlo 3 (by omega)).trans h9) ?_⟩) (fun τ u e78 hu hu8 => ?_) ?_ (by decide)
            · rw [av_set_ne _ _ (by omega), av_set_ne _ _ (by omega), av_set_ne _ _ (by omega)]
            · show RB n (σ 1) (rmU (upd (σ 2) (s * 10 + w) (σ 0 1)) s k) (rmA (cpA (σ 3) s k w) s k) (rmA (cpA (σ 4) s k w) s k) (σ 5) (σ 6) _
              rw [hq1]; exact hB'
            · have h := c_X6_changeNick_ok (l := l) (σ := τ) s k w n u (by omega) hk (and_t hs1 hk1) hw hw1 (by rw [e78, eu]; exact hu0) (by rw [e78, e1, e2]; exact ho) (by rw [e78]; exact hN) hn1 hn6 hu hu8
              rw [e78] at h; exact av_M.mono (by decide) h
            · obtain ⟨-, t, -, g1, g2⟩ := us_lt hU (by omega) hk hu0
              rw [g1, g2]
theorem q_join (hI : Inv σ) (x y z : Int32) : OpS l cX5_join 5 cX6_join 5 [.int x, .int y, .int z] σ := by
  obtain ⟨n, q, ⟨hZ, hN, hn1, hn6⟩, ⟨hq1, hq2, hq9⟩, ⟨h8, h9⟩, hB⟩ := id hI.1
  obtain ⟨hL, hNL, hU, hJ, hX, hC⟩ := id hB
  rcases sv_cases (n := n) (by omega) x with h | ⟨s, hs, rfl⟩
  · exact OpS.mk (c_X5_join_bad x y z (by rw [hZ]; exact and3_f1 h)) (c_X6_join_bad x y z n (and3_f1 h) hN hn1 hn6) rfl hI (by decide) (by decide)
  · have hs1 := sv_nI (n := n) (by omega) hs
    rcases sv_cases (n := 10) (by omega) y with h | ⟨k, hk, rfl⟩
    · exact OpS.mk (c_X5_join_bad _ y z (and3_f2 h)) (c_X6_join_bad _ y z n (and3_f2 h) hN hn1 hn6) rfl hI (by decide) (by decide)
    · have hk1 := sv_nI (n := 10) (by omega) hk
      rcases sv_cases (n := 4) (by omega) z with h | ⟨ch, h4, rfl⟩
      · exact OpS.mk (c_X5_join_bad _ _ z (and3_f3 h)) (c_X6_join_bad _ _ z n (and3_f3 h) hN hn1 hn6) rfl hI (by decide) (by decide)
      · have h41 := sv_nI (n := 4) (by omega) h4
        have eu := us_mus hU (show s < 6 by omega) hk
        have em := mem_eq (show s < 6 by omega) hk h4 hB
        cases hu0 : us (σ 2) s k with
        | false => exact OpS.mk (c_X5_join_st1 s k ch (by omega) hk (by rw [hZ]; exact hs1) hk1 h4 h41 hu0) (c_X6_join_st1 s k ch n (by omega) hk (and_t hs1 hk1) h4 h41 (by rw [eu]; exact hu0) hN hn1 hn6) rfl hI (by decide) (by decide)
        | true =>
          cases hm0 : tb (σ 3 (s * 4 + ch)) k with
          | true => exact OpS.mk (c_X5_join_st2 s k ch (by omega) hk (by rw [hZ]; exact hs1) hk1 h4 h41 hu0 hm0) (c_X6_join_st2 s k ch n (by omega) hk (and_t hs1 hk1) h4 h41 (by rw [eu]; exact hu0) (by rw [em]; exact hm0) hN hn1 hn6) rfl hI (by decide) (by decide)
          | false =>
            have e1 : mnet (σ 78) n s = net (σ 1) s := mnet_eq hL hn6 hNL (by omega)
            have hcm := hc_mcm hL hn6 hNL hJ.1 hJ.2.2.1 hs h4
            have h10 := cb_le 10 (un (σ 3) (net (σ 1) s) ch)
            cases hh : hc (σ 1) (σ 3) s ch with
            | true =>
              have hz : 0 < mcm (σ 78) n s ch := by
                rw [hcm]
                apply Nat.pos_of_ne_zero
                intro e
                rw [(hc_iff hJ.2.2.1 h4).mpr e] at hh; cases hh
              have hB' := RB_joinOld hn6 (show s < 6 by omega) hk h4 hu0 hh hB
              have hlo : ∀ i, i < 4 → mjo (σ 78) (70 + (10 * s + k)) ch i = σ 78 i := fun i hi => upd_ne (by omega)
              refine OpE (r' := nI (mcm (mjo (σ 78) (70 + (10 * s + k)) ch) n s ch)) (N' := mjo (σ 78) (70 + (10 * s + k)) ch) hI (fun j c hj hc8 g1 g2 => ⟨_, c_X5_join_old s k ch j c (by omega) hk (by rw [hZ]; exact hs1) hk1 h4 h41 hu0 hm0 hh g1 hj g2 hc8, fun k hk => av_set_ne _ _ (by omega), n, q, RM_mk hZ ((hlo 0 (by omega)).trans hN) hn1 hn6 hq1 ((hlo 1 (by omega)).trans hq2) hq9 ((hlo 2 (by omega)).trans h8) ((hlo 3 (by omega)).trans h9) hB'⟩) (fun τ u e78 hu hu8 => ?_) (cnt_eq hn6 hs h4 hB').symm (by decide)
              have h := c_X6_join_old (l := l) (σ := τ) s k ch n u (by omega) hk (and_t hs1 hk1) h4 h41 (by rw [e78, eu]; exact hu0) (by rw [e78, em]; exact hm0) (by rw [e78]; exact hz) (by rw [e78, hcm]; exact h10) (by rw [e78]; exact hN) hn1 hn6 hu hu8
              rw [e78] at h; exact av_M.mono (by decide) h
            | false =>
              have hz : mcm (σ 78) n s ch = 0 := by rw [hcm]; exact (hc_iff hJ.2.2.1 h4).mp hh
              have hB' := RB_joinNew (z := q) hn6 hs hk h4 hu0 hB
              have hlo : ∀ i, i < 4 → mjo (mjo (msc (σ 78) n (net (σ 1) s) ch (nI q) (nI 0)) (130 + (10 * s + k)) ch) (70 + (10 * s + k)) ch i = σ 78 i := fun i hi => by
                unfold mjo; rw [upd_ne (by omega), upd_ne (by omega)]; exact msc_lo (by omega)
              refine OpE (r' := nI (mcm (mjo (mjo (msc (σ 78) n (net (σ 1) s) ch (nI q) (nI 0)) (130 + (10 * s + k)) ch) (70 + (10 * s + k)) ch) n s ch)) (N' := mjo (mjo (msc (σ 78) n (net (σ 1) s) ch (nI q) (nI 0)) (130 + (10 * s + k)) ch) (70 + (10 * s + k)) ch) hI (fun j c hj hc8 g1 g2 => ⟨_, c_X5_join_new s k ch j c (by omega) hk (by rw [hZ]; exact hs1) hk1 h4 h41 hu0 hm0 hh g1 hj g2 hc8, fun k hk => ?_, n, q, RM_mk hZ ((hlo 0 (by omega)).trans hN) hn1 hn6 hq1 ((hlo 1 (by omega)).trans hq2) hq9 ((hlo 2 (by omega)).trans h8) ((hlo 3 (by omega)).trans h9) ?_⟩) (fun τ u e78 hu hu8 => ?_) (cnt_eq hn6 hs h4 hB').symm (by decide)
              · rw [av_set_ne _ _ (by omega), av_set_ne _ _ (by omega), av_set_ne _ _ (by omega), av_set_ne _ _ (by omega)]
              · show RB n (σ 1) (σ 2) (adM (σ 3) s k ch) (adM (σ 4) s k ch) (ds (σ 5) (net (σ 1) s) ch (σ 0 1)) (ds (σ 6) (net (σ 1) s) ch (nI 0)) _
                rw [hq1]; exact hB'
              · have h := c_X6_join_new (l := l) (σ := τ) s k ch n u (by omega) hk (and_t hs1 hk1) h4 h41 (by rw [e78, eu]; exact hu0) (by rw [e78, em]; exact hm0) (by rw [e78]; exact hz) (by rw [e78]; exact hN) hn1 hn6 hu hu8
                rw [e78, e1, hq2] at h; exact av_M.mono (by decide) h
theorem q_part (hI : Inv σ) (x y z : Int32) : OpS l cX5_part 4 cX6_part 4 [.int x, .int y, .int z] σ := by
  obtain ⟨n, q, ⟨hZ, hN, hn1, hn6⟩, ⟨hq1, hq2, hq9⟩, ⟨h8, h9⟩, hB⟩ := id hI.1
  rcases sv_cases (n := n) (by omega) x with h | ⟨s, hs, rfl⟩
  · exact OpS.mk (c_X5_part_bad x y z (by rw [hZ]; exact and3_f1 h)) (c_X6_part_bad x y z n (and3_f1 h) hN hn1 hn6) rfl hI (by decide) (by decide)
  · have hs1 := sv_nI (n := n) (by omega) hs
    rcases sv_cases (n := 10) (by omega) y with h | ⟨k, hk, rfl⟩
    · exact OpS.mk (c_X5_part_bad _ y z (and3_f2 h)) (c_X6_part_bad _ y z n (and3_f2 h) hN hn1 hn6) rfl hI (by decide) (by decide)
    · have hk1 := sv_nI (n := 10) (by omega) hk
      rcases sv_cases (n := 4) (by omega) z with h | ⟨ch, h4, rfl⟩
      · exact OpS.mk (c_X5_part_bad _ _ z (and3_f3 h)) (c_X6_part_bad _ _ z n (and3_f3 h) hN hn1 hn6) rfl hI (by decide) (by decide)
      · have h41 := sv_nI (n := 4) (by omega) h4
        have em := mem_eq (show s < 6 by omega) hk h4 hB
        cases hm0 : tb (σ 3 (s * 4 + ch)) k with
        | false => exact OpS.mk (c_X5_part_st s k ch (by omega) hk (by rw [hZ]; exact hs1) hk1 h4 h41 hm0) (c_X6_part_st s k ch n (by omega) hk (and_t hs1 hk1) h4 h41 (by rw [em]; exact hm0) hN hn1 hn6) rfl hI (by decide) (by decide)
        | true =>
          have hB' := RB_leave hn6 (show s < 6 by omega) hk h4 hB
          refine OpE (r' := nI (mcm (mle (σ 78) s k ch) n s ch)) (N' := mle (σ 78) s k ch) hI (fun j c hj hc8 g1 g2 => ⟨_, c_X5_part_ok s k ch j c (by omega) hk (by rw [hZ]; exact hs1) hk1 h4 h41 hm0 g1 hj g2 hc8, fun k hk => ?_, n, q, RM_mk hZ ((mle_lo (by omega)).trans hN) hn1 hn6 hq1 ((mle_lo (by omega)).trans hq2) hq9 ((mle_lo (by omega)).trans h8) ((mle_lo (by omega)).trans h9) hB'⟩) (fun τ u e78 hu hu8 => ?_) (cnt_eq hn6 hs h4 hB').symm (by decide)
          · rw [av_set_ne _ _ (by omega), av_set_ne _ _ (by omega)]
          · have h := c_X6_part_ok (l := l) (σ := τ) s k ch n u (by omega) hk (and_t hs1 hk1) h4 h41 (by rw [e78, em]; exact hm0) (by rw [e78]; exact hN) hn1 hn6 hu hu8
            rw [e78] at h; exact av_M.mono (by decide) h
theorem q_kick (hI : Inv σ) (x y z w : Int32) : OpS l cX5_kick 6 cX6_kick 5 [.int x, .int y, .int z, .int w] σ := by
  obtain ⟨n, q, ⟨hZ, hN, hn1, hn6⟩, ⟨hq1, hq2, hq9⟩, ⟨h8, h9⟩, hB⟩ := id hI.1
  obtain ⟨hL, hNL, hU, hJ, hX, hC⟩ := id hB
  rcases sv_cases (n := n) (by omega) x with h | ⟨s, hs, rfl⟩
  · exact OpS.mk (c_X5_kick_bad x y z w (by rw [hZ]; exact and_f1 (and3_f1 h))) (c_X6_kick_bad x y z w n (and_f1 (and3_f1 h)) hN hn1 hn6) rfl hI (by decide) (by decide)
  · have hs1 := sv_nI (n := n) (by omega) hs
    rcases sv_cases (n := 10) (by omega) y with h | ⟨k, hk, rfl⟩
    · exact OpS.mk (c_X5_kick_bad _ y z w (and_f1 (and3_f2 h))) (c_X6_kick_bad _ y z w n (and_f1 (and3_f2 h)) hN hn1 hn6) rfl hI (by decide) (by decide)
    · have hk1 := sv_nI (n := 10) (by omega) hk
      rcases sv_cases (n := 4) (by omega) z with h | ⟨ch, h4, rfl⟩
      · exact OpS.mk (c_X5_kick_bad _ _ z w (and_f1 (and3_f3 h))) (c_X6_kick_bad _ _ z w n (and_f1 (and3_f3 h)) hN hn1 hn6) rfl hI (by decide) (by decide)
      · have h41 := sv_nI (n := 4) (by omega) h4
        rcases sv_cases (n := 10) (by omega) w with h | ⟨g, hg, rfl⟩
        · exact OpS.mk (c_X5_kick_bad _ _ _ w (and_f2 h)) (c_X6_kick_bad _ _ _ w n (and_f2 h) hN hn1 hn6) rfl hI (by decide) (by decide)
        · have hg1 := sv_nI (n := 10) (by omega) hg
          have eo := ope_eq (show s < 6 by omega) hk h4 hB
          cases hp : tb (σ 4 (s * 4 + ch)) k with
          | false => exact OpS.mk (c_X5_kick_st1 s k ch g (by omega) hk (by rw [hZ]; exact hs1) hk1 h4 h41 hg hg1 hp) (c_X6_kick_st1 s k ch g n (by omega) hk (and_t hs1 hk1) h4 h41 hg hg1 (by rw [eo]; exact hp) hN hn1 hn6) rfl hI (by decide) (by decide)
          | true =>
            have e1 : mnet (σ 78) n s = net (σ 1) s := mnet_eq hL hn6 hNL (by omega)
            have e2 : mhm (σ 78) n (net (σ 1) s) g = hm (σ 2) (net (σ 1) s) g := mhm_hm hU hn6 hg (net_uniq hL hn6 hX (by omega) hg)
            have e3 : mni (mj (σ 78) 70 ch) n (mnet (σ 78) n s) = un (σ 3) (net (σ 1) s) ch := by rw [e1, mj_un hJ.1 hJ.2.2.1 hn6 h4 (net_in hL hn6 hs)]
            have hmem : ∀ t, t < 6 → tb (net (σ 1) s) t = true → tb (σ 3 (t * 4 + ch)) g = true → us (σ 2) t g = true := fun t ht _ h => hJ.2.2.2.2.2.2.1 t g ch ht hg h4 h
            cases ho : hm (σ 2) (net (σ 1) s) g with
            | none =>
              refine OpS.mk (c_X5_kick_st2 s k ch g (by omega) hk (by rw [hZ]; exact hs1) hk1 h4 h41 hg hg1 hp ho) (c_X6_kick_st2 s k ch g n (by omega) hk (and_t hs1 hk1) h4 h41 hg hg1 (by rw [eo]; exact hp) ?_ hN hn1 hn6) rfl hI (by decide) (by decide)
              rw [e3]
              cases hb : tb (un (σ 3) (net (σ 1) s) ch) g
              · rfl
              · obtain ⟨t, t1, t2, t3⟩ := tb_un.mp hb
                have := hm_none ho t t1 t2
                rw [hmem t t1 t2 t3] at this; cases this
            | some u =>
              have hus := hm_some ho
              cases hm0 : tb (σ 3 (u * 4 + ch)) g with
              | false =>
                refine OpS.mk (c_X5_kick_st3 s k ch g u (by omega) hk (by rw [hZ]; exact hs1) hk1 h4 h41 hg hg1 hp ho hus.1 hm0) (c_X6_kick_st2 s k ch g n (by omega) hk (and_t hs1 hk1) h4 h41 hg hg1 (by rw [eo]; exact hp) ?_ hN hn1 hn6) rfl hI (by decide) (by decide)
                rw [e3]
                cases hb : tb (un (σ 3) (net (σ 1) s) ch) g
                · rfl
                · obtain ⟨t, t1, t2, t3⟩ := tb_un.mp hb
                  have := net_uniq hL hn6 hX (show s < 6 by omega) hg t u t1 hus.1 t2 hus.2.1 (hmem t t1 t2 t3) hus.2.2
                  rw [this, hm0] at t3; cases t3
              | true =>
                have hB' := RB_leave hn6 hus.1 hg h4 hB
                refine OpE (r' := nI (mcm (mle (σ 78) u g ch) n s ch)) (N' := mle (σ 78) u g ch) hI (fun j c hj hc8 g1 g2 => ⟨_, c_X5_kick_ok s k ch g u j c (by omega) hk (by rw [hZ]; exact hs1) hk1 h4 h41 hg hg1 hp ho hus.1 hm0 g1 hj g2 hc8, fun k hk => ?_, n, q, RM_mk hZ ((mle_lo (by omega)).trans hN) hn1 hn6 hq1 ((mle_lo (by omega)).trans hq2) hq9 ((mle_lo (by omega)).trans h8) ((mle_lo (by omega)).trans h9) hB'⟩) (fun τ v e78 hv hv8 => ?_) ?_ (by decide)
                · rw [av_set_ne _ _ (by omega), av_set_ne _ _ (by omega)]
                · have h := c_X6_kick_ok (l := l) (σ := τ) s k ch g u n v (by omega) hk (and_t hs1 hk1) h4 h41 hg hg1 (by rw [e78, eo]; exact hp) (by rw [e78, e3]; exact tb_un.mpr ⟨u, hus.1, hus.2.1, hm0⟩) (by rw [e78, e1, e2]; exact ho) hus.1 (by rw [e78]; exact hN) hn1 hn6 hv hv8
                  rw [e78] at h; exact av_M.mono (by decide) h
                · rw [← net_eq hL hn6 (by omega) hus.1 hus.2.1]
                  exact (cnt_eq hn6 hs h4 hB').symm
end Edits2
