/-! ===== new channels; the calls that edit ===== -/
theorem ds_at {C : Nat → Int32} {S v : Int32} {ch t c : Nat} (h1 : ch < 4) (h2 : c < 4) (ht : t < 6) : ds C S ch v (t * 4 + c) = if c = ch ∧ tb S t = true then v else C (t * 4 + c) := by
  have key : ∀ m, m ≤ 6 → fo m (fun s C => dsF S ch v s C) C (t * 4 + c) = if t < m ∧ c = ch ∧ tb S t = true then v else C (t * 4 + c) := by
    intro m
    induction m with
    | zero => intro _; rw [if_neg (by omega)]; rfl
    | succ m ih =>
      intro hm
      rw [fo_s]
      unfold dsF at ih ⊢
      cases hb : tb S m
      · rw [cond_false, ih (by omega)]
        by_cases e : t < m ∧ c = ch ∧ tb S t = true
        · rw [if_pos e, if_pos ⟨by omega, e.2⟩]
        · rw [if_neg e, if_neg (fun q => e ⟨by
            by_cases e2 : t = m
            · rw [e2, hb] at q; cases q.2.2
            · omega, q.2⟩)]
      · rw [cond_true]
        by_cases e : t = m ∧ c = ch
        · rw [e.1, e.2, upd_eq, if_pos ⟨by omega, rfl, hb⟩]
        · rw [upd_ne (by omega), ih (by omega)]
          by_cases e2 : t < m ∧ c = ch ∧ tb S t = true
          · rw [if_pos e2, if_pos ⟨by omega, e2.2⟩]
          · rw [if_neg e2, if_neg (fun q => e2 ⟨by omega, q.2⟩)]
  unfold ds
  rw [key 6 (Nat.le_refl _)]
  by_cases e : c = ch ∧ tb S t = true
  · rw [if_pos e, if_pos ⟨ht, e⟩]
  · rw [if_neg e, if_neg (fun q => e q.2)]
theorem msc_at {N : Nat → Int32} {n : Nat} {S v w : Int32} {ch t c : Nat} (hn : n ≤ 6) (h1 : ch < 4) (h2 : c < 4) (ht : t < 6) : msc N n S ch v w (190 + 4 * t + c) = (if t < n ∧ c = ch ∧ tb S t = true then v else N (190 + 4 * t + c)) ∧ msc N n S ch v w (214 + 4 * t + c) = (if t < n ∧ c = ch ∧ tb S t = true then w else N (214 + 4 * t + c)) := by
  have key : ∀ m, m ≤ 6 → fo m (fun s N => mscF S ch v w s N) N (190 + 4 * t + c) = (if t < m ∧ c = ch ∧ tb S t = true then v else N (190 + 4 * t + c)) ∧ fo m (fun s N => mscF S ch v w s N) N (214 + 4 * t + c) = (if t < m ∧ c = ch ∧ tb S t = true then w else N (214 + 4 * t + c)) := by
    intro m
    induction m with
    | zero => intro _; rw [if_neg (by omega), if_neg (by omega)]; exact ⟨rfl, rfl⟩
    | succ m ih =>
      intro hm
      rw [fo_s]
      obtain ⟨i1, i2⟩ := ih (by omega)
      cases hb : tb S m
      · rw [mscF_f hb, i1, i2]
        by_cases e : t < m ∧ c = ch ∧ tb S t = true
        · rw [if_pos e, if_pos e, if_pos ⟨by omega, e.2⟩, if_pos ⟨by omega, e.2⟩]; exact ⟨rfl, rfl⟩
        · have e3 : ¬ (t < m + 1 ∧ c = ch ∧ tb S t = true) := fun q => e ⟨by
            by_cases e2 : t = m
            · rw [e2, hb] at q; cases q.2.2
            · omega, q.2⟩
          rw [if_neg e, if_neg e, if_neg e3, if_neg e3]; exact ⟨rfl, rfl⟩
      · rw [mscF_t hb]
        by_cases e : t = m ∧ c = ch
        · rw [e.1, e.2, upd_eq, upd_ne (by omega), upd_eq, if_pos ⟨by omega, rfl, hb⟩, if_pos ⟨by omega, rfl, hb⟩]; exact ⟨rfl, rfl⟩
        · rw [upd_ne (by omega), upd_ne (by omega), upd_ne (by omega), upd_ne (by omega), i1, i2]
          by_cases e2 : t < m ∧ c = ch ∧ tb S t = true
          · rw [if_pos e2, if_pos e2, if_pos ⟨by omega, e2.2⟩, if_pos ⟨by omega, e2.2⟩]; exact ⟨rfl, rfl⟩
          · have e3 : ¬ (t < m + 1 ∧ c = ch ∧ tb S t = true) := fun q => e2 ⟨by omega, q.2⟩
            rw [if_neg e2, if_neg e2, if_neg e3, if_neg e3]; exact ⟨rfl, rfl⟩
  exact key n hn
theorem RB_joinNew {n s k ch z : Nat} {L U M O C D N : Nat → Int32} (hn : n ≤ 6) (hs : s < n) (hk : k < 10) (h4 : ch < 4) (hu : us U s k = true) (h : RB n L U M O C D N) : RB n L U (adM M s k ch) (adM O s k ch) (ds C (net L s) ch (nI z)) (ds D (net L s) ch (nI 0)) (mjo (mjo (msc N n (net L s) ch (nI z) (nI 0)) (130 + (10 * s + k)) ch) (70 + (10 * s + k)) ch) := by
  obtain ⟨hL, hNL, hU, ⟨j1, j2, j3, j4, j5, j6, j7, j8⟩, hX, hC⟩ := h
  have e : ∀ i, i < 70 → mjo (mjo (msc N n (net L s) ch (nI z) (nI 0)) (130 + (10 * s + k)) ch) (70 + (10 * s + k)) ch i = N i := fun i hi => by
    unfold mjo; rw [upd_ne (by omega), upd_ne (by omega)]; exact msc_lo (by omega)
  have e2 : ∀ i, 190 ≤ i → mjo (mjo (msc N n (net L s) ch (nI z) (nI 0)) (130 + (10 * s + k)) ch) (70 + (10 * s + k)) ch i = msc N n (net L s) ch (nI z) (nI 0) i := fun i hi => by
    unfold mjo; rw [upd_ne (by omega), upd_ne (by omega)]
  refine ⟨hL, okN_congr hNL (fun i _ h => e i (by omega)), okU_hi hU (fun i _ h => e i h), ⟨?_, ?_, loM_adM h4 hk j3, loM_adM h4 hk j4, loJ_ad h4 (loJ_ad h4 (loJ_congr j5 (fun i h1 h2 => msc_lo (by omega)))), loJ_ad h4 (loJ_ad h4 (loJ_congr j6 (fun i h1 h2 => msc_lo (by omega)))), fun s' k' c hs' hk' hc h => ?_, fun s' k' c hs' hk' hc h => ?_⟩, hX, fun s' c hs' h5 h => ?_⟩
  · refine okM_ad (by omega) hk h4 (okM_congr j1 (fun i h1 h2 => ?_))
    rw [mjo, upd_ne (by omega)]; exact msc_lo (by omega)
  · refine okM_congr (okM_ad (N := msc N n (net L s) ch (nI z) (nI 0)) (by omega) hk h4 (okM_congr j2 (fun i h1 h2 => msc_lo (by omega)))) (fun i h1 h2 => ?_)
    rw [mjo, upd_ne (by omega)]
  · rw [tb_adM h4 hc hk (by omega)] at h
    split at h
    · rename_i e; rw [e.1, e.2.2]; exact hu
    · exact j7 s' k' c hs' hk' hc h
  · rw [tb_adM h4 hc hk (by omega)] at h ⊢
    split
    · rfl
    · rename_i e; rw [if_neg e] at h; exact j8 s' k' c hs' hk' hc h
  · obtain ⟨m1, m2⟩ := msc_at (N := N) (n := n) (S := net L s) (v := nI z) (w := nI 0) (ch := ch) (t := s') (c := c) hn h4 h5 (by omega)
    rw [e2 _ (by omega), e2 _ (by omega), m1, m2, ds_at h4 h5 (by omega), ds_at h4 h5 (by omega)]
    by_cases g : c = ch ∧ tb (net L s) s' = true
    · rw [if_pos g, if_pos g, if_pos ⟨hs', g⟩, if_pos ⟨hs', g⟩]
      refine ⟨rfl, rfl, lo_0, fun t ht q3 => ?_⟩
      have q4 := net_trans hL hn (by omega) (show s' < 6 by omega) g.2 q3
      rw [ds_at h4 h5 ht, ds_at h4 h5 ht, if_pos ⟨g.1, q4⟩, if_pos ⟨g.1, q4⟩]; exact ⟨rfl, rfl⟩
    · rw [if_neg g, if_neg g, if_neg (fun q => g q.2), if_neg (fun q => g q.2)]
      have hh : hc L M s' c = true := by
        obtain ⟨t, i, q1, q2, q3, q4⟩ := (hc_true (n := n) (loM_adM h4 hk j3) h5).mp h
        rw [tb_adM h4 h5 hk (by omega)] at q4
        by_cases g2 : t = s ∧ c = ch ∧ i = k
        · rw [g2.1] at q3
          exact absurd ⟨g2.2.1, net_sym hL hn (by omega) q3⟩ g
        · rw [if_neg g2] at q4
          exact (hc_true (n := n) j3 h5).mpr ⟨t, i, q1, q2, q3, q4⟩
      obtain ⟨c1, c2, c3, c4⟩ := hC s' c hs' h5 hh
      refine ⟨c1, c2, c3, fun t ht q3 => ?_⟩
      have g3 : ¬ (c = ch ∧ tb (net L s) t = true) := fun q => g ⟨q.1, net_trans hL hn (by omega) ht q.2 (net_sym hL hn (by omega) q3)⟩
      rw [ds_at h4 h5 ht, ds_at h4 h5 ht, if_neg g3, if_neg g3]; exact c4 t ht q3
theorem cb4 {x : Int32} (h : lo 4 x) : cb 10 x = cb 4 x := by
  rw [cb_sm, cb_sm]
  exact sm_ext (by omega) (fun k h1 _ => by rw [h k h1]; rfl)
theorem cc4_cb {M N : Nat → Int32} {s k : Nat} (h : okM M N 70) (hl : loJ N 70) (hs : s < 6) (hk : k < 10) : cb 10 (N (70 + (10 * s + k))) = cc4 M s k := by
  rw [cb4 (hl s k hs hk), cb_sm]
  unfold cc4
  have : (fun (ch : Nat) (c : Nat) => bif tb (M (s * 4 + ch)) k then c + 1 else c) = fun ch c => c + bN (tb (M (s * 4 + ch)) k) := by
    funext ch c; cases tb (M (s * 4 + ch)) k <;> rfl
  rw [this, fo_sm, Nat.zero_add]
  exact sm_congr (fun c hc => by rw [h s k c hs hk hc])
/-- a channel's number of members behind an edit: both count the same -/
theorem cnt_eq {n s ch : Nat} {L U M O C D N : Nat → Int32} (hn : n ≤ 6) (hs : s < n) (h4 : ch < 4) (h : RB n L U M O C D N) : jbc (un M (net L s) ch) = nI (mcm N n s ch) := by
  obtain ⟨hL, hNL, -, ⟨j1, -, j3, -⟩, -⟩ := h
  rw [hc_mcm hL hn hNL j1 j3 hs h4, jbc_lo (lo_un j3 h4)]
theorem mem_eq {n s k ch : Nat} {L U M O C D N : Nat → Int32} (hs : s < 6) (hk : k < 10) (h4 : ch < 4) (h : RB n L U M O C D N) : (mus N s k && mj N 70 ch s k) = tb (M (s * 4 + ch)) k := by
  obtain ⟨hL, hNL, hU, ⟨j1, j2, j3, j4, j5, j6, j7, j8⟩, -⟩ := h
  unfold mj
  rw [us_mus hU hs hk, ← j1 s k ch hs hk h4]
  cases e : tb (M (s * 4 + ch)) k
  · rw [Bool.and_false]
  · rw [j7 s k ch hs hk h4 e]; rfl
theorem ope_eq {n s k ch : Nat} {L U M O C D N : Nat → Int32} (hs : s < 6) (hk : k < 10) (h4 : ch < 4) (h : RB n L U M O C D N) : (mus N s k && mj N 130 ch s k) = tb (O (s * 4 + ch)) k := by
  obtain ⟨hL, hNL, hU, ⟨j1, j2, j3, j4, j5, j6, j7, j8⟩, -⟩ := h
  unfold mj
  rw [us_mus hU hs hk, ← j2 s k ch hs hk h4]
  cases e : tb (O (s * 4 + ch)) k
  · rw [Bool.and_false]
  · rw [j7 s k ch hs hk h4 (j8 s k ch hs hk h4 e)]; rfl
section Edits
variable {l : Launch} {σ : av_S}
theorem q_createServers (hI : Inv σ) (x : Int32) : OpS l cX5_createServers 3 cX6_createServers 4 [.int x] σ := by
  obtain ⟨n, q, hh, hq, hc, hB⟩ := id hI.1
  by_cases hx : ¬ x < nI 1 ∧ x ≤ nI 6
  · have h0 : ¬ x < 0 := fun h => hx.1 (Int32.lt_trans h (by decide))
    obtain ⟨a, ha, rfl⟩ := nI_of h0
    have h1 : 1 ≤ a := by have : ¬ a < 1 := fun h => hx.1 ((nI_ltI ha (by omega)).mpr h); omega
    have h6 : a ≤ 6 := (nI_leI ha (by omega)).mp hx.2
    refine OpE (r' := nI (mcu (σ 78))) (N' := mrs (σ 78) (nI a)) hI (fun j c hj hc g1 g2 => ⟨_, c_X5_createServers_ok a j c h1 h6 g1 hj g2 hc, fun k hk => ?_, a, 0, RM_mk rfl (by rw [mrs_at (by omega), if_pos rfl]) h1 h6 rfl (by rw [mrs_at (by omega)]; rfl) (by omega) (by rw [mrs_at (by omega)]; rfl) (by rw [mrs_at (by omega)]; rfl) (RB_new (fun i hi => ?_) (fun i hi => ?_) (fun i hi => ?_) (fun i hi => ?_) (fun i h4 hi => ?_))⟩) (fun τ u e78 hu hu8 => ?_) ?_ (by decide)
    · rw [av_set_ne _ _ (by omega), av_set_ne _ _ (by omega), av_set_ne _ _ (by omega), av_set_ne _ _ (by omega), av_set_ne _ _ (by omega)]
    · exact fl_at.trans (if_pos hi)
    · exact fl_at.trans (if_pos hi)
    · exact fl_at.trans (if_pos hi)
    · exact fl_at.trans (if_pos hi)
    · rw [mrs_at (by omega), if_neg (by omega)]
    · have h := c_X6_createServers_ok (l := l) (σ := τ) (nI a) u (by rw [inb_iff]; exact decide_eq_true hx) hu hu8
      rw [e78] at h; exact av_M.mono (by decide) h
    · rw [mcu_cu hB.2.2.1]
  · exact OpS.mk (c_X5_createServers_bad x hx) (c_X6_createServers_bad x (by rw [inb_iff]; exact decide_eq_false hx)) rfl hI (by decide) (by decide)
theorem q_disconnect (hI : Inv σ) (x y : Int32) : OpS l cX5_disconnect 3 cX6_disconnect 3 [.int x, .int y] σ := by
  obtain ⟨n, q, ⟨hZ, hN, hn1, hn6⟩, ⟨hq1, hq2, hq9⟩, ⟨h8, h9⟩, hB⟩ := id hI.1
  obtain ⟨hL, hNL, -⟩ := id hB
  rcases sv_cases (n := n) (by omega) x with h | ⟨a, ha, rfl⟩
  · exact OpS.mk (c_X5_disconnect_bad x y (by rw [hZ]; exact and_f1 h)) (c_X6_disconnect_bad x y n (and_f1 h) hN hn1 hn6) rfl hI (by decide) (by decide)
  · have ha1 := sv_nI (n := n) (by omega) ha
    rcases sv_cases (n := n) (by omega) y with h | ⟨b, hb, rfl⟩
    · exact OpS.mk (c_X5_disconnect_bad _ y (by rw [hZ]; exact and_f2 h)) (c_X6_disconnect_bad _ y n (and_f2 h) hN hn1 hn6) rfl hI (by decide) (by decide)
    · have hb1 := sv_nI (n := n) (by omega) hb
      by_cases hab : a = b
      · subst hab
        exact OpS.mk (c_X5_disconnect_same _) (c_X6_disconnect_same _ n hN hn1 hn6) rfl hI (by decide) (by decide)
      · have e1 : σ 78 (4 + a) = σ 1 a := hNL a (by omega)
        cases hc : tb (σ 1 a) b with
        | false => exact OpS.mk (c_X5_disconnect_st a b (by omega) (by omega) (by rw [hZ]; exact and_t ha1 hb1) hab hc) (c_X6_disconnect_st a b n (by omega) (by omega) (and_t ha1 hb1) hab (by rw [e1]; exact hc) hN hn1 hn6) rfl hI (by decide) (by decide)
        | true =>
          have hB' := RB_unlink hn6 ha hb hB
          refine OpE (r' := nI (cb 10 (mnet (mlk (σ 78) a b false) n a))) (N' := mlk (σ 78) a b false) hI (fun j c hj hc8 g1 g2 => ⟨_, c_X5_disconnect_ok a b j c (by omega) (by omega) (by rw [hZ]; exact and_t ha1 hb1) hab hc g1 hj g2 hc8, fun k hk => av_set_ne _ _ (by omega), n, q, RM_mk hZ ((mlk_0 (by omega)).trans hN) hn1 hn6 hq1 ((mlk_0 (by omega)).trans hq2) hq9 ((mlk_0 (by omega)).trans h8) ((mlk_0 (by omega)).trans h9) hB'⟩) (fun τ u e78 hu hu8 => ?_) ?_ (by decide)
          · have h := c_X6_disconnect_ok (l := l) (σ := τ) a b n u (by omega) (by omega) (and_t ha1 hb1) hab (by rw [e78, e1]; exact hc) (by rw [e78]; exact hN) hn1 hn6 hu hu8
            rw [e78] at h; exact av_M.mono (by decide) h
          · rw [mnet_eq hB'.1 hn6 hB'.2.1 (by omega), jbc_lo (lo_mono (by decide) (net_lo hB'.1 hn6 (by omega)))]
theorem q_advance (hI : Inv σ) (x : Int32) : OpS l cX5_advance 2 cX6_advance 2 [.int x] σ := by
  obtain ⟨n, q, ⟨hZ, hN, hn1, hn6⟩, ⟨hq1, hq2, hq9⟩, ⟨h8, h9⟩, hB⟩ := id hI.1
  by_cases hx : ¬ x < nI 1 ∧ x ≤ nI 999
  · have h0 : ¬ x < 0 := fun h => hx.1 (Int32.lt_trans h (by decide))
    have hin : inb x (nI 1) (nI 999) = true := by rw [inb_iff]; exact decide_eq_true hx
    obtain ⟨a, ha, rfl⟩ := nI_of h0
    have h1 : 1 ≤ a := by have : ¬ a < 1 := fun h => hx.1 ((nI_ltI ha (by omega)).mpr h); omega
    have h6 : a ≤ 999 := (nI_leI ha (by omega)).mp hx.2
    by_cases hl : 9999 < q + a
    · exact OpS.mk (c_X5_advance_lim a q h1 h6 hq1 hq9 hl) (c_X6_advance_lim a q hin h6 hq2 hq9 hl) rfl hI (by decide) (by decide)
    · refine OpE (r' := nI (q + a)) (N' := upd (σ 78) 1 (nI (q + a))) hI (fun j c hj hc8 g1 g2 => ⟨_, c_X5_advance_ok a q j c h1 h6 hq1 hq9 (by omega) g1 hj g2 hc8, fun k hk => av_set_ne _ _ (by omega), n, q + a, RM_mk hZ hN hn1 hn6 rfl rfl (by omega) h8 h9 (RB_congr hn6 (fun _ _ => rfl) (fun _ _ => rfl) (fun _ _ => rfl) (fun _ _ => rfl) (fun _ _ => rfl) (fun _ _ => rfl) (fun i hi _ => upd_ne (by omega)) hB)⟩) (fun τ u e78 hu hu8 => ?_) rfl (by decide)
      have h := c_X6_advance_ok (l := l) (σ := τ) a q u hin h6 (by rw [e78]; exact hq2) hq9 (by omega) hu hu8
      rw [e78] at h; exact av_M.mono (by decide) h
  · exact OpS.mk (c_X5_advance_bad x hx) (c_X6_advance_bad x (by rw [inb_iff]; exact decide_eq_false hx)) rfl hI (by decide) (by decide)
theorem q_signOn (hI : Inv σ) (x y : Int32) : OpS l cX5_signOn 4 cX6_signOn 4 [.int x, .int y] σ := by
  obtain ⟨n, q, ⟨hZ, hN, hn1, hn6⟩, ⟨hq1, hq2, hq9⟩, ⟨h8, h9⟩, hB⟩ := id hI.1
  obtain ⟨hL, hNL, hU, hJ, hX, hC⟩ := id hB
  rcases sv_cases (n := n) (by omega) x with h | ⟨s, hs, rfl⟩
  · exact OpS.mk (c_X5_signOn_bad x y (by rw [hZ]; exact and_f1 h)) (c_X6_signOn_bad x y n (and_f1 h) hN hn1 hn6) rfl hI (by decide) (by decide)
  · have hs1 := sv_nI (n := n) (by omega) hs
    rcases sv_cases (n := 10) (by omega) y with h | ⟨k, hk, rfl⟩
    · exact OpS.mk (c_X5_signOn_bad _ y (and_f2 h)) (c_X6_signOn_bad _ y n (and_f2 h) hN hn1 hn6) rfl hI (by decide) (by decide)
    · have hk1 := sv_nI (n := 10) (by omega) hk
      have e1 : mnet (σ 78) n s = net (σ 1) s := mnet_eq hL hn6 hNL (by omega)
      have e2 : mhm (σ 78) n (net (σ 1) s) k = hm (σ 2) (net (σ 1) s) k := mhm_hm hU hn6 hk (net_uniq hL hn6 hX (by omega) hk)
      cases ho : hm (σ 2) (net (σ 1) s) k with
      | some u => exact OpS.mk (c_X5_signOn_st s k u (by omega) hk (by rw [hZ]; exact hs1) hk1 ho (hm_some ho).1) (c_X6_signOn_st s k u n (by omega) hk (and_t hs1 hk1) (by rw [e1, e2]; exact ho) (hm_some ho).1 hN hn1 hn6) rfl hI (by decide) (by decide)
      | none =>
        have hB' := RB_signOn hn6 hs hk hq9 ho hB
        refine OpE (r' := nI (cb 10 (mni (mus (upd (σ 78) (10 + (10 * s + k)) (σ 78 1))) n (mnet (σ 78) n s)))) (N' := upd (σ 78) (10 + (10 * s + k)) (σ 78 1)) hI (fun j c hj hc8 g1 g2 => ⟨_, c_X5_signOn_ok s k j c (by omega) hk (by rw [hZ]; exact hs1) hk1 ho g1 hj g2 hc8, fun k hk => av_set_ne _ _ (by omega), n, q, RM_mk hZ ((upd_ne (by omega)).trans hN) hn1 hn6 hq1 ((upd_ne (by omega)).trans hq2) hq9 ((upd_ne (by omega)).trans h8) ((upd_ne (by omega)).trans h9) ?_⟩) (fun τ u e78 hu hu8 => ?_) ?_ (by decide)
        · show RB n (σ 1) (upd (σ 2) (s * 10 + k) (σ 0 1)) (σ 3) (σ 4) (σ 5) (σ 6) _
          rw [hq1, hq2]; exact hB'
        · have h := c_X6_signOn_ok (l := l) (σ := τ) s k n u (by omega) hk (and_t hs1 hk1) (by rw [e78, e1, e2]; exact ho) (by rw [e78]; exact hN) hn1 hn6 hu hu8
          rw [e78] at h; exact av_M.mono (by decide) h
        · rw [e1, hq1, hq2, mus_nk hB'.2.2.1 hn6 (net_in hL hn6 hs), cu_cb (fun k hk => net_uniq hL hn6 hB'.2.2.2.2.1 (by omega) hk)]
theorem q_signOff (hI : Inv σ) (x y : Int32) : OpS l cX5_signOff 4 cX6_signOff 4 [.int x, .int y] σ := by
  obtain ⟨n, q, ⟨hZ, hN, hn1, hn6⟩, ⟨hq1, hq2, hq9⟩, ⟨h8, h9⟩, hB⟩ := id hI.1
  obtain ⟨hL, hNL, hU, hJ, hX, hC⟩ := id hB
  rcases sv_cases (n := n) (by omega) x with h | ⟨s, hs, rfl⟩
  · exact OpS.mk (c_X5_signOff_bad x y (by rw [hZ]; exact and_f1 h)) (c_X6_signOff_bad x y n (and_f1 h) hN hn1 hn6) rfl hI (by decide) (by decide)
  · have hs1 := sv_nI (n := n) (by omega) hs
    rcases sv_cases (n := 10) (by omega) y with h | ⟨k, hk, rfl⟩
    · exact OpS.mk (c_X5_signOff_bad _ y (and_f2 h)) (c_X6_signOff_bad _ y n (and_f2 h) hN hn1 hn6) rfl hI (by decide) (by decide)
    · have hk1 := sv_nI (n := 10) (by omega) hk
      have eu := us_mus hU (show s < 6 by omega) hk
      cases hu0 : us (σ 2) s k with
      | false => exact OpS.mk (c_X5_signOff_st s k (by omega) hk (by rw [hZ]; exact hs1) hk1 hu0) (c_X6_signOff_st s k n (by omega) hk (and_t hs1 hk1) (by rw [eu]; exact hu0) hN hn1 hn6) rfl hI (by decide) (by decide)
      | true =>
        have hB' := RB_signOff hn6 (show s < 6 by omega) hk hB
        refine OpE (r' := nI (cb 10 (σ 78 (70 + (10 * s + k))))) (N' := mrm (σ 78) s k) hI (fun j c hj hc8 g1 g2 => ⟨_, c_X5_signOff_ok s k j c (by omega) hk (by rw [hZ]; exact hs1) hk1 hu0 g1 hj g2 hc8, fun k hk => ?_, n, q, RM_mk hZ ((mrm_lo (by omega)).trans hN) hn1 hn6 hq1 ((mrm_lo (by omega)).trans hq2) hq9 ((mrm_lo (by omega)).trans h8) ((mrm_lo (by omega)).trans h9) hB'⟩) (fun τ u e78 hu hu8 => ?_) ?_ (by decide)
        · rw [av_set_ne _ _ (by omega), av_set_ne _ _ (by omega), av_set_ne _ _ (by omega)]
        · have h := c_X6_signOff_ok (l := l) (σ := τ) s k n u (by omega) hk (and_t hs1 hk1) (by rw [e78, eu]; exact hu0) (by rw [e78]; exact hN) hn1 hn6 hu hu8
          rw [e78] at h; exact av_M.mono (by decide) h
        · rw [cc4_cb hJ.1 hJ.2.2.2.2.1 (by omega) hk]
end Edits
