/-! ===== the invariant between calls; the calls that only look ===== -/
def rwI (j i : Nat) : Nat := (j + 7 - i) % 8
def RCur (σ : av_S) : Prop := ∃ n q, RM n q (σ 0) (σ 1) (σ 2) (σ 3) (σ 4) (σ 5) (σ 6) (σ 78)
def RHi (σ : av_S) (j c i : Nat) : Prop := ∃ n q, RM n q (σ (7 * (rwI j i + 1))) (σ (7 * (rwI j i + 1) + 1)) (σ (7 * (rwI j i + 1) + 2)) (σ (7 * (rwI j i + 1) + 3)) (σ (7 * (rwI j i + 1) + 4)) (σ (7 * (rwI j i + 1) + 5)) (σ (7 * (rwI j i + 1) + 6)) (fun x => σ 79 (238 * (c - 1 - i) + x))
def RH (σ : av_S) : Prop := ∃ j c, j < 8 ∧ c ≤ 8 ∧ σ 64 1 = nI j ∧ σ 64 2 = nI c ∧ σ 77 2 = nI c ∧ ∀ i, i < c → RHi σ j c i
def RT (σ : av_S) : Prop := ∃ (n : Nat) (t : Nat → Nat), n ≤ 40 ∧ σ 66 1 = nI n ∧ σ 77 4 = nI n ∧ ∀ i, i < n → t i < 256 ∧ σ 67 i = nI (t i) ∧ σ 80 i = nI (t i)
def Inv (σ : av_S) : Prop := RCur σ ∧ RH σ ∧ RT σ
/-- class and reference answer alike, and the invariant holds behind -/
def OpS (l : Launch) (cx : ByteArray) (nx : Nat) (cm : ByteArray) (nm : Nat) (vs : List Value) (σ : av_S) : Prop := ∃ (r : Int32) (σ1 σ2 : av_S), av_M l RX5 cx nx (some .int) 40 (.ref 63 :: vs) σ (some (.int r)) σ1 ∧ av_M l RX6 cm nm (some .int) 40 (.ref 77 :: vs) σ1 (some (.int r)) σ2 ∧ Inv σ2
theorem OpS.mk {l : Launch} {cx : ByteArray} {nx : Nat} {cm : ByteArray} {nm : Nat} {vs : List Value} {σ σ1 σ2 : av_S} {r r' : Int32} {d d' : Nat} (h1 : av_M l RX5 cx nx (some .int) d (.ref 63 :: vs) σ (some (.int r)) σ1) (h2 : av_M l RX6 cm nm (some .int) d' (.ref 77 :: vs) σ1 (some (.int r')) σ2) (hr : r' = r) (hI : Inv σ2) (hd : d ≤ 40) (hd' : d' ≤ 40) : OpS l cx nx cm nm vs σ :=
  ⟨r, σ1, σ2, av_M.mono hd h1, by rw [← hr]; exact av_M.mono hd' h2, hI⟩
theorem sv_nI {n a : Nat} (hn : n < 2 ^ 31) (h : a < n) : sv (nI n) (nI a) = true := by
  unfold sv
  apply decide_eq_true
  exact ⟨nI_pos (by omega), nI_ge h hn⟩
theorem sv_cases {n : Nat} (hn : n < 2 ^ 31) (x : Int32) : sv (nI n) x = false ∨ ∃ a, a < n ∧ x = nI a := by
  cases h : sv (nI n) x
  · exact Or.inl rfl
  · right
    have := of_decide_eq_true h
    obtain ⟨j, hj, rfl⟩ := nI_of this.1
    exact ⟨j, Nat.not_le.mp (fun q => this.2 (nI_le q hj)), rfl⟩
theorem and_f1 {p q : Bool} (h : p = false) : (p && q) = false := by rw [h]; rfl
theorem and_f2 {p q : Bool} (h : q = false) : (p && q) = false := by rw [h]; cases p <;> rfl
theorem and_t {p q : Bool} (h1 : p = true) (h2 : q = true) : (p && q) = true := by rw [h1, h2]; rfl
section Looks
variable {l : Launch} {σ : av_S}
theorem q_time (hI : Inv σ) : OpS l cX5_time 1 cX6_time 1 [] σ := by
  obtain ⟨n, q, hR⟩ := id hI.1
  exact OpS.mk c_X5_time c_X6_time (by rw [hR.2.1.1, hR.2.1.2.1]) hI (by decide) (by decide)
theorem q_lastDeprived (hI : Inv σ) : OpS l cX5_lastDeprived 1 cX6_lastDeprived 1 [] σ := by
  obtain ⟨n, q, hR⟩ := id hI.1
  exact OpS.mk c_X5_lastDeprived c_X6_lastDeprived hR.2.2.1.1 hI (by decide) (by decide)
theorem q_lastDropped (hI : Inv σ) : OpS l cX5_lastDropped 1 cX6_lastDropped 1 [] σ := by
  obtain ⟨n, q, hR⟩ := id hI.1
  exact OpS.mk c_X5_lastDropped c_X6_lastDropped hR.2.2.1.2 hI (by decide) (by decide)
theorem q_homeServer (hI : Inv σ) (x y : Int32) : OpS l cX5_homeServer 4 cX6_homeServer 3 [.int x, .int y] σ := by
  obtain ⟨n, q, ⟨hZ, hN, hn1, hn6⟩, -, -, hL, hNL, hU, -, hX, -⟩ := id hI.1
  rcases sv_cases (n := n) (by omega) x with h | ⟨s, hs, rfl⟩
  · exact OpS.mk (c_X5_homeServer_bad x y (by rw [hZ]; exact and_f1 h)) (c_X6_homeServer_bad x y n (and_f1 h) hN hn1 hn6) rfl hI (by decide) (by decide)
  · have hs1 := sv_nI (n := n) (by omega) hs
    rcases sv_cases (n := 10) (by omega) y with h | ⟨k, hk, rfl⟩
    · exact OpS.mk (c_X5_homeServer_bad _ y (and_f2 h)) (c_X6_homeServer_bad _ y n (and_f2 h) hN hn1 hn6) rfl hI (by decide) (by decide)
    · have hk1 := sv_nI (n := 10) (by omega) hk
      have e1 : mnet (σ 78) n s = net (σ 1) s := mnet_eq hL hn6 hNL (by omega)
      have e2 : mhm (σ 78) n (net (σ 1) s) k = hm (σ 2) (net (σ 1) s) k := mhm_hm hU hn6 hk (net_uniq hL hn6 hX (by omega) hk)
      cases ho : hm (σ 2) (net (σ 1) s) k with
      | none => exact OpS.mk (c_X5_homeServer_no s k (by omega) hk (by rw [hZ]; exact hs1) hk1 ho) (c_X6_homeServer_no s k n (by omega) hk (and_t hs1 hk1) (by rw [e1, e2]; exact ho) hN hn1 hn6) rfl hI (by decide) (by decide)
      | some u => exact OpS.mk (c_X5_homeServer_ok s k u (by omega) hk (by rw [hZ]; exact hs1) hk1 ho (hm_some ho).1) (c_X6_homeServer_ok s k u n (by omega) hk (and_t hs1 hk1) (by rw [e1, e2]; exact ho) (hm_some ho).1 hN hn1 hn6) rfl hI (by decide) (by decide)
theorem q_userTimestamp (hI : Inv σ) (x y : Int32) : OpS l cX5_userTimestamp 4 cX6_userTimestamp 4 [.int x, .int y] σ := by
  obtain ⟨n, q, ⟨hZ, hN, hn1, hn6⟩, -, -, hL, hNL, hU, -, hX, -⟩ := id hI.1
  rcases sv_cases (n := n) (by omega) x with h | ⟨s, hs, rfl⟩
  · exact OpS.mk (c_X5_userTimestamp_bad x y (by rw [hZ]; exact and_f1 h)) (c_X6_userTimestamp_bad x y n (and_f1 h) hN hn1 hn6) rfl hI (by decide) (by decide)
  · have hs1 := sv_nI (n := n) (by omega) hs
    rcases sv_cases (n := 10) (by omega) y with h | ⟨k, hk, rfl⟩
    · exact OpS.mk (c_X5_userTimestamp_bad _ y (and_f2 h)) (c_X6_userTimestamp_bad _ y n (and_f2 h) hN hn1 hn6) rfl hI (by decide) (by decide)
    · have hk1 := sv_nI (n := 10) (by omega) hk
      have e1 : mnet (σ 78) n s = net (σ 1) s := mnet_eq hL hn6 hNL (by omega)
      have e2 : mhm (σ 78) n (net (σ 1) s) k = hm (σ 2) (net (σ 1) s) k := mhm_hm hU hn6 hk (net_uniq hL hn6 hX (by omega) hk)
      have hx := c_X5_userTimestamp_ok (l := l) (σ := σ) s k (by omega) hk (by rw [hZ]; exact hs1) hk1
      cases ho : hm (σ 2) (net (σ 1) s) k with
      | none =>
        have et : tn (σ 2) (net (σ 1) s) k = -1 := by unfold tn; rw [ho]
        rw [et] at hx
        exact OpS.mk hx (c_X6_userTimestamp_no s k n (by omega) hk (and_t hs1 hk1) (by rw [e1, e2]; exact ho) hN hn1 hn6) rfl hI (by decide) (by decide)
      | some u =>
        have hu := hm_some ho
        obtain ⟨-, t, ht, h1, h2⟩ := us_lt hU hu.1 hk hu.2.2
        have et : tn (σ 2) (net (σ 1) s) k = nI t := by unfold tn; rw [ho]; exact h1
        rw [et, if_neg (nI_neg (by omega) (by decide))] at hx
        exact OpS.mk hx (c_X6_userTimestamp_ok s k u n (by omega) hk (and_t hs1 hk1) (by rw [e1, e2]; exact ho) hu.1 hN hn1 hn6) h2 hI (by decide) (by decide)
theorem q_visibleUsers (hI : Inv σ) (x : Int32) : OpS l cX5_visibleUsers 2 cX6_visibleUsers 2 [.int x] σ := by
  obtain ⟨n, q, ⟨hZ, hN, hn1, hn6⟩, -, -, hL, hNL, hU, -, hX, -⟩ := id hI.1
  rcases sv_cases (n := n) (by omega) x with h | ⟨s, hs, rfl⟩
  · exact OpS.mk (c_X5_visibleUsers_bad x (by rw [hZ]; exact h)) (c_X6_visibleUsers_bad x n h hN hn1 hn6) rfl hI (by decide) (by decide)
  · have hs1 := sv_nI (n := n) (by omega) hs
    exact OpS.mk (c_X5_visibleUsers_ok s (by omega) (by rw [hZ]; exact hs1)) (c_X6_visibleUsers_ok s n (by omega) hs1 hN hn1 hn6) (by rw [mnet_eq hL hn6 hNL (by omega), mus_nk hU hn6 (net_in hL hn6 hs)]) hI (by decide) (by decide)
theorem q_members (hI : Inv σ) (x y : Int32) : OpS l cX5_members 3 cX6_members 3 [.int x, .int y] σ := by
  obtain ⟨n, q, ⟨hZ, hN, hn1, hn6⟩, -, -, hL, hNL, hU, hJ, hX, -⟩ := id hI.1
  rcases sv_cases (n := n) (by omega) x with h | ⟨s, hs, rfl⟩
  · exact OpS.mk (c_X5_members_bad x y (by rw [hZ]; exact and_f1 h)) (c_X6_members_bad x y n (and_f1 h) hN hn1 hn6) rfl hI (by decide) (by decide)
  · have hs1 := sv_nI (n := n) (by omega) hs
    rcases sv_cases (n := 4) (by omega) y with h | ⟨k, hk, rfl⟩
    · exact OpS.mk (c_X5_members_bad _ y (and_f2 h)) (c_X6_members_bad _ y n (and_f2 h) hN hn1 hn6) rfl hI (by decide) (by decide)
    · have hk1 := sv_nI (n := 4) (by omega) hk
      exact OpS.mk (c_X5_members_ok s k (by omega) hk (by rw [hZ]; exact hs1) hk1) (c_X6_members_ok s k n (by omega) hs1 hk hk1 hN hn1 hn6) (by rw [mnet_eq hL hn6 hNL (by omega), mj_un hJ.1 hJ.2.2.1 hn6 hk (net_in hL hn6 hs)]) hI (by decide) (by decide)
theorem q_operators (hI : Inv σ) (x y : Int32) : OpS l cX5_operators 3 cX6_operators 3 [.int x, .int y] σ := by
  obtain ⟨n, q, ⟨hZ, hN, hn1, hn6⟩, -, -, hL, hNL, hU, hJ, hX, -⟩ := id hI.1
  rcases sv_cases (n := n) (by omega) x with h | ⟨s, hs, rfl⟩
  · exact OpS.mk (c_X5_operators_bad x y (by rw [hZ]; exact and_f1 h)) (c_X6_operators_bad x y n (and_f1 h) hN hn1 hn6) rfl hI (by decide) (by decide)
  · have hs1 := sv_nI (n := n) (by omega) hs
    rcases sv_cases (n := 4) (by omega) y with h | ⟨k, hk, rfl⟩
    · exact OpS.mk (c_X5_operators_bad _ y (and_f2 h)) (c_X6_operators_bad _ y n (and_f2 h) hN hn1 hn6) rfl hI (by decide) (by decide)
    · have hk1 := sv_nI (n := 4) (by omega) hk
      exact OpS.mk (c_X5_operators_ok s k (by omega) hk (by rw [hZ]; exact hs1) hk1) (c_X6_operators_ok s k n (by omega) hs1 hk hk1 hN hn1 hn6) (by rw [mnet_eq hL hn6 hNL (by omega), mj_un hJ.2.1 hJ.2.2.2.1 hn6 hk (net_in hL hn6 hs)]) hI (by decide) (by decide)
theorem cb_0 {x : Int32} (h : lo 10 x) : cb 10 x = 0 ↔ x = 0 := by
  constructor
  · intro hc
    apply lo_ext h (lo_0 (n := 10))
    intro i hi
    cases q : tb x i
    · exact (tb_0 i).symm
    · have := cb_pos hi q; omega
  · intro e
    rw [e]; decide
/-- a channel exists: both see it -/
theorem hc_mcm {L M N : Nat → Int32} {n s ch : Nat} (hL : okL L n) (hn : n ≤ 6) (hNL : okN N L) (hM : okM M N 70) (hl : loM M) (hs : s < n) (hc : ch < 4) : mcm N n s ch = cb 10 (un M (net L s) ch) := by
  unfold mcm
  rw [mnet_eq hL hn hNL (by omega), mj_un hM hl hn hc (net_in hL hn hs)]
theorem hc_iff {L M : Nat → Int32} {s ch : Nat} (hl : loM M) (hch : ch < 4) : hc L M s ch = false ↔ cb 10 (un M (net L s) ch) = 0 := by
  unfold hc
  rw [cb_0 (lo_un hl hch)]
  by_cases e : un M (net L s) ch = 0 <;> simp [e]
theorem q_modes (hI : Inv σ) (x y : Int32) : OpS l cX5_modes 3 cX6_modes 3 [.int x, .int y] σ := by
  obtain ⟨n, q, ⟨hZ, hN, hn1, hn6⟩, -, -, hL, hNL, hU, hJ, hX, hC⟩ := id hI.1
  rcases sv_cases (n := n) (by omega) x with h | ⟨s, hs, rfl⟩
  · exact OpS.mk (c_X5_modes_bad x y (by rw [hZ]; exact and_f1 h)) (c_X6_modes_bad x y n (and_f1 h) hN hn1 hn6) rfl hI (by decide) (by decide)
  · have hs1 := sv_nI (n := n) (by omega) hs
    rcases sv_cases (n := 4) (by omega) y with h | ⟨k, hk, rfl⟩
    · exact OpS.mk (c_X5_modes_bad _ y (and_f2 h)) (c_X6_modes_bad _ y n (and_f2 h) hN hn1 hn6) rfl hI (by decide) (by decide)
    · have hk1 := sv_nI (n := 4) (by omega) hk
      have hm := hc_mcm hL hn6 hNL hJ.1 hJ.2.2.1 hs hk
      have h10 := cb_le 10 (un (σ 3) (net (σ 1) s) k)
      cases hh : hc (σ 1) (σ 3) s k with
      | false => exact OpS.mk (c_X5_modes_no s k (by omega) hk (by rw [hZ]; exact hs1) hk1 hh) (c_X6_modes_no s k n (by omega) hs1 hk hk1 (by rw [hm]; exact (hc_iff hJ.2.2.1 hk).mp hh) hN hn1 hn6) rfl hI (by decide) (by decide)
      | true =>
        have hz : 0 < mcm (σ 78) n s k := by
          rw [hm]
          apply Nat.pos_of_ne_zero
          intro e
          rw [(hc_iff hJ.2.2.1 hk).mpr e] at hh; cases hh
        exact OpS.mk (c_X5_modes_ok s k (by omega) hk (by rw [hZ]; exact hs1) hk1 hh) (c_X6_modes_ok s k n (by omega) hs1 hk hk1 hz (by rw [hm]; exact h10) hN hn1 hn6) (hC s k hs hk hh).2.1.symm hI (by decide) (by decide)
theorem q_channelTimestamp (hI : Inv σ) (x y : Int32) : OpS l cX5_channelTimestamp 3 cX6_channelTimestamp 3 [.int x, .int y] σ := by
  obtain ⟨n, q, ⟨hZ, hN, hn1, hn6⟩, -, -, hL, hNL, hU, hJ, hX, hC⟩ := id hI.1
  rcases sv_cases (n := n) (by omega) x with h | ⟨s, hs, rfl⟩
  · exact OpS.mk (c_X5_channelTimestamp_bad x y (by rw [hZ]; exact and_f1 h)) (c_X6_channelTimestamp_bad x y n (and_f1 h) hN hn1 hn6) rfl hI (by decide) (by decide)
  · have hs1 := sv_nI (n := n) (by omega) hs
    rcases sv_cases (n := 4) (by omega) y with h | ⟨k, hk, rfl⟩
    · exact OpS.mk (c_X5_channelTimestamp_bad _ y (and_f2 h)) (c_X6_channelTimestamp_bad _ y n (and_f2 h) hN hn1 hn6) rfl hI (by decide) (by decide)
    · have hk1 := sv_nI (n := 4) (by omega) hk
      have hm := hc_mcm hL hn6 hNL hJ.1 hJ.2.2.1 hs hk
      have h10 := cb_le 10 (un (σ 3) (net (σ 1) s) k)
      cases hh : hc (σ 1) (σ 3) s k with
      | false => exact OpS.mk (c_X5_channelTimestamp_no s k (by omega) hk (by rw [hZ]; exact hs1) hk1 hh) (c_X6_channelTimestamp_no s k n (by omega) hs1 hk hk1 (by rw [hm]; exact (hc_iff hJ.2.2.1 hk).mp hh) hN hn1 hn6) rfl hI (by decide) (by decide)
      | true =>
        have hz : 0 < mcm (σ 78) n s k := by
          rw [hm]
          apply Nat.pos_of_ne_zero
          intro e
          rw [(hc_iff hJ.2.2.1 hk).mpr e] at hh; cases hh
        exact OpS.mk (c_X5_channelTimestamp_ok s k (by omega) hk (by rw [hZ]; exact hs1) hk1 hh) (c_X6_channelTimestamp_ok s k n (by omega) hs1 hk hk1 hz (by rw [hm]; exact h10) hN hn1 hn6) (hC s k hs hk hh).1.symm hI (by decide) (by decide)
end Looks
