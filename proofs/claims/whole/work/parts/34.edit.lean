/-! ===== edits: what is kept of the invariant; the ring and the shifted rows ===== -/
theorem wn_congr {L L' : Nat → Int32} (h : ∀ k, k < 6 → L' k = L k) (S : Int32) : wn L' S = wn L S := by
  unfold wn
  exact fo_congr (fun k x hk => by rw [h k hk])
theorem net_congr {L L' : Nat → Int32} (h : ∀ k, k < 6 → L' k = L k) (s : Nat) : net L' s = net L s := by
  unfold net
  exact fo_congr (fun _ x _ => wn_congr h x)
theorem un_congr {M M' : Nat → Int32} {ch : Nat} (h : ∀ s, s < 6 → M' (s * 4 + ch) = M (s * 4 + ch)) (S : Int32) : un M' S ch = un M S ch := by
  unfold un
  exact fo_congr (fun s x hs => by rw [h s hs])
theorem hc_true {L M : Nat → Int32} {n s ch : Nat} (hl : loM M) (hc4 : ch < 4) : hc L M s ch = true ↔ ∃ t k, t < 6 ∧ k < 10 ∧ tb (net L s) t = true ∧ tb (M (t * 4 + ch)) k = true := by
  constructor
  · intro h
    apply Classical.byContradiction
    intro hn
    have e : un M (net L s) ch = 0 := by
      apply lo_ext (lo_un hl hc4) (lo_0 (n := 10))
      intro i hi
      cases q : tb (un M (net L s) ch) i
      · exact (tb_0 i).symm
      · obtain ⟨t, h1, h2, h3⟩ := tb_un.mp q
        exact absurd ⟨t, i, h1, hi, h2, h3⟩ hn
    unfold hc at h
    rw [e] at h
    simp at h
  · rintro ⟨t, k, h1, h2, h3, h4⟩
    apply decide_eq_true
    intro e
    have := tb_un.mpr ⟨t, h1, h3, h4⟩
    rw [e, tb_0] at this; cases this
/-- the relation without its head -/
def RB (n : Nat) (L U M O C D N : Nat → Int32) : Prop := okL L n ∧ okN N L ∧ okU U N n ∧ RJ M O U N ∧ okX L U ∧ RC L M C D N n
theorem RM_mk {n q : Nat} {Z L U M O C D N : Nat → Int32} (h1 : Z 0 = nI n) (h2 : N 0 = nI n) (h3 : 1 ≤ n) (h4 : n ≤ 6) (h5 : Z 1 = nI q) (h6 : N 1 = nI q) (h7 : q ≤ 9999) (h8 : N 2 = Z 2) (h9 : N 3 = Z 3) (hB : RB n L U M O C D N) : RM n q Z L U M O C D N :=
  ⟨⟨h1, h2, h3, h4⟩, ⟨h5, h6, h7⟩, ⟨h8, h9⟩, hB⟩
theorem RB_congr {n : Nat} {L U M O C D N L' U' M' O' C' D' N' : Nat → Int32} (hn : n ≤ 6) (hL : ∀ i, i < 6 → L' i = L i) (hU : ∀ i, i < 60 → U' i = U i) (hM : ∀ i, i < 24 → M' i = M i) (hO : ∀ i, i < 24 → O' i = O i) (hC : ∀ i, i < 24 → C' i = C i) (hD : ∀ i, i < 24 → D' i = D i) (hN : ∀ i, 4 ≤ i → i < 238 → N' i = N i) (h : RB n L U M O C D N) : RB n L' U' M' O' C' D' N' := by
  obtain ⟨b1, b2, b3, ⟨j1, j2, j3, j4, j5, j6, j7, j8⟩, b5, b6⟩ := h
  have en : ∀ s, net L' s = net L s := net_congr hL
  have eus : ∀ s k, s < 6 → k < 10 → us U' s k = us U s k := fun s k hs hk => by unfold us; rw [hU _ (by omega)]
  refine ⟨⟨fun k j hk h => b1.1 k j hk (by rw [← hL k hk]; exact h), fun k j hk hj h => by rw [hL j hj]; exact b1.2 k j hk hj (by rw [← hL k hk]; exact h)⟩, fun k hk => by rw [hL k hk, hN _ (by omega) (by omega)]; exact b2 k hk, fun s k hs hk => by rw [hU _ (by omega), hN _ (by omega) (by omega)]; exact b3 s k hs hk, ⟨fun s k ch hs hk hc => ?_, fun s k ch hs hk hc => ?_, fun s ch hs hc => ?_, fun s ch hs hc => ?_, fun s k hs hk => ?_, fun s k hs hk => ?_, fun s k ch hs hk hc h => ?_, fun s k ch hs hk hc h => ?_⟩, fun s t k hs ht hk h1 h2 h3 => ?_, fun s ch hs h4 h => ?_⟩
  · rw [hM _ (by omega), hN _ (by omega) (by omega)]; exact j1 s k ch hs hk hc
  · rw [hO _ (by omega), hN _ (by omega) (by omega)]; exact j2 s k ch hs hk hc
  · rw [hM _ (by omega)]; exact j3 s ch hs hc
  · rw [hO _ (by omega)]; exact j4 s ch hs hc
  · rw [hN _ (by omega) (by omega)]; exact j5 s k hs hk
  · rw [hN _ (by omega) (by omega)]; exact j6 s k hs hk
  · rw [eus s k hs hk]; exact j7 s k ch hs hk hc (by rw [← hM _ (by omega)]; exact h)
  · rw [hM _ (by omega)]; exact j8 s k ch hs hk hc (by rw [← hO _ (by omega)]; exact h)
  · exact b5 s t k hs ht hk (by rw [← eus s k hs hk]; exact h1) (by rw [← eus t k ht hk]; exact h2) (by rw [← en]; exact h3)
  · have e : hc L' M' s ch = hc L M s ch := by
      unfold hc; rw [en, un_congr (fun t ht => hM _ (by omega))]
    obtain ⟨c1, c2, c3, c4⟩ := b6 s ch hs h4 (by rw [← e]; exact h)
    rw [hC _ (by omega), hD _ (by omega), hN _ (by omega) (by omega), hN _ (by omega) (by omega)]
    refine ⟨c1, c2, c3, fun t ht h => ?_⟩
    rw [hC _ (by omega), hD _ (by omega)]
    exact c4 t ht (by rw [← en]; exact h)
theorem RM_congr {n q : Nat} {Z L U M O C D N Z' L' U' M' O' C' D' N' : Nat → Int32} (hZ : ∀ i, i < 4 → Z' i = Z i) (hL : ∀ i, i < 6 → L' i = L i) (hU : ∀ i, i < 60 → U' i = U i) (hM : ∀ i, i < 24 → M' i = M i) (hO : ∀ i, i < 24 → O' i = O i) (hC : ∀ i, i < 24 → C' i = C i) (hD : ∀ i, i < 24 → D' i = D i) (hN : ∀ i, i < 238 → N' i = N i) (h : RM n q Z L U M O C D N) : RM n q Z' L' U' M' O' C' D' N' := by
  obtain ⟨⟨a1, a2, a3, a4⟩, ⟨a5, a6, a7⟩, ⟨a8, a9⟩, hB⟩ := h
  exact RM_mk (by rw [hZ 0 (by omega)]; exact a1) (by rw [hN 0 (by omega)]; exact a2) a3 a4 (by rw [hZ 1 (by omega)]; exact a5) (by rw [hN 1 (by omega)]; exact a6) a7 (by rw [hN 2 (by omega), hZ 2 (by omega)]; exact a8) (by rw [hN 3 (by omega), hZ 3 (by omega)]; exact a9) (RB_congr a4 hL hU hM hO hC hD (fun i _ h => hN i h) hB)
theorem svP_at {H N : Nat → Int32} {u i : Nat} : svP H N u i = if 238 * u ≤ i ∧ i < 238 * u + 238 then N (i - 238 * u) else H i := by
  have key : ∀ m, fo m (fun k g => upd g (238 * u + k) (N k)) H i = if 238 * u ≤ i ∧ i < 238 * u + m then N (i - 238 * u) else H i := by
    intro m
    induction m with
    | zero => rw [if_neg (by omega)]; rfl
    | succ m ih =>
      rw [fo_s]
      by_cases e : i = 238 * u + m
      · rw [e, upd_eq, if_pos (by omega)]
        congr 1; omega
      · rw [upd_ne e, ih]
        by_cases h : 238 * u ≤ i ∧ i < 238 * u + m
        · rw [if_pos h, if_pos (by omega)]
        · rw [if_neg h, if_neg (by omega)]
  exact key 238
theorem svS_at {H : Nat → Int32} {i : Nat} : svS H i = if i < 1666 then H (i + 238) else H i := by
  have key : ∀ m i, fo m (fun k g => upd g k (g (k + 238))) H i = if i < m then H (i + 238) else H i := by
    intro m
    induction m with
    | zero => intro i; rw [if_neg (by omega)]; rfl
    | succ m ih =>
      intro i
      rw [fo_s]
      by_cases e : i = m
      · rw [e, upd_eq, if_pos (by omega), ih, if_neg (by omega)]
      · rw [upd_ne e, ih]
        by_cases h : i < m
        · rw [if_pos h, if_pos (by omega)]
        · rw [if_neg h, if_neg (by omega)]
  exact key 1666 i
theorem unN_at {N H : Nat → Int32} {u i : Nat} (hi : i < 238) : unN N H u i = H (238 * u + i) := by
  have key : ∀ m, fo m (fun k g => upd g k (H (238 * u + k))) N i = if i < m then H (238 * u + i) else N i := by
    intro m
    induction m with
    | zero => rw [if_neg (by omega)]; rfl
    | succ m ih =>
      rw [fo_s]
      by_cases e : i = m
      · rw [e, upd_eq, if_pos (by omega)]
      · rw [upd_ne e, ih]
        by_cases h : i < m
        · rw [if_pos h, if_pos (by omega)]
        · rw [if_neg h, if_neg (by omega)]
  rw [show unN N H u = fo 238 (fun k g => upd g k (H (238 * u + k))) N from rfl, key, if_pos hi]
theorem nxt_lt {j : Nat} (h : j < 8) : nxt j < 8 := by unfold nxt; split <;> omega
theorem prv_lt {j : Nat} (h : j < 8) : prv j < 8 := by unfold prv; split <;> omega
theorem rwI_0 {j : Nat} (h : j < 8) : rwI (nxt j) 0 = j := by unfold rwI nxt; split <;> omega
theorem rwI_s {j i : Nat} (h : j < 8) (h1 : 1 ≤ i) (hi : i < 8) : rwI (nxt j) i = rwI j (i - 1) ∧ rwI j (i - 1) ≠ j := by unfold rwI nxt; split <;> omega
theorem rwI_p {j i : Nat} (h : j < 8) (hi : i < 7) : rwI (prv j) i = rwI j (i + 1) := by unfold rwI prv; split <;> omega
theorem rwI_p0 {j : Nat} (h : j < 8) : rwI j 0 = prv j := by unfold rwI prv; split <;> omega
theorem rwI_lt (j i : Nat) : rwI j i < 8 := Nat.mod_lt _ (by decide)
theorem svU_min {c : Nat} (h : c ≤ 8) : svU c = min (c + 1) 8 := by unfold svU; split <;> omega
/-- behind an edit: the ring has the state from before, and the rows have it too -/
theorem inv_edit {σ τ : av_S} {j c : Nat} (hC : RCur σ) (hj : j < 8) (hc : c ≤ 8) (hH : ∀ i, i < c → RHi σ j c i) (hR : ∀ k, 7 ≤ k → k < 65 → k ≠ 63 → τ k = hkeep σ j c k) (h77 : τ 77 2 = nI (svU c)) (h79 : τ 79 = svH (σ 79) (σ 78) c) (hC' : RCur τ) (hT : RT τ) : Inv τ := by
  refine ⟨hC', ⟨nxt j, min (c + 1) 8, nxt_lt hj, by omega, ?_, ?_, ?_, fun i hi => ?_⟩, hT⟩
  · rw [hR 64 (by omega) (by omega) (by omega)]; rfl
  · rw [hR 64 (by omega) (by omega) (by omega)]; rfl
  · rw [h77, svU_min hc]
  · have hrl := rwI_lt (nxt j) i
    have hcell : ∀ r, r < 7 → τ (7 * (rwI (nxt j) i + 1) + r) = hkeep σ j c (7 * (rwI (nxt j) i + 1) + r) := fun r hr => hR _ (by omega) (by omega) (by omega)
    by_cases e : i = 0
    · subst e
      rw [rwI_0 hj] at hcell
      have hv : ∀ r, r < 7 → ∀ x, x < cpN r → τ (7 * (j + 1) + r) x = σ r x := by
        intro r hr x hx
        rw [hcell r hr]
        unfold hkeep
        rw [if_neg (by omega), if_pos (by omega)]
        unfold cpS
        rw [if_pos (by omega)]
        rw [show 7 * (j + 1) + r - 7 * (j + 1) = r by omega, show 7 * 0 + r = r by omega, if_pos hx]
      obtain ⟨n, q, hM⟩ := hC
      refine ⟨n, q, ?_⟩
      rw [rwI_0 hj]
      refine RM_congr (hv 0 (by omega)) (hv 1 (by omega)) (hv 2 (by omega)) (hv 3 (by omega)) (hv 4 (by omega)) (hv 5 (by omega)) (hv 6 (by omega)) (fun x hx => ?_) hM
      show τ 79 _ = σ 78 x
      rw [h79]
      unfold svH
      by_cases e8 : c = 8
      · rw [if_pos e8, svP_at, if_pos (by omega)]
        exact congrArg (σ 78) (by omega)
      · rw [if_neg e8, svP_at, if_pos (by omega)]
        exact congrArg (σ 78) (by omega)
    · obtain ⟨e1, e2⟩ := rwI_s hj (by omega : 1 ≤ i) (by omega : i < 8)
      rw [e1] at hcell
      have hrl2 := rwI_lt j (i - 1)
      have hv : ∀ r, r < 7 → τ (7 * (rwI j (i - 1) + 1) + r) = σ (7 * (rwI j (i - 1) + 1) + r) := by
        intro r hr
        rw [hcell r hr]
        unfold hkeep
        rw [if_neg (by omega), if_pos (by omega)]
        unfold cpS
        rw [if_neg (by omega)]
      obtain ⟨n, q, hM⟩ := hH (i - 1) (by omega)
      refine ⟨n, q, ?_⟩
      rw [e1]
      have v0 := hv 0 (by omega)
      rw [Nat.add_zero] at v0
      rw [v0, hv 1 (by omega), hv 2 (by omega), hv 3 (by omega), hv 4 (by omega), hv 5 (by omega), hv 6 (by omega)]
      refine RM_congr (fun _ _ => rfl) (fun _ _ => rfl) (fun _ _ => rfl) (fun _ _ => rfl) (fun _ _ => rfl) (fun _ _ => rfl) (fun _ _ => rfl) (fun x hx => ?_) hM
      show τ 79 _ = σ 79 _
      rw [h79]
      unfold svH
      by_cases e8 : c = 8
      · rw [if_pos e8, svP_at, if_neg (by omega), svS_at, if_pos (by omega)]
        exact congrArg (σ 79) (by omega)
      · rw [if_neg e8, svP_at, if_neg (by omega)]
        exact congrArg (σ 79) (by omega)
theorem inv_undo {σ τ : av_S} {j c : Nat} (hj : j < 8) (hc : c ≤ 8) (hc1 : 1 ≤ c) (hH : ∀ i, i < c → RHi σ j c i) (hR : ∀ k, k < 65 → k ≠ 63 → τ k = htake σ j c k) (h77 : τ 77 2 = nI (c - 1)) (h78 : τ 78 = unN (σ 78) (σ 79) (c - 1)) (h79 : τ 79 = σ 79) (hT : RT τ) : Inv τ := by
  have hp := prv_lt hj
  refine ⟨?_, ⟨prv j, c - 1, prv_lt hj, by omega, ?_, ?_, h77, fun i hi => ?_⟩, hT⟩
  · obtain ⟨n, q, hM⟩ := hH 0 (by omega)
    rw [rwI_p0 hj] at hM
    have hv : ∀ r, r < 7 → ∀ x, x < cpN r → τ r x = σ (7 * (prv j + 1) + r) x := by
      intro r hr x hx
      rw [hR r (by omega) (by omega)]
      unfold htake
      rw [if_pos hr]
      rw [if_pos hx]
    refine ⟨n, q, RM_congr (hv 0 (by omega)) (hv 1 (by omega)) (hv 2 (by omega)) (hv 3 (by omega)) (hv 4 (by omega)) (hv 5 (by omega)) (hv 6 (by omega)) (fun x hx => ?_) hM⟩
    rw [h78, unN_at hx]
    congr 1
  · rw [hR 64 (by omega) (by omega)]; rfl
  · rw [hR 64 (by omega) (by omega)]; rfl
  · have hrl := rwI_lt j (i + 1)
    obtain ⟨n, q, hM⟩ := hH (i + 1) (by omega)
    refine ⟨n, q, ?_⟩
    rw [rwI_p hj (by omega)]
    have hv : ∀ r, r < 7 → τ (7 * (rwI j (i + 1) + 1) + r) = σ (7 * (rwI j (i + 1) + 1) + r) := by
      intro r hr
      rw [hR _ (by omega) (by omega)]
      unfold htake
      rw [if_neg (by omega), if_neg (by omega)]
    have v0 := hv 0 (by omega)
    rw [Nat.add_zero] at v0
    rw [v0, hv 1 (by omega), hv 2 (by omega), hv 3 (by omega), hv 4 (by omega), hv 5 (by omega), hv 6 (by omega), h79]
    rw [show c - 1 - 1 - i = c - 1 - (i + 1) by omega]
    exact hM
theorem inv_text {σ τ : av_S} (h : ∀ k, (k < 66 ∨ k = 78 ∨ k = 79) → τ k = σ k) (h2 : τ 77 2 = σ 77 2) (hT : RT τ) (hI : Inv σ) : Inv τ := by
  obtain ⟨hC, ⟨j, c, hj, hc, h1, h3, h5, h6⟩, -⟩ := hI
  refine ⟨?_, ⟨j, c, hj, hc, ?_, ?_, ?_, fun i hi => ?_⟩, hT⟩
  · unfold RCur
    rw [h 0 (by omega), h 1 (by omega), h 2 (by omega), h 3 (by omega), h 4 (by omega), h 5 (by omega), h 6 (by omega), h 78 (by omega)]
    exact hC
  · rw [h 64 (by omega)]; exact h1
  · rw [h 64 (by omega)]; exact h3
  · rw [h2]; exact h5
  · have hr : rwI j i < 8 := Nat.mod_lt _ (by decide)
    have := h6 i hi
    unfold RHi at this ⊢
    rw [h (7 * (rwI j i + 1)) (by omega), h (7 * (rwI j i + 1) + 1) (by omega), h (7 * (rwI j i + 1) + 2) (by omega), h (7 * (rwI j i + 1) + 3) (by omega), h (7 * (rwI j i + 1) + 4) (by omega), h (7 * (rwI j i + 1) + 5) (by omega), h (7 * (rwI j i + 1) + 6) (by omega), h 79 (by omega)]
    exact this
theorem RT_congr {σ τ : av_S} (h66 : τ 66 1 = σ 66 1) (h77 : τ 77 4 = σ 77 4) (h67 : τ 67 = σ 67) (h80 : τ 80 = σ 80) (h : RT σ) : RT τ := by
  obtain ⟨n, t, hn, g1, g2, g3⟩ := h
  exact ⟨n, t, hn, h66.trans g1, h77.trans g2, by rw [h67, h80]; exact g3⟩
theorem hkeep_hi {σ : av_S} {j c k : Nat} (h : 65 ≤ k) : hkeep σ j c k = σ k := by
  unfold hkeep; rw [if_neg (by omega), if_neg (by omega), if_neg (by omega)]
/-- an edit that keeps the state from before: same answer, relation kept -/
theorem OpE {l : Launch} {cx : ByteArray} {nx : Nat} {cm : ByteArray} {nm : Nat} {vs : List Value} {σ : av_S} {r r' : Int32} {N' : Nat → Int32} {d : Nat} (hI : Inv σ)
    (h1 : ∀ j c, j < 8 → c ≤ 8 → σ 64 1 = nI j → σ 64 2 = nI c → ∃ σ1, av_M l RX5 cx nx (some .int) d (.ref 63 :: vs) σ (some (.int r)) σ1 ∧ (∀ k, 7 ≤ k → σ1 k = hkeep σ j c k) ∧ ∃ n q, RM n q (σ1 0) (σ1 1) (σ1 2) (σ1 3) (σ1 4) (σ1 5) (σ1 6) N')
    (h2 : ∀ (τ : av_S) u, τ 78 = σ 78 → τ 77 2 = nI u → u ≤ 8 → av_M l RX6 cm nm (some .int) 8 (.ref 77 :: vs) τ (some (.int r')) (av_set (av_set (av_set τ 77 (upd (τ 77) 2 (nI (svU u)))) 78 N') 79 (svH (τ 79) (σ 78) u)))
    (hr : r' = r) (hd : d ≤ 40) : OpS l cx nx cm nm vs σ := by
  obtain ⟨hC, ⟨j, c, hj, hc, g1, g2, g3, g4⟩, hT⟩ := hI
  obtain ⟨σ1, hM, hk, n, q, hR⟩ := h1 j c hj hc g1 g2
  have hk2 : ∀ k, 65 ≤ k → σ1 k = σ k := fun k h => (hk k (by omega)).trans (hkeep_hi h)
  have hM2 := h2 σ1 c (hk2 78 (by omega)) (by rw [hk2 77 (by omega)]; exact g3) hc
  refine OpS.mk hM hM2 hr (inv_edit hC hj hc g4 (fun k h7 h65 h63 => ?_) ?_ ?_ ⟨n, q, hR⟩ (RT_congr (σ := σ) ?_ ?_ ?_ ?_ hT)) hd (by decide)
  · rw [av_set_ne _ _ (by omega), av_set_ne _ _ (by omega), av_set_ne _ _ (by omega)]; exact hk k h7
  · rfl
  · show svH (σ1 79) (σ 78) c = _
    rw [hk2 79 (by omega)]
  · show σ1 66 1 = _
    rw [hk2 66 (by omega)]
  · show σ1 77 4 = _
    rw [hk2 77 (by omega)]
  · exact hk2 67 (by omega)
  · exact hk2 80 (by omega)
theorem mlk_ne {N : Nat → Int32} {a b i : Nat} {p : Bool} (h1 : i ≠ 4 + a) (h2 : i ≠ 4 + b) : mlk N a b p i = N i := by
  unfold mlk; rw [upd_ne h2, upd_ne h1]
theorem okU_hi {U N N' : Nat → Int32} {n : Nat} (h : okU U N n) (e : ∀ i, 10 ≤ i → i < 70 → N' i = N i) : okU U N' n := fun s k hs hk => by
  rw [e _ (by omega) (by omega)]; exact h s k hs hk
section Texts
variable {l : Launch} {σ : av_S}
theorem q_append (hI : Inv σ) (x : Int32) : OpS l cX5_appendCharacter 2 cX6_appendCharacter 2 [.int x] σ := by
  obtain ⟨n, t, hn, g1, g2, g3⟩ := id hI.2.2
  rcases sv_cases (n := 256) (by omega) x with h | ⟨a, ha, rfl⟩
  · have h2 : ¬ (¬ x < 0 ∧ x ≤ nI 255) := fun q => by
      have : sv (nI 256) x = true := by
        obtain ⟨a, ha, rfl⟩ := nI_of q.1
        exact sv_nI (by omega) (by have := (nI_leI ha (by omega)).mp q.2; omega)
      rw [h] at this; cases this
    refine OpS.mk (c_X5_append_bad x h2) (c_X6_append_bad x ?_) rfl hI (by decide) (by decide)
    rw [show (255 : Nat) = 256 - 1 from rfl, sv_inb (by omega) (by omega)]; exact h
  · have hin : inb (nI a) (nI 0) (nI 255) = true := by rw [inb_le (by omega) (by omega)]; exact decide_eq_true (by omega)
    by_cases e : n = 40
    · exact OpS.mk (c_X5_append_lim a n (by omega) g1 hn (decide_eq_true (by omega))) (c_X6_append_lim a n hin g2 hn e) rfl hI (by decide) (by decide)
    · refine OpS.mk (c_X5_append_ok a n (by omega) g1 hn (decide_eq_false (by omega)) (by omega)) (c_X6_append_ok a n hin g2 hn (by omega)) rfl (inv_text (σ := σ) (fun k hk => ?_) rfl ?_ hI) (by decide) (by decide)
      · rw [av_set_ne _ _ (by omega), av_set_ne _ _ (by omega), av_set_ne _ _ (by omega), av_set_ne _ _ (by omega)]
      · refine ⟨n + 1, fun i => if i = n then a else t i, by omega, rfl, rfl, fun i hi => ?_⟩
        show (if i = n then a else t i) < 256 ∧ upd (σ 67) n (nI a) i = nI (if i = n then a else t i) ∧ upd (σ 80) n (nI a) i = nI (if i = n then a else t i)
        by_cases ei : i = n
        · rw [if_pos ei, ei, upd_eq, upd_eq]; exact ⟨ha, rfl, rfl⟩
        · rw [if_neg ei, upd_ne ei, upd_ne ei]; exact g3 i (by omega)
theorem q_clearText (hI : Inv σ) : OpS l cX5_clearText 2 cX6_clearText 2 [] σ := by
  obtain ⟨n, t, hn, g1, g2, g3⟩ := id hI.2.2
  refine OpS.mk (c_X5_clearText n g1 hn) (c_X6_clearText n g2 hn) rfl (inv_text (σ := σ) (fun k hk => ?_) rfl ?_ hI) (by decide) (by decide)
  · rw [av_set_ne _ _ (by omega), av_set_ne _ _ (by omega)]
  · exact ⟨0, t, by omega, rfl, rfl, fun i hi => by omega⟩
theorem q_undo (hI : Inv σ) : OpS l cX5_undo 1 cX6_undo 2 [] σ := by
  obtain ⟨hC, ⟨j, c, hj, hc, g1, g2, g3, g4⟩, hT⟩ := id hI
  by_cases e : c = 0
  · exact OpS.mk (c_X5_undo_st (by rw [g2, e])) (c_X6_undo_st (by rw [g3, e])) rfl hI (by decide) (by decide)
  · refine OpS.mk (c_X5_undo_ok j c g1 hj g2 (by omega) hc) (c_X6_undo_ok (σ := htake σ j c) c g3 hc (by omega)) rfl (inv_undo hj hc (by omega) g4 (fun k hk h63 => ?_) rfl rfl rfl (RT_congr (σ := σ) rfl rfl rfl rfl hT)) (by decide) (by decide)
    rw [av_set_ne _ _ (by omega), av_set_ne _ _ (by omega)]
theorem q_lostIfDisconnected (hI : Inv σ) (x y : Int32) : OpS l cX5_lostIfDisconnected 5 cX6_lostIfDisconnected 5 [.int x, .int y] σ := by
  obtain ⟨n, q, ⟨hZ, hN, hn1, hn6⟩, -, -, hL, hNL, hU, -⟩ := id hI.1
  rcases sv_cases (n := n) (by omega) x with h | ⟨a, ha, rfl⟩
  · exact OpS.mk (c_X5_lostIfDisconnected_bad x y (by rw [hZ]; exact and_f1 h)) (c_X6_lostIfDisconnected_bad x y n (and_f1 h) hN hn1 hn6) rfl hI (by decide) (by decide)
  · have ha1 := sv_nI (n := n) (by omega) ha
    rcases sv_cases (n := n) (by omega) y with h | ⟨b, hb, rfl⟩
    · exact OpS.mk (c_X5_lostIfDisconnected_bad _ y (by rw [hZ]; exact and_f2 h)) (c_X6_lostIfDisconnected_bad _ y n (and_f2 h) hN hn1 hn6) rfl hI (by decide) (by decide)
    · have hb1 := sv_nI (n := n) (by omega) hb
      have e1 : σ 78 (4 + a) = σ 1 a := hNL a (by omega)
      cases hc : tb (σ 1 a) b with
      | false => exact OpS.mk (c_X5_lost_st a b (by omega) (by omega) (by rw [hZ]; exact and_t ha1 hb1) hc) (c_X6_lost_st a b n (by omega) (by omega) (and_t ha1 hb1) (by rw [e1]; exact hc) hN hn1 hn6) rfl hI (by decide) (by decide)
      | true =>
        have eL : lkL (lkL (σ 1) a b false) a b true = σ 1 := funext (lkL_back hL hn6 ha hb hc)
        have hx := c_X5_lost_ok (l := l) (σ := σ) a b (by omega) (by omega) (by rw [hZ]; exact and_t ha1 hb1) hc
        have hy := c_X6_lost_ok (l := l) (σ := σ) a b n (by omega) (by omega) (and_t ha1 hb1) (by rw [e1]; exact hc) hN hn1 hn6
        have hNL1 := okN_lk (p := false) hNL (show a < 6 by omega) (show b < 6 by omega)
        have hL1 := okL_lk (p := false) hL hn6 ha hb
        have eN : mlk (mlk (σ 78) a b false) a b true = σ 78 := by
          funext i
          by_cases h4 : 4 ≤ i ∧ i < 10
          · have := okN_lk (p := true) hNL1 (show a < 6 by omega) (show b < 6 by omega) (i - 4) (by omega)
            rw [show 4 + (i - 4) = i by omega, eL] at this
            rw [this, ← hNL (i - 4) (by omega), show 4 + (i - 4) = i by omega]
          · rw [mlk_ne (by omega) (by omega), mlk_ne (by omega) (by omega)]
        rw [eL, av_set_self] at hx
        rw [eN, av_set_self] at hy
        refine OpS.mk hx hy ?_ hI (by decide) (by decide)
        rw [mnet_eq hL1 hn6 hNL1 (by omega), mnet_eq hL hn6 hNL (by omega)]
        have k1 := mou_cu (S := net (σ 1) 0) hU hn6
        have k2 := mou_cu (S := net (lkL (σ 1) a b false) 0) (okU_hi (N' := mlk (σ 78) a b false) hU (fun i h1 h2 => mlk_ne (by omega) (by omega))) hn6
        exact (sub_of_add (k1.trans k2.symm)).symm
end Texts
