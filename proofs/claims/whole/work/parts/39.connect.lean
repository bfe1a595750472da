/-! ===== connect: nicks meet, channels are shared, two networks become one ===== -/
theorem net_link {L : Nat → Int32} {n a b s : Nat} (hL : okL L n) (hn : n ≤ 6) (ha : a < n) (hb : b < n) (hs : s < 6) : net (lkL L a b true) s = if tb (net L a ||| net L b) s = true then net L a ||| net L b else net L s := by
  have hL' := okL_lk (p := true) hL hn ha hb
  have ha6 : a < 6 := by omega
  have hb6 : b < 6 := by omega
  have hsub : ∀ k i, k < 6 → tb (L k) i = true → tb (lkL L a b true k) i = true := by
    intro k i hk h
    have hi := (hL.1 k i hk h).2
    rw [tb_lkL ha6 hb6 (by omega)]
    split
    · rfl
    · exact h
  have hup : ∀ s i, s < 6 → tb (net L s) i = true → tb (net (lkL L a b true) s) i = true := fun s i hs h => net_mono hL' hn hsub hs h
  have hab : tb (lkL L a b true a) b = true := by rw [tb_lkL ha6 hb6 (by omega), if_pos (Or.inl ⟨rfl, rfl⟩)]
  have hba : tb (lkL L a b true b) a = true := by rw [tb_lkL ha6 hb6 (by omega), if_pos (Or.inr ⟨rfl, rfl⟩)]
  have hlow : lo 6 (net L a ||| net L b) := lo_or (net_lo hL hn ha6) (net_lo hL hn hb6)
  have hdn : ∀ i, tb (net (lkL L a b true) s) i = true → (tb (net L a ||| net L b) s = true → tb (net L a ||| net L b) i = true) ∧ (¬ tb (net L a ||| net L b) s = true → tb (net L s) i = true) := by
    refine net_ind (P := fun i => (tb (net L a ||| net L b) s = true → tb (net L a ||| net L b) i = true) ∧ (¬ tb (net L a ||| net L b) s = true → tb (net L s) i = true)) hs ⟨id, fun _ => net_self hs⟩ (fun k i hk hP h => ?_)
    have hi := (hL'.1 k i hk h).2
    rw [tb_lkL ha6 hb6 (by omega)] at h
    by_cases e : (k = a ∧ i = b) ∨ (k = b ∧ i = a)
    · refine ⟨fun _ => ?_, fun hW => ?_⟩
      · rw [tb_or]
        rcases e with ⟨-, e⟩ | ⟨-, e⟩
        · rw [e, net_self hb6, Bool.or_true]
        · rw [e, net_self ha6, Bool.true_or]
      · have hk2 := hP.2 hW
        exfalso
        apply hW
        rw [tb_or]
        rcases e with ⟨e, -⟩ | ⟨e, -⟩
        · rw [e] at hk2; rw [net_sym hL hn hs hk2, Bool.true_or]
        · rw [e] at hk2; rw [net_sym hL hn hs hk2, Bool.or_true]
    · rw [if_neg e] at h
      refine ⟨fun hW => ?_, fun hW => net_step hL hn hs hk (hP.2 hW) h⟩
      have := hP.1 hW
      rw [tb_or, Bool.or_eq_true] at this ⊢
      rcases this with q | q
      · exact Or.inl (net_step hL hn ha6 hk q h)
      · exact Or.inr (net_step hL hn hb6 hk q h)
  by_cases hW : tb (net L a ||| net L b) s = true
  · rw [if_pos hW]
    apply lo_ext (net_lo hL' hn hs) hlow
    intro i hi
    apply Bool.eq_iff_iff.mpr
    refine ⟨fun h => (hdn i h).1 hW, fun h => ?_⟩
    rw [tb_or, Bool.or_eq_true] at h
    have hsa : tb (net (lkL L a b true) s) a = true ∧ tb (net (lkL L a b true) s) b = true := by
      rw [tb_or, Bool.or_eq_true] at hW
      rcases hW with q | q
      · have h1 := hup s a hs (net_sym hL hn ha6 q)
        exact ⟨h1, net_step hL' hn hs ha6 h1 hab⟩
      · have h1 := hup s b hs (net_sym hL hn hb6 q)
        exact ⟨net_step hL' hn hs hb6 h1 hba, h1⟩
    rcases h with q | q
    · exact net_trans hL' hn hs ha6 hsa.1 (hup a i ha6 q)
    · exact net_trans hL' hn hs hb6 hsa.2 (hup b i hb6 q)
  · rw [if_neg hW]
    apply lo_ext (net_lo hL' hn hs) (net_lo hL hn hs)
    intro i hi
    apply Bool.eq_iff_iff.mpr
    exact ⟨fun h => (hdn i h).2 hW, fun h => hup s i hs h⟩
/-! nicks -/
theorem hm_congr {U U' : Nat → Int32} {S : Int32} {k : Nat} (h : ∀ s, s < 6 → U' (s * 10 + k) = U (s * 10 + k)) : hm U' S k = hm U S k := by
  unfold hm
  have : ∀ m j, j + m ≤ 6 → fnd m j (fun s => tb S s && us U' s k) = fnd m j (fun s => tb S s && us U s k) := by
    intro m
    induction m with
    | zero => intro j _; rfl
    | succ m ih =>
      intro j hj
      unfold fnd
      have e : us U' j k = us U j k := by unfold us; rw [h j (by omega)]
      dsimp only
      rw [e, ih (j + 1) (by omega)]
  exact this 6 0 (Nat.le_refl _)
/-- what the meeting of nicks keeps, after the first m -/
def KN (n : Nat) (L U0 C D : Nat → Int32) (l r : Int32) (m : Nat) (T : av_T3) (S : av_K2) : Prop := RB n L T.1 T.2.1 T.2.2 C D S.2 ∧ (∀ s k, s < 6 → m ≤ k → k < 10 → T.1 (s * 10 + k) = U0 (s * 10 + k)) ∧ (∀ s t k, s < 6 → t < 6 → k < m → tb l s = true → tb r t = true → us T.1 s k = true → us T.1 t k = true → False) ∧ S.1 = sm m (fun k => if tn U0 l k = -1 ∨ tn U0 r k = -1 then 0 else if srv (tn U0 l k) (tn U0 r k) = -1 then 2 else 1)
theorem nI_nlt2 {a b : Nat} (ha : a < 2 ^ 31) (hb : b < 2 ^ 31) (h : ¬ a < b) : ¬ nI a < nI b := fun q => h ((nI_ltI ha hb).mp q)
theorem RB_rm3 {n s k : Nat} {L C D N : Nat → Int32} {T : av_T3} (hn : n ≤ 6) (hs : s < 6) (hk : k < 10) (h : RB n L T.1 T.2.1 T.2.2 C D N) : RB n L (rm3 T s k).1 (rm3 T s k).2.1 (rm3 T s k).2.2 C D (mrm N s k) := RB_signOff hn hs hk h
theorem KN_step {n : Nat} {L U0 C D : Nat → Int32} {l r : Int32} {m : Nat} {T : av_T3} {S : av_K2} (hn : n ≤ 6) (hm10 : m < 10) (hL : okL L n) {a b : Nat} (ha : a < 6) (hb : b < 6) (hl : l = net L a) (hr : r = net L b) (h : KN n L U0 C D l r m T S) : KN n L U0 C D l r (m + 1) (sn3F l r m T) (mkF n l r m S) := by
  obtain ⟨hB, hk, hd, hc⟩ := h
  obtain ⟨-, hNL, hU, hJ, hX, hC⟩ := id hB
  have ul : uniq T.1 l m := by rw [hl]; exact net_uniq hL hn hX ha hm10
  have ur : uniq T.1 r m := by rw [hr]; exact net_uniq hL hn hX hb hm10
  have el : mhm S.2 n l m = hm T.1 l m := mhm_hm hU hn hm10 ul
  have er : mhm S.2 n r m = hm T.1 r m := mhm_hm hU hn hm10 ur
  have hl0 : hm T.1 l m = hm U0 l m := hm_congr (fun s hs => hk s m hs (Nat.le_refl _) hm10)
  have hr0 : hm T.1 r m = hm U0 r m := hm_congr (fun s hs => hk s m hs (Nat.le_refl _) hm10)
  cases h1 : hm T.1 l m with
  | none =>
    rw [sn3F_n1 h1, mkF_n1 (by rw [el]; exact h1)]
    refine ⟨hB, fun s k hs h2 h3 => hk s k hs (by omega) h3, fun s t k hs ht h2 h3 h4 h5 h6 => ?_, ?_⟩
    · by_cases e : k = m
      · rw [e, hm_none h1 s hs h3] at h5; cases h5
      · exact hd s t k hs ht (by omega) h3 h4 h5 h6
    · have : tn U0 l m = -1 := by unfold tn; rw [← hl0, h1]
      rw [sm_s, if_pos (Or.inl this), Nat.add_zero]; exact hc
  | some x =>
    cases h2 : hm T.1 r m with
    | none =>
      rw [sn3F_n2 h2, mkF_n2 (by rw [er]; exact h2)]
      refine ⟨hB, fun s k hs h2 h3 => hk s k hs (by omega) h3, fun s t k hs ht h3 h4 h5 h6 h7 => ?_, ?_⟩
      · by_cases e : k = m
        · rw [e, hm_none h2 t ht h5] at h7; cases h7
        · exact hd s t k hs ht (by omega) h4 h5 h6 h7
      · have : tn U0 r m = -1 := by unfold tn; rw [← hr0, h2]
        rw [sm_s, if_pos (Or.inr this), Nat.add_zero]; exact hc
    | some y =>
      have hx := hm_some h1
      have hy := hm_some h2
      rw [sn3F_ss h1 h2, mkF_ss (el.trans h1) (er.trans h2)]
      obtain ⟨-, p, hp, p1, p2⟩ := us_lt hU hx.1 hm10 hx.2.2
      obtain ⟨-, w, hw, w1, w2⟩ := us_lt hU hy.1 hm10 hy.2.2
      have tl : tn U0 l m = nI p := by unfold tn; rw [← hl0, h1]; exact (hk x m hx.1 (Nat.le_refl _) hm10).symm.trans p1
      have tr : tn U0 r m = nI w := by unfold tn; rw [← hr0, h2]; exact (hk y m hy.1 (Nat.le_refl _) hm10).symm.trans w1
      have cnt : sm (m + 1) (fun k => if tn U0 l k = -1 ∨ tn U0 r k = -1 then 0 else if srv (tn U0 l k) (tn U0 r k) = -1 then 2 else 1) = S.1 + (if p = w then 2 else 1) := by
        rw [sm_s, ← hc, tl, tr, if_neg (by
          rintro (h | h)
          · exact nI_neg (by omega) (by decide) h
          · exact nI_neg (by omega) (by decide) h), srv_nI hp hw]
        by_cases e : p = w
        · rw [if_pos e, if_pos e, if_pos rfl]
        · rw [if_neg e, if_neg e, if_neg (nI_neg (by omega) (by decide))]
      have keep : ∀ (U' : Nat → Int32) (z : Nat), z < 6 → (∀ s k, s < 6 → m ≤ k → k < 10 → k ≠ m → U' (s * 10 + k) = U0 (s * 10 + k)) → ∀ s k, s < 6 → m + 1 ≤ k → k < 10 → (upd U' (z * 10 + m) (-1)) (s * 10 + k) = U0 (s * 10 + k) := by
        intro U' z hz h s k hs h1 h2
        rw [upd_ne (by omega)]; exact h s k hs (by omega) h2 (by omega)
      have hk' : ∀ s k, s < 6 → m ≤ k → k < 10 → k ≠ m → T.1 (s * 10 + k) = U0 (s * 10 + k) := fun s k hs h1 h2 _ => hk s k hs h1 h2
      have sub : ∀ (U' : Nat → Int32) (z s k : Nat), k < 10 → us (upd U' (z * 10 + m) (-1)) s k = true → us U' s k = true ∧ ¬ (s = z ∧ k = m) := by
        intro U' z s k hk10 h
        rw [us_upd hm10 hk10] at h
        by_cases e : s = z ∧ k = m
        · rw [if_pos e] at h; simp at h
        · rw [if_neg e] at h; exact ⟨h, e⟩
      unfold sc3 mk2
      dsimp only
      rw [p1, w1, p2, w2, srv_nI hp hw]
      by_cases e : p = w
      · rw [if_pos e, if_neg (nI_neg (by omega) (by decide)), if_neg (nI_neg (by omega) (by decide)), if_neg (nI_nlt2 (by omega) (by omega) (by omega)), if_neg (nI_nlt2 (by omega) (by omega) (by omega))]
        refine ⟨RB_rm3 hn hy.1 hm10 (RB_rm3 hn hx.1 hm10 hB), keep _ y hy.1 (fun s k hs h1 h2 h3 => ?_), fun s t k hs ht h3 h4 h5 h6 h7 => ?_, ?_⟩
        · exact (upd_ne (by omega)).trans (hk s k hs h1 h2)
        · have g1 := sub _ y s k (by omega) h6
          have g2 := sub _ x s k (by omega) g1.1
          have g3 := sub _ y t k (by omega) h7
          have g4 := sub _ x t k (by omega) g3.1
          by_cases ek : k = m
          · rw [ek] at g2
            have := ul s x hs hx.1 h4 hx.2.1 g2.1 hx.2.2
            exact g2.2 ⟨this, rfl⟩
          · exact hd s t k hs ht (by omega) h4 h5 g2.1 g4.1
        · show S.1 + 1 + 1 = _
          rw [cnt, if_pos e]
      · rw [if_neg e]
        rcases Nat.lt_or_ge p w with hlt | hge
        · rw [Nat.min_eq_left (by omega), if_pos rfl, if_neg (fun q => e ((nI_eq (by omega) (by omega)).mp q).symm), if_pos (show nI p < nI w from (nI_ltI (by omega) (by omega)).mpr hlt), if_neg (show ¬ nI w < nI p from nI_nlt2 (by omega) (by omega) (by omega))]
          refine ⟨RB_rm3 hn hy.1 hm10 hB, keep _ y hy.1 hk', fun s t k hs ht h3 h4 h5 h6 h7 => ?_, ?_⟩
          · have g1 := sub _ y s k (by omega) h6
            have g3 := sub _ y t k (by omega) h7
            by_cases ek : k = m
            · rw [ek] at g3
              have := ur t y ht hy.1 h5 hy.2.1 g3.1 hy.2.2
              exact g3.2 ⟨this, rfl⟩
            · exact hd s t k hs ht (by omega) h4 h5 g1.1 g3.1
          · show S.1 + 1 = _
            rw [cnt, if_neg e]
        · rw [Nat.min_eq_right (by omega), if_neg (fun q => e ((nI_eq (by omega) (by omega)).mp q)), if_pos rfl, if_neg (show ¬ nI p < nI w from nI_nlt2 (by omega) (by omega) (by omega)), if_pos (show nI w < nI p from (nI_ltI (by omega) (by omega)).mpr (by omega))]
          refine ⟨RB_rm3 hn hx.1 hm10 hB, keep _ x hx.1 hk', fun s t k hs ht h3 h4 h5 h6 h7 => ?_, ?_⟩
          · have g1 := sub _ x s k (by omega) h6
            have g3 := sub _ x t k (by omega) h7
            by_cases ek : k = m
            · rw [ek] at g1
              have := ul s x hs hx.1 h4 hx.2.1 g1.1 hx.2.2
              exact g1.2 ⟨this, rfl⟩
            · exact hd s t k hs ht (by omega) h4 h5 g1.1 g3.1
          · show S.1 + 1 = _
            rw [cnt, if_neg e]
theorem KN_all {n : Nat} {L U M O C D N : Nat → Int32} (hn : n ≤ 6) {a b : Nat} (ha : a < 6) (hb : b < 6) (h : RB n L U M O C D N) : KN n L U C D (net L a) (net L b) 10 (sn3 (net L a) (net L b) (U, M, O)) (mkn N n (net L a) (net L b) 10) := by
  have key : ∀ m, m ≤ 10 → KN n L U C D (net L a) (net L b) m (fo m (fun n T => sn3F (net L a) (net L b) n T) (U, M, O)) (fo m (fun k S => mkF n (net L a) (net L b) k S) (0, N)) := by
    intro m
    induction m with
    | zero => intro _; exact ⟨h, fun _ _ _ _ _ => rfl, fun _ _ _ _ _ h => absurd h (Nat.not_lt_zero _), rfl⟩
    | succ m ih => intro hm; exact KN_step hn (by omega) h.1 ha hb rfl rfl (ih (by omega))
  exact key 10 (Nat.le_refl _)
