/-! ===== connect: the channels ===== -/
def eN (m : Nat) (W : Int32) (L : Nat → Int32) (s c : Nat) : Int32 := if c < m ∧ tb W s = true then W else net L s
def RCe (E : Nat → Nat → Int32) (M C D N : Nat → Int32) (n : Nat) : Prop := ∀ s c, s < n → c < 4 → ¬ un M (E s c) c = 0 → C (s * 4 + c) = N (190 + 4 * s + c) ∧ D (s * 4 + c) = N (214 + 4 * s + c) ∧ lo 10 (D (s * 4 + c)) ∧ ∀ t, t < 6 → tb (E s c) t = true → C (t * 4 + c) = C (s * 4 + c) ∧ D (t * 4 + c) = D (s * 4 + c)
theorem eN_self {m s : Nat} {W : Int32} {L : Nat → Int32} : eN m W L s m = net L s := if_neg (fun h => Nat.lt_irrefl _ h.1)
theorem RCe_0 {W : Int32} {L M C D N : Nat → Int32} {n : Nat} (h : RC L M C D N n) : RCe (eN 0 W L) M C D N n := fun s c hs hc hne => by
  have e : eN 0 W L s c = net L s := if_neg (fun h => Nat.not_lt_zero _ h.1)
  rw [e] at hne ⊢
  exact h s c hs hc (decide_eq_true hne)
theorem RCe_step {n m a b : Nat} {L M C D N C' D' N' : Nat → Int32} (hL : okL L n) (hn : n ≤ 6) (ha : a < n) (hb : b < n) (h : RCe (eN m (net L a ||| net L b) L) M C D N n)
    (ho : ∀ s c, s < 6 → c < 4 → ¬ (c = m ∧ tb (net L a ||| net L b) s = true) → (C' (s * 4 + c) = C (s * 4 + c) ∧ D' (s * 4 + c) = D (s * 4 + c)) ∧ N' (190 + 4 * s + c) = N (190 + 4 * s + c) ∧ N' (214 + 4 * s + c) = N (214 + 4 * s + c))
    (hw : un M (net L a ||| net L b) m = 0 ∨ ∃ v w, lo 10 w ∧ ∀ s, s < n → tb (net L a ||| net L b) s = true → C' (s * 4 + m) = v ∧ D' (s * 4 + m) = w ∧ N' (190 + 4 * s + m) = v ∧ N' (214 + 4 * s + m) = w) : RCe (eN (m + 1) (net L a ||| net L b) L) M C' D' N' n := by
  have hWn : inN n (net L a ||| net L b) := fun i hi => by
    rw [tb_or, Bool.or_eq_true] at hi
    rcases hi with q | q
    · exact net_lt hL ha hn q
    · exact net_lt hL hb hn q
  intro s c hs hc hne
  by_cases g : c = m ∧ tb (net L a ||| net L b) s = true
  · have e : eN (m + 1) (net L a ||| net L b) L s c = net L a ||| net L b := if_pos ⟨by omega, g.2⟩
    rw [e] at hne ⊢
    rw [g.1] at hne ⊢
    rcases hw with q | ⟨v, w, hlw, q⟩
    · exact absurd q hne
    · obtain ⟨q1, q2, q3, q4⟩ := q s hs g.2
      rw [q1, q2, q3, q4]
      refine ⟨rfl, rfl, hlw, fun t ht hq => ?_⟩
      obtain ⟨r1, r2, -, -⟩ := q t (hWn t hq) hq
      exact ⟨r1, r2⟩
  · have e : eN (m + 1) (net L a ||| net L b) L s c = eN m (net L a ||| net L b) L s c := by
      unfold eN
      by_cases e2 : c < m ∧ tb (net L a ||| net L b) s = true
      · rw [if_pos e2, if_pos ⟨by omega, e2.2⟩]
      · rw [if_neg e2, if_neg (fun q => g ⟨by
          by_cases e3 : c = m
          · exact e3
          · exact absurd ⟨by omega, q.2⟩ e2, q.2⟩)]
    rw [e] at hne ⊢
    obtain ⟨c1, c2, c3, c4⟩ := h s c hs hc hne
    obtain ⟨⟨o1, o2⟩, o3, o4⟩ := ho s c (by omega) hc g
    rw [o1, o2, o3, o4]
    refine ⟨c1, c2, c3, fun t ht hq => ?_⟩
    have g2 : ¬ (c = m ∧ tb (net L a ||| net L b) t = true) := by
      rintro ⟨e1, e2⟩
      apply g
      refine ⟨e1, ?_⟩
      rw [e1, eN_self] at hq
      rw [tb_or, Bool.or_eq_true] at e2 ⊢
      have h3 := net_sym hL hn (by omega) hq
      rcases e2 with q | q
      · exact Or.inl (net_trans hL hn (by omega) ht q h3)
      · exact Or.inr (net_trans hL hn (by omega) ht q h3)
    obtain ⟨⟨p1, p2⟩, -, -⟩ := ho t c ht hc g2
    rw [p1, p2]
    exact c4 t ht hq
/-- one network takes the other's channel -/
theorem RCe_take {n m a b o y : Nat} {L M C D N N' : Nat → Int32} (hL : okL L n) (hn : n ≤ 6) (ha : a < n) (hb : b < n) (hm : m < 4) (hon : o < n) (hyn : y < n) (hoy : ∀ s, tb (net L a ||| net L b) s = (tb (net L y) s || tb (net L o) s)) (hne : ¬ un M (net L o) m = 0) (h : RCe (eN m (net L a ||| net L b) L) M C D N n)
    (hN : ∀ i, 190 ≤ i → N' i = msc N n (net L a ||| net L b) m (N (190 + 4 * o + m)) (N (214 + 4 * o + m)) i) : RCe (eN (m + 1) (net L a ||| net L b) L) M (ds C (net L y) m (C (o * 4 + m))) (ds D (net L y) m (D (o * 4 + m))) N' n := by
  obtain ⟨c1, c2, c3, c4⟩ := h o m hon hm (by rw [eN_self]; exact hne)
  rw [eN_self] at c4
  refine RCe_step hL hn ha hb h (fun s c hs hc g => ?_) (Or.inr ⟨C (o * 4 + m), D (o * 4 + m), c3, fun s hs hq => ?_⟩)
  · obtain ⟨m1, m2⟩ := msc_at (N := N) (n := n) (S := net L a ||| net L b) (v := N (190 + 4 * o + m)) (w := N (214 + 4 * o + m)) (ch := m) (t := s) (c := c) hn hm hc hs
    have g2 : ¬ (c = m ∧ tb (net L y) s = true) := fun q => g ⟨q.1, by rw [hoy, q.2, Bool.true_or]⟩
    rw [hN _ (by omega), hN _ (by omega), m1, m2, if_neg (fun q => g q.2), if_neg (fun q => g q.2), ds_at hm hc hs, ds_at hm hc hs, if_neg g2, if_neg g2]
    exact ⟨⟨rfl, rfl⟩, rfl, rfl⟩
  · obtain ⟨m1, m2⟩ := msc_at (N := N) (n := n) (S := net L a ||| net L b) (v := N (190 + 4 * o + m)) (w := N (214 + 4 * o + m)) (ch := m) (t := s) (c := m) hn hm hm (by omega)
    rw [hN _ (by omega), hN _ (by omega), m1, m2, if_pos ⟨hs, rfl, hq⟩, if_pos ⟨hs, rfl, hq⟩, ds_at hm hm (by omega), ds_at hm hm (by omega)]
    by_cases g : tb (net L y) s = true
    · rw [if_pos ⟨rfl, g⟩, if_pos ⟨rfl, g⟩]; exact ⟨rfl, rfl, c1.symm, c2.symm⟩
    · rw [if_neg (fun q => g q.2), if_neg (fun q => g q.2)]
      have g3 : tb (net L o) s = true := by
        rw [hoy, Bool.or_eq_true] at hq
        exact hq.resolve_left g
      obtain ⟨k1, k2⟩ := c4 s (by omega) g3
      exact ⟨k1, k2, c1.symm, c2.symm⟩
theorem so_at {M O : Nat → Int32} {S X : Int32} {ch t c : Nat} (h1 : ch < 4) (h2 : c < 4) (ht : t < 6) : so M O S ch X (t * 4 + c) = if c = ch ∧ tb S t = true then M (t * 4 + ch) &&& X else O (t * 4 + c) := by
  have key : ∀ m, m ≤ 6 → fo m (fun s O => soF M S ch X s O) O (t * 4 + c) = if t < m ∧ c = ch ∧ tb S t = true then M (t * 4 + ch) &&& X else O (t * 4 + c) := by
    intro m
    induction m with
    | zero => intro _; rw [if_neg (by omega)]; rfl
    | succ m ih =>
      intro hm
      rw [fo_s]
      unfold soF at ih ⊢
      cases hb : tb S m
      · rw [cond_false, ih (by omega)]
        by_cases e : t < m ∧ c = ch ∧ tb S t = true
        · rw [if_pos e, if_pos ⟨by omega, e.2⟩]
        · rw [if_neg e, if_neg (fun q => e ⟨by
            by_cases e2 : t = m
            · rw [e2, hb] at q; cases q.2.2
            · omega, q.2⟩)]
      · rw [cond_true]
        by_cases e : t = m ∧ c = ch
        · rw [e.1, e.2, upd_eq, if_pos ⟨by omega, rfl, hb⟩]
        · rw [upd_ne (by omega), ih (by omega)]
          by_cases e2 : t < m ∧ c = ch ∧ tb S t = true
          · rw [if_pos e2, if_pos ⟨by omega, e2.2⟩]
          · rw [if_neg e2, if_neg (fun q => e2 ⟨by omega, q.2⟩)]
  unfold so
  rw [key 6 (Nat.le_refl _)]
  by_cases e : c = ch ∧ tb S t = true
  · rw [if_pos e, if_pos ⟨ht, e⟩]
  · rw [if_neg e, if_neg (fun q => e q.2)]
theorem dpr_hi {N : Nat → Int32} {c ch i : Nat} {S : Int32} (hc : c ≤ 6) (hi : 190 ≤ i) : dpr N c S ch i = N i := by
  unfold dpr
  have key : ∀ m, m ≤ c → fo m (fun h N => fo 10 (fun n N => dpF S ch h n N) N) (dp0 N c S ch) i = N i := by
    intro m
    induction m with
    | zero => intro _; exact dp0_ne (by omega)
    | succ m ih =>
      intro hm
      rw [fo_s]
      have k2 : ∀ (N : Nat → Int32) j, j ≤ 10 → fo j (fun n N => dpF S ch m n N) N i = N i := by
        intro N j
        induction j with
        | zero => intro _; rfl
        | succ j jh => intro hj; rw [fo_s]; unfold dpF at jh ⊢; rw [upd_ne (by omega)]; exact jh (by omega)
      rw [k2 _ 10 (Nat.le_refl _)]; exact ih (by omega)
  exact key c (Nat.le_refl _)
theorem dpr_130 {N : Nat → Int32} {n ch h k : Nat} {S : Int32} (hn : n ≤ 6) (hk : k < 10) : dpr N n S ch (130 + (10 * h + k)) = if h < n then N (130 + (10 * h + k)) &&& (bif tb S h then bt ch ^^^ (-1) else -1) else N (130 + (10 * h + k)) := by
  unfold dpr
  have inner : ∀ (N : Nat → Int32) m j, j ≤ 10 → fo j (fun n N => dpF S ch m n N) N (130 + (10 * h + k)) = if h = m ∧ k < j then N (130 + (10 * h + k)) &&& (bif tb S h then bt ch ^^^ (-1) else -1) else N (130 + (10 * h + k)) := by
    intro N m j
    induction j with
    | zero => intro _; rw [if_neg (by omega)]; rfl
    | succ j jh =>
      intro hj
      rw [fo_s]
      unfold dpF at jh ⊢
      by_cases e : h = m ∧ k = j
      · obtain ⟨rfl, rfl⟩ := e
        rw [upd_eq, jh (by omega), if_neg (by omega), if_pos (by omega)]
      · rw [upd_ne (by omega), jh (by omega)]
        by_cases e2 : h = m ∧ k < j
        · rw [if_pos e2, if_pos (by omega)]
        · rw [if_neg e2, if_neg (by omega)]
  have key : ∀ m, m ≤ n → fo m (fun h N => fo 10 (fun n N => dpF S ch h n N) N) (dp0 N n S ch) (130 + (10 * h + k)) = if h < m then N (130 + (10 * h + k)) &&& (bif tb S h then bt ch ^^^ (-1) else -1) else N (130 + (10 * h + k)) := by
    intro m
    induction m with
    | zero => intro _; rw [if_neg (by omega)]; exact dp0_ne (by omega)
    | succ m ih =>
      intro hm
      rw [fo_s, inner _ m 10 (Nat.le_refl _), ih (by omega)]
      by_cases e : h = m
      · rw [if_pos ⟨e, hk⟩, if_neg (by omega), if_pos (by omega)]
      · rw [if_neg (fun q => e q.1)]
        by_cases e2 : h < m
        · rw [if_pos e2, if_pos (by omega)]
        · rw [if_neg e2, if_neg (by omega)]
  exact key n (Nat.le_refl _)
theorem tb_dpr {N : Nat → Int32} {n ch h k c : Nat} {S : Int32} (hn : n ≤ 6) (hk : k < 10) (h4 : ch < 4) (hc : c < 4) (hS : inN n S) : tb (dpr N n S ch (130 + (10 * h + k))) c = if c = ch ∧ tb S h = true then false else tb (N (130 + (10 * h + k))) c := by
  rw [dpr_130 hn hk]
  cases hb : tb S h
  · have e : ¬ (c = ch ∧ false = true) := fun q => by cases q.2
    rw [if_neg e]
    split
    · rw [cond_false, tb_and, tb_m1 _ (by omega), Bool.and_true]
    · rfl
  · rw [if_pos (hS h hb), cond_true, tb_and, tb_not _ (by omega), tb_bt (by omega)]
    by_cases e : c = ch
    · rw [if_pos ⟨e, rfl⟩, decide_eq_true e, Bool.not_true, Bool.and_false]
    · rw [if_neg (fun q => e q.1), decide_eq_false e, Bool.not_false, Bool.and_true]
/-- what the sharing of channels keeps, after the first m -/
def PB (n q a b : Nat) (L U M : Nat → Int32) (m : Nat) (T : av_T4) (N : Nat → Int32) : Prop := (T.1 0 = nI n ∧ N 0 = nI n) ∧ (T.1 1 = nI q ∧ N 1 = nI q) ∧ (N 2 = T.1 2 ∧ N 3 = T.1 3) ∧ okN N L ∧ okU U N n ∧ RJ M T.2.1 U N ∧ RCe (eN m (net L a ||| net L b) L) M T.2.2.1 T.2.2.2 N n
theorem RJ_congr {M O U N N' : Nat → Int32} (h : RJ M O U N) (e : ∀ i, 70 ≤ i → i < 190 → N' i = N i) : RJ M O U N' := by
  obtain ⟨j1, j2, j3, j4, j5, j6, j7, j8⟩ := h
  exact ⟨okM_congr j1 (fun i h1 h2 => e i (by omega) (by omega)), okM_congr j2 (fun i h1 h2 => e i (by omega) (by omega)), j3, j4, loJ_congr j5 (fun i h1 h2 => e i (by omega) (by omega)), loJ_congr j6 (fun i h1 h2 => e i (by omega) (by omega)), j7, j8⟩
/-- one side has no such channel -/
theorem PB_take {n q a b o y m : Nat} {L U M : Nat → Int32} {T : av_T4} {N : Nat → Int32} (hL : okL L n) (hn : n ≤ 6) (ha : a < n) (hb : b < n) (hm : m < 4) (hon : o < n) (hyn : y < n) (hoy : ∀ s, tb (net L a ||| net L b) s = (tb (net L y) s || tb (net L o) s)) (hne : ¬ un M (net L o) m = 0) (h : PB n q a b L U M m T N) : PB n q a b L U M (m + 1) (tc4 T (net L y) o m) (msc N n (net L a ||| net L b) m (N (190 + 4 * o + m)) (N (214 + 4 * o + m))) := by
  obtain ⟨⟨z0, n0⟩, ⟨z1, n1⟩, ⟨z2, z3⟩, hNL, hU, hJ, hC⟩ := h
  exact ⟨⟨z0, (msc_lo (by omega)).trans n0⟩, ⟨z1, (msc_lo (by omega)).trans n1⟩, ⟨(msc_lo (by omega)).trans z2, (msc_lo (by omega)).trans z3⟩, okN_congr hNL (fun i _ h => msc_lo (by omega)), okU_hi hU (fun i _ h => msc_lo (by omega)), RJ_congr hJ (fun i _ h => msc_lo h), RCe_take hL hn ha hb hm hon hyn hoy hne hC (fun i _ => rfl)⟩
/-- both have it, and the older one takes the other's away -/
theorem PB_over {n q a b o y m : Nat} {L U M : Nat → Int32} {T : av_T4} {N : Nat → Int32} (hL : okL L n) (hn : n ≤ 6) (ha : a < n) (hb : b < n) (hm : m < 4) (hon : o < n) (hyn : y < n) (hoy : ∀ s, tb (net L a ||| net L b) s = (tb (net L y) s || tb (net L o) s)) (hne : ¬ un M (net L o) m = 0) (hney : ¬ un M (net L y) m = 0) (h : PB n q a b L U M m T N) : PB n q a b L U M (m + 1) (ov4 L M T o y m) (drp (dpr (msc N n (net L a ||| net L b) m (N (190 + 4 * o + m)) (N (214 + 4 * o + m))) n (net L y) m) (N (214 + 4 * y + m))) := by
  obtain ⟨⟨z0, n0⟩, ⟨z1, n1⟩, ⟨z2, z3⟩, hNL, hU, hJ, hC⟩ := h
  obtain ⟨-, y2, y3, -⟩ := hC y m hyn hm (by rw [eN_self]; exact hney)
  have hJ1 : RJ M T.2.1 U (msc N n (net L a ||| net L b) m (N (190 + 4 * o + m)) (N (214 + 4 * o + m))) := RJ_congr hJ (fun i _ h => msc_lo h)
  have hSn : inN n (net L y) := net_in hL hn hyn
  have elo : ∀ i, i < 130 → i ≠ 2 → i ≠ 3 → drp (dpr (msc N n (net L a ||| net L b) m (N (190 + 4 * o + m)) (N (214 + 4 * o + m))) n (net L y) m) (N (214 + 4 * y + m)) i = N i := fun i h1 h2 h3 => by
    rw [drp_ne h3, dpr_lo h1 h2]; exact msc_lo (by omega)
  obtain ⟨j1, j2, j3, j4, j5, j6, j7, j8⟩ := id hJ1
  have htb : ∀ s c k, s < 6 → c < 4 → k < 32 → tb (so M T.2.1 (net L y) m (nI 0) (s * 4 + c)) k = if c = m ∧ tb (net L y) s = true then false else tb (T.2.1 (s * 4 + c)) k := by
    intro s c k hs hc hk
    rw [so_at hm hc hs]
    split
    · rw [tb_and, show nI 0 = 0 from rfl, tb_0, Bool.and_false]
    · rfl
  refine ⟨⟨z0, (elo 0 (by omega) (by omega) (by omega)).trans n0⟩, ⟨z1, (elo 1 (by omega) (by omega) (by omega)).trans n1⟩, ⟨?_, ?_⟩, okN_congr hNL (fun i _ h => elo i (by omega) (by omega) (by omega)), okU_hi hU (fun i _ h => elo i (by omega) (by omega) (by omega)), ⟨okM_congr hJ.1 (fun i _ h => elo i (by omega) (by omega) (by omega)), fun s k c hs hk hc => ?_, hJ.2.2.1, fun s c hs hc => ?_, loJ_congr hJ.2.2.2.2.1 (fun i _ h => elo i (by omega) (by omega) (by omega)), fun s k hs hk => ?_, j7, fun s k c hs hk hc hq => ?_⟩, RCe_take hL hn ha hb hm hon hyn hoy hne hC (fun i hi => ?_)⟩
  · rw [drp_ne (by decide)]
    show dpr _ n (net L y) m 2 = T.1 2 + jbc (un T.2.1 (net L y) m)
    rw [show dpr (msc N n (net L a ||| net L b) m (N (190 + 4 * o + m)) (N (214 + 4 * o + m))) n (net L y) m 2 = dp0 (msc N n (net L a ||| net L b) m (N (190 + 4 * o + m)) (N (214 + 4 * o + m))) n (net L y) m 2 from dpk_lo n (by omega)]
    unfold dp0
    rw [upd_eq, msc_lo (by omega), z2, mj_un j2 j4 hn hm hSn, jbc_lo (lo_un j4 hm)]
  · unfold drp
    rw [upd_eq, dpr_lo (by omega) (by omega), msc_lo (by omega), z3, ← y2]
    show _ = T.1 3 + jbc (T.2.2.2 (y * 4 + m))
    rw [jbc_lo y3]
  · rw [drp_ne (by omega), tb_dpr hn hk hm hc hSn]
    show tb (so M T.2.1 (net L y) m (nI 0) (s * 4 + c)) k = _
    rw [htb s c k hs hc (by omega), j2 s k c hs hk hc]
  · show lo 10 (so M T.2.1 (net L y) m (nI 0) (s * 4 + c))
    rw [so_at hm hc hs]
    split
    · exact lo_and (hJ.2.2.1 s m hs hm)
    · exact j4 s c hs hc
  · rw [drp_ne (by omega), dpr_130 hn hk]
    split
    · exact lo_and (j6 s k hs hk)
    · exact j6 s k hs hk
  · have hq : tb (so M T.2.1 (net L y) m (nI 0) (s * 4 + c)) k = true := hq
    rw [htb s c k hs hc (by omega)] at hq
    split at hq
    · cases hq
    · exact j8 s k c hs hk hc hq
  · rw [drp_ne (by omega), dpr_hi hn hi]
/-- both have it, of the same age -/
theorem PB_both {n q a b m : Nat} {L U M : Nat → Int32} {T : av_T4} {N : Nat → Int32} (hL : okL L n) (hn : n ≤ 6) (ha : a < n) (hb : b < n) (hm : m < 4) (hna : ¬ un M (net L a) m = 0) (hnb : ¬ un M (net L b) m = 0) (h : PB n q a b L U M m T N) : PB n q a b L U M (m + 1) (T.1, T.2.1, ds (ds T.2.2.1 (net L a) m (T.2.2.1 (a * 4 + m))) (net L b) m (T.2.2.1 (a * 4 + m)), ds (ds T.2.2.2 (net L a) m (T.2.2.2 (a * 4 + m) ||| T.2.2.2 (b * 4 + m))) (net L b) m (T.2.2.2 (a * 4 + m) ||| T.2.2.2 (b * 4 + m))) (msc N n (net L a ||| net L b) m (N (190 + 4 * a + m)) (N (214 + 4 * a + m) ||| N (214 + 4 * b + m))) := by
  obtain ⟨⟨z0, n0⟩, ⟨z1, n1⟩, ⟨z2, z3⟩, hNL, hU, hJ, hC⟩ := h
  obtain ⟨a1, a2, a3, -⟩ := hC a m ha hm (by rw [eN_self]; exact hna)
  obtain ⟨b1, b2, b3, -⟩ := hC b m hb hm (by rw [eN_self]; exact hnb)
  refine ⟨⟨z0, (msc_lo (by omega)).trans n0⟩, ⟨z1, (msc_lo (by omega)).trans n1⟩, ⟨(msc_lo (by omega)).trans z2, (msc_lo (by omega)).trans z3⟩, okN_congr hNL (fun i _ h => msc_lo (by omega)), okU_hi hU (fun i _ h => msc_lo (by omega)), RJ_congr hJ (fun i _ h => msc_lo h), RCe_step hL hn ha hb hC (fun s c hs hc g => ?_) (Or.inr ⟨T.2.2.1 (a * 4 + m), T.2.2.2 (a * 4 + m) ||| T.2.2.2 (b * 4 + m), lo_or a3 b3, fun s hs hq => ?_⟩)⟩
  · obtain ⟨m1, m2⟩ := msc_at (N := N) (n := n) (S := net L a ||| net L b) (v := N (190 + 4 * a + m)) (w := N (214 + 4 * a + m) ||| N (214 + 4 * b + m)) (ch := m) (t := s) (c := c) hn hm hc hs
    have ga : ¬ (c = m ∧ tb (net L a) s = true) := fun q => g ⟨q.1, by rw [tb_or, q.2, Bool.true_or]⟩
    have gb : ¬ (c = m ∧ tb (net L b) s = true) := fun q => g ⟨q.1, by rw [tb_or, q.2, Bool.or_true]⟩
    rw [m1, m2, if_neg (fun q => g q.2), if_neg (fun q => g q.2)]
    dsimp only
    rw [ds_at hm hc hs, ds_at hm hc hs, ds_at hm hc hs, ds_at hm hc hs, if_neg gb, if_neg gb, if_neg ga, if_neg ga]
    exact ⟨⟨rfl, rfl⟩, rfl, rfl⟩
  · obtain ⟨m1, m2⟩ := msc_at (N := N) (n := n) (S := net L a ||| net L b) (v := N (190 + 4 * a + m)) (w := N (214 + 4 * a + m) ||| N (214 + 4 * b + m)) (ch := m) (t := s) (c := m) hn hm hm (by omega)
    rw [m1, m2, if_pos ⟨hs, rfl, hq⟩, if_pos ⟨hs, rfl, hq⟩, a1, a2, b2]
    dsimp only
    rw [ds_at hm hm (by omega), ds_at hm hm (by omega), ds_at hm hm (by omega), ds_at hm hm (by omega)]
    by_cases gb : tb (net L b) s = true
    · rw [if_pos ⟨rfl, gb⟩, if_pos ⟨rfl, gb⟩]; exact ⟨rfl, rfl, rfl, rfl⟩
    · rw [tb_or, Bool.or_eq_true] at hq
      have ga := hq.resolve_right gb
      have gb2 : ¬ (m = m ∧ tb (net L b) s = true) := fun q => gb q.2
      have ga2 : m = m ∧ tb (net L a) s = true := ⟨rfl, ga⟩
      rw [if_neg gb2, if_neg gb2, if_pos ga2, if_pos ga2]; exact ⟨rfl, rfl, rfl, rfl⟩
theorem PB_none {n q a b m : Nat} {L U M : Nat → Int32} {T : av_T4} {N : Nat → Int32} (hL : okL L n) (hn : n ≤ 6) (ha : a < n) (hb : b < n) (hm : m < 4) (hl : loM M) (hna : un M (net L a) m = 0) (hnb : un M (net L b) m = 0) (h : PB n q a b L U M m T N) : PB n q a b L U M (m + 1) T N := by
  obtain ⟨z0, z1, z2, hNL, hU, hJ, hC⟩ := h
  refine ⟨z0, z1, z2, hNL, hU, hJ, RCe_step hL hn ha hb hC (fun s c hs hc g => ⟨⟨rfl, rfl⟩, rfl, rfl⟩) (Or.inl ?_)⟩
  apply lo_ext (lo_un hl hm) (lo_0 (n := 10))
  intro i hi
  cases e : tb (un M (net L a ||| net L b) m) i
  · exact (tb_0 i).symm
  · obtain ⟨s, h1, h2, h3⟩ := tb_un.mp e
    rw [tb_or, Bool.or_eq_true] at h2
    rcases h2 with g | g
    · have := tb_un.mpr ⟨s, h1, g, h3⟩
      rw [hna, tb_0] at this; cases this
    · have := tb_un.mpr ⟨s, h1, g, h3⟩
      rw [hnb, tb_0] at this; cases this
theorem PB_step {n q a b m : Nat} {L U M : Nat → Int32} {T : av_T4} {N : Nat → Int32} (hL : okL L n) (hn : n ≤ 6) (ha : a < n) (hb : b < n) (hm : m < 4) (h : PB n q a b L U M m T N) : PB n q a b L U M (m + 1) (sh4F L M a b m T) (mmc N n a b m) := by
  obtain ⟨z0, z1, z2, hNL, hU, hJ, hC⟩ := id h
  have ea : mnet N n a = net L a := mnet_eq hL hn hNL (by omega)
  have eb : mnet N n b = net L b := mnet_eq hL hn hNL (by omega)
  have ma : mni (mj N 70 m) n (net L a) = un M (net L a) m := mj_un hJ.1 hJ.2.2.1 hn hm (net_in hL hn ha)
  have mb : mni (mj N 70 m) n (net L b) = un M (net L b) m := mj_un hJ.1 hJ.2.2.1 hn hm (net_in hL hn hb)
  have o1 : ∀ s, tb (net L a ||| net L b) s = (tb (net L b) s || tb (net L a) s) := fun s => by rw [tb_or, Bool.or_comm]
  have o2 : ∀ s, tb (net L a ||| net L b) s = (tb (net L a) s || tb (net L b) s) := fun s => tb_or _ _ _
  unfold sh4F mmc hc
  dsimp only
  rw [ea, eb, ma, mb]
  by_cases ga : un M (net L a) m = 0
  · rw [if_pos ga, decide_eq_false (fun q => q ga), cond_false]
    by_cases gb : un M (net L b) m = 0
    · rw [if_pos gb, decide_eq_false (fun q => q gb), cond_false]
      exact PB_none hL hn ha hb hm hJ.2.2.1 ga gb h
    · rw [if_neg gb, decide_eq_true gb, cond_true]
      exact PB_take hL hn ha hb hm hb ha o2 gb h
  · rw [if_neg ga, decide_eq_true ga, cond_true]
    by_cases gb : un M (net L b) m = 0
    · rw [if_pos gb, decide_eq_false (fun q => q gb), cond_false]
      exact PB_take hL hn ha hb hm ha hb o1 ga h
    · rw [if_neg gb, decide_eq_true gb, cond_true]
      obtain ⟨a1, -⟩ := hC a m ha hm (by rw [eN_self]; exact ga)
      obtain ⟨b1, -⟩ := hC b m hb hm (by rw [eN_self]; exact gb)
      unfold uc4
      rw [← a1, ← b1]
      by_cases e1 : T.2.2.1 (b * 4 + m) ≤ T.2.2.1 (a * 4 + m)
      · rw [if_pos e1]
        by_cases e2 : T.2.2.1 (a * 4 + m) ≤ T.2.2.1 (b * 4 + m)
        · rw [if_pos e2, if_pos (Int32.le_antisymm e2 e1), a1]
          exact (a1 ▸ PB_both hL hn ha hb hm ga gb h)
        · rw [if_neg e2, if_neg (fun q => e2 (by rw [q]; exact Int32.le_refl _)), if_pos e1, b1]
          exact PB_over hL hn ha hb hm hb ha o2 gb ga h
      · rw [if_neg e1, if_neg (fun q => e1 (by rw [q]; exact Int32.le_refl _)), if_neg e1, a1]
        exact PB_over hL hn ha hb hm ha hb o1 ga gb h
theorem PB_all {n q a b : Nat} {L U M O C D Z N : Nat → Int32} (hL : okL L n) (hn : n ≤ 6) (ha : a < n) (hb : b < n) (h : PB n q a b L U M 0 (upd (upd Z 2 (nI 0)) 3 (nI 0), O, C, D) N) : PB n q a b L U M 4 (sh4 L M a b (Z, O, C, D)) (fo 4 (fun ch N => mmc N n a b ch) N) := by
  have key : ∀ m, m ≤ 4 → PB n q a b L U M m (fo m (fun ch T => sh4F L M a b ch T) (upd (upd Z 2 (nI 0)) 3 (nI 0), O, C, D)) (fo m (fun ch N => mmc N n a b ch) N) := by
    intro m
    induction m with
    | zero => intro _; exact h
    | succ m ih => intro hm; exact PB_step hL hn ha hb (by omega) (ih (by omega))
  exact key 4 (Nat.le_refl _)
