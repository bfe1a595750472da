/-! ===== plans: both begin with the same networks, and end with the same answer ===== -/
theorem ldR_at {U G : Nat → Int32} {S : Int32} {w i : Nat} : ldR U S w G i = if w * 10 ≤ i ∧ i < w * 10 + 10 then tn U S (i - w * 10) else G i := by
  have key : ∀ m, m ≤ 10 → fo m (fun n G => upd G (w * 10 + n) (tn U S n)) G i = if w * 10 ≤ i ∧ i < w * 10 + m then tn U S (i - w * 10) else G i := by
    intro m
    induction m with
    | zero => intro _; rw [if_neg (by omega)]; rfl
    | succ m ih =>
      intro hm
      rw [fo_s]
      by_cases e : i = w * 10 + m
      · rw [e, upd_eq, if_pos (by omega)]
        congr 1; omega
      · rw [upd_ne e, ih (by omega)]
        by_cases h : w * 10 ≤ i ∧ i < w * 10 + m
        · rw [if_pos h, if_pos (by omega)]
        · rw [if_neg h, if_neg (by omega)]
  exact key 10 (Nat.le_refl _)
def gOf (U : Nat → Int32) (S : Int32) : av_gr := fun k => if tn U S k = -1 then none else some (tn U S k).toInt.toNat
theorem gOf_at {U N : Nat → Int32} {n k : Nat} {S : Int32} (h : okU U N n) (hn : n ≤ 6) (hk : k < 10) (hu : uniq U S k) : tn U S k = encC (gOf U S k) ∧ mtn N n S k = encR (gOf U S k) ∧ (∀ t, gOf U S k = some t → t ≤ 9999) ∧ (gOf U S k).isSome = (hm U S k).isSome := by
  have hh : (hm U S k = none → tn U S k = -1) ∧ ∀ j, hm U S k = some j → ¬ tn U S k = -1 := by
    refine ⟨fun q => by unfold tn; rw [q], fun j q => ?_⟩
    have hj := hm_some q
    obtain ⟨-, t, ht, e1, -⟩ := us_lt h hj.1 hk hj.2.2
    have e2 : tn U S k = nI t := by unfold tn; rw [q]; exact e1
    rw [e2]; exact nI_neg (by omega) (by decide)
  have h4 : (gOf U S k).isSome = (hm U S k).isSome := by
    unfold gOf
    cases q : hm U S k with
    | none => rw [if_pos (hh.1 q)]
    | some j => rw [if_neg (hh.2 j q)]; rfl
  refine ⟨?_, ?_, ?_, h4⟩
  all_goals (
    rcases tn_mtn h hn hk hu with ⟨e1, e2⟩ | ⟨t, ht, e1, e2⟩
    · have e3 : gOf U S k = none := if_pos e1
      rw [e3]
      first | exact e1 | exact e2 | (intro t q; cases q)
    · have e3 : gOf U S k = some t := by
        unfold gOf
        rw [if_neg (by rw [e1]; exact nI_neg (by omega) (by decide)), e1, nI_toInt (by omega)]; rfl
      rw [e3]
      first | exact e1 | exact e2 | (intro u q; injection q with q; omega))
theorem szG_gOf {U N : Nat → Int32} {n : Nat} {S : Int32} (h : okU U N n) (hn : n ≤ 6) (hu : ∀ k, k < 10 → uniq U S k) : szG (gOf U S) = cu U S := by
  rw [cu_cb hu, cb_sm]
  unfold szG
  apply sm_congr
  intro k hk
  rw [(gOf_at h hn hk (hu k hk)).2.2.2, tb_nk hk]
theorem sL_app (l : List av_gr) (g : av_gr) : sL (l ++ [g]) = sL l + szG g := by
  induction l with
  | nil => exact Nat.add_comm _ _
  | cons x l ih => show szG x + sL (l ++ [g]) = szG x + sL l + szG g; rw [ih]; omega
theorem cu_or {U : Nat → Int32} {A B : Int32} (h : ∀ i, tb A i = true → tb B i = true → False) : cu U (A ||| B) = cu U A + cu U B := by
  rw [cu_sm, cu_sm, cu_sm, ← sm_add]
  apply sm_congr
  intro s _
  rw [← sm_add]
  apply sm_congr
  intro k _
  rw [tb_or]
  cases ha : tb A s
  · rw [Bool.false_or, Bool.false_and]; exact (Nat.zero_add _).symm
  · cases hb : tb B s
    · rw [Bool.or_false, Bool.false_and]; rfl
    · exact (h s ha hb).elim
def LR (n k : Nat) (L U : Nat → Int32) (A : av_L4) (B : av_R4) : Prop := A.1 = B.1 ∧ A.2.1 = B.2.1 ∧ A.1 ≤ k ∧ (∀ w, w < A.1 → A.2.2.2 w = B.2.2.2 w) ∧ (∀ s t, s < 6 → tb A.2.1 s = true → tb (net L s) t = true → tb A.2.1 t = true) ∧ (∀ s, s < k → tb A.2.1 s = true) ∧ (A.1 = 0 → ∀ s, tb A.2.1 s = false) ∧ ∃ f, RG A.2.2.1 f A.1 ∧ RGr B.2.2.1 0 f A.1 ∧ okG f A.1 ∧ sL ((List.range A.1).map f) = cu U A.2.1
theorem LR_step {n k : Nat} {L U N : Nat → Int32} {A : av_L4} {B : av_R4} (hn : n ≤ 6) (hk : k < n) (hL : okL L n) (hNL : okN N L) (hU : okU U N n) (hX : okX L U) (h : LR n k L U A B) : LR n (k + 1) L U (ldF (nI n) L U k A) (rdF N n k B) := by
  obtain ⟨h1, h2, h3, h4, h5, h6, h7, f, f1, f2, f3, f4⟩ := h
  have hsv : sv (nI n) (nI k) = true := sv_nI (by omega) hk
  unfold ldF rdF
  rw [hsv, ← h2, Bool.true_and]
  cases hb : tb A.2.1 k with
  | true =>
    rw [Bool.not_true, cond_false, cond_true]
    refine ⟨h1, h2, by omega, h4, h5, fun s hs => ?_, h7, f, f1, f2, f3, f4⟩
    by_cases e : s = k
    · rw [e]; exact hb
    · exact h6 s (by omega)
  | false =>
    rw [Bool.not_false, cond_true, cond_false, mnet_eq hL hn hNL (by omega), ← h1]
    have hu : ∀ i, i < 10 → uniq U (net L k) i := fun i hi => net_uniq hL hn hX (by omega) hi
    refine ⟨rfl, rfl, Nat.succ_le_succ h3, fun w hw => ?_, fun s t hs q1 q2 => ?_, fun s hs => ?_, fun q => absurd q (Nat.succ_ne_zero _), fun w => if w = A.1 then gOf U (net L k) else f w, fun w i hw hi => ?_, fun w i hw hi => ?_, fun w i t hw hi => ?_, ?_⟩
    · have hw : w < A.1 + 1 := hw
      show upd A.2.2.2 A.1 (nI k) w = upd B.2.2.2 A.1 (nI k) w
      by_cases e : w = A.1
      · rw [e, upd_eq, upd_eq]
      · rw [upd_ne e, upd_ne e]; exact h4 w (by omega)
    · have q1 : tb (A.2.1 ||| net L k) s = true := q1
      show tb (A.2.1 ||| net L k) t = true
      rw [tb_or, Bool.or_eq_true] at q1 ⊢
      rcases q1 with q | q
      · exact Or.inl (h5 s t hs q q2)
      · exact Or.inr (net_trans hL hn (by omega) hs q q2)
    · show tb (A.2.1 ||| net L k) s = true
      rw [tb_or]
      by_cases e : s = k
      · rw [e, net_self (by omega), Bool.or_true]
      · rw [h6 s (by omega), Bool.true_or]
    · have hw : w < A.1 + 1 := hw
      show ldR U (net L k) A.1 A.2.2.1 (w * 10 + i) = encC ((if w = A.1 then gOf U (net L k) else f w) i)
      rw [ldR_at]
      by_cases e : w = A.1
      · rw [if_pos (by omega), if_pos e, e, show A.1 * 10 + i - A.1 * 10 = i by omega]
        exact (gOf_at hU hn hi (hu i hi)).1
      · rw [if_neg (by omega), if_neg e]; exact f1 w i (by omega) hi
    · have hw : w < A.1 + 1 := hw
      show rgp N n A.1 (net L k) B.2.2.1 (60 * 0 + 10 * w + i) = encR ((if w = A.1 then gOf U (net L k) else f w) i)
      rw [rgp_at]
      by_cases e : w = A.1
      · rw [if_pos (by omega), if_pos e, e, show 60 * 0 + 10 * A.1 + i - 10 * A.1 = i by omega]
        exact (gOf_at hU hn hi (hu i hi)).2.1
      · rw [if_neg (by omega), if_neg e]; exact f2 w i (by omega) hi
    · have hw : w < A.1 + 1 := hw
      show (if w = A.1 then gOf U (net L k) else f w) i = some t → t ≤ 9999
      by_cases e : w = A.1
      · rw [if_pos e]; exact (gOf_at hU hn hi (hu i hi)).2.2.1 t
      · rw [if_neg e]; exact f3 w i t (by omega) hi
    · show sL ((List.range (A.1 + 1)).map (fun w => if w = A.1 then gOf U (net L k) else f w)) = cu U (A.2.1 ||| net L k)
      have hdis : ∀ i, tb A.2.1 i = true → tb (net L k) i = true → False := by
        intro i q1 q2
        have hi : i < n := net_lt hL hk hn q2
        have := h5 i k (by omega) q1 (net_sym hL hn (by omega) q2)
        rw [hb] at this; cases this
      rw [List.range_succ, List.map_append, List.map_cons, List.map_nil, sL_app, if_pos rfl, cu_or hdis, ← f4, szG_gOf hU hn hu]
      congr 2
      apply List.map_congr_left
      intro w hw
      exact if_neg (by have := List.mem_range.mp hw; omega)
theorem LR_all {n : Nat} {L U N G P G' P' : Nat → Int32} (hn : n ≤ 6) (hL : okL L n) (hNL : okN N L) (hU : okU U N n) (hX : okX L U) : LR n n L U (ld (nI n) L U G P 6) (rd N n G' P' n) := by
  have key : ∀ k, k ≤ n → LR n k L U (ld (nI n) L U G P k) (rd N n G' P' k) := by
    intro k
    induction k with
    | zero =>
      intro _
      refine ⟨rfl, rfl, Nat.le_refl _, fun w h => absurd h (Nat.not_lt_zero _), fun s t _ h => ?_, fun s h => absurd h (Nat.not_lt_zero _), fun _ s => tb_0 s, fun _ _ => none, fun w k h => absurd h (Nat.not_lt_zero _), fun w k h => absurd h (Nat.not_lt_zero _), fun w k t h => absurd h (Nat.not_lt_zero _), ?_⟩
      · rw [show (ld (nI n) L U G P 0).2.1 = 0 from rfl, tb_0] at h; cases h
      · show 0 = cu U 0
        rw [cu_sm, sm_0]
        intro s _
        apply sm_0
        intro i _
        rw [tb_0]; rfl
    | succ k ih => intro hk; exact LR_step hn (by omega) hL hNL hU hX (ih (by omega))
  have ext : ∀ m, n ≤ m → m ≤ 6 → ld (nI n) L U G P m = ld (nI n) L U G P n := by
    intro m
    induction m with
    | zero => intro h _; rw [show n = 0 by omega]
    | succ m ih =>
      intro h1 h2
      by_cases e : n = m + 1
      · rw [e]
      · rw [← ih (by omega) (by omega)]
        show ldF (nI n) L U m (ld (nI n) L U G P m) = _
        have : sv (nI n) (nI m) = false := by
          unfold sv
          apply decide_eq_false
          intro q
          exact q.2 ((nI_leI (by omega) (by omega)).mpr (by omega))
        unfold ldF
        rw [this, Bool.false_and, cond_false]
  rw [ext 6 hn (Nat.le_refl _)]
  exact key n (Nat.le_refl _)
theorem cu_seen {n : Nat} {U N : Nat → Int32} {S : Int32} (hU : okU U N n) (hn : n ≤ 6) (h : ∀ s, s < n → tb S s = true) : cu U S = cu U (nI 63) := by
  rw [cu_sm, cu_sm]
  apply sm_congr
  intro s hs
  apply sm_congr
  intro k hk
  have h63 : ∀ s, s < 6 → tb (nI 63) s = true := by decide
  rw [h63 s hs]
  by_cases e : s < n
  · rw [h s e]
  · cases hu : us U s k
    · rw [Bool.and_false, Bool.and_false]
    · exact absurd (us_lt hU hs hk hu).1 e
theorem cu_60 (U : Nat → Int32) (S : Int32) : cu U S ≤ 60 := by
  rw [cu_sm]
  have : sm 6 (fun s => sm 10 (fun k => bN (tb S s && us U s k))) ≤ sm 6 (fun _ => 10) := sm_le (fun s _ => sm_one_le (fun k _ => bN_le _))
  exact this
theorem itr_pres {β : Type} {φ : av_S → β} {B : Nat → Nat → av_S → av_S} {v w : Nat} (hB : ∀ p q s, φ (B p q s) = φ s) (h1 : ∀ s v p q w, φ (nps s v p q w) = φ s) : ∀ f p q s, φ (itr B v w f p q s) = φ s
  | 0, _, _, _ => rfl
  | f + 1, p, q, s => by
    unfold itr
    split
    · rw [itr_pres hB h1 f, hB, h1]
    · exact h1 _ _ _ _ _
theorem dfs_pres {β : Type} {φ : av_S → β} (h1 : ∀ s v p q w, φ (nps s v p q w) = φ s) (h2 : ∀ s v p q w K, φ (dsc s v p q w K) = φ s) (h3 : ∀ s K p q, φ (upb s K p q) = φ s) : ∀ w v K p0 q0 s, φ (dfs w v K p0 q0 s) = φ s
  | 0, _, _, _, _, _ => rfl
  | w + 1, v, K, p0, q0, s => by
    unfold dfs
    refine itr_pres (fun p q t => ?_) h1 60 0 0 s
    unfold dfsB
    split
    · rw [h3, h2]
    · rw [dfs_pres h1 h2 h3 w, h2]
theorem spS_other {σ : av_S} {c k : Nat} (h : k < 77 ∨ 77 < k ∧ k < 81) : spS σ c k = σ k := by
  have h0 : sp0 σ c k = σ k := by
    unfold sp0
    rw [av_set_ne _ _ (by omega), av_set_ne _ _ (by omega), av_set_ne _ _ (by omega), av_set_ne _ _ (by omega), av_set_ne _ _ (by omega), av_set_ne _ _ (by omega)]
  unfold spS
  split
  · rw [dfs_pres (φ := fun s : av_S => s k) (fun s v p q w => ?_) (fun s v p q w K => ?_) (fun s K p q => ?_)]
    · exact h0
    · show nps s v p q w k = s k
      unfold nps; rw [av_set_ne _ _ (by omega), av_set_ne _ _ (by omega)]
    · show dsc s v p q w K k = s k
      unfold dsc; rw [av_set_ne _ _ (by omega), av_set_ne _ _ (by omega), av_set_ne _ _ (by omega), av_set_ne _ _ (by omega)]
    · exact upb_ne (by omega)
  · exact h0
theorem spS_77 {σ : av_S} {c i : Nat} (h1 : i ≠ 11) (h2 : i ≠ 12) : spS σ c 77 i = σ 77 i := by
  have h0 : sp0 σ c 77 i = σ 77 i := by
    show upd (upd (σ 77) 11 _) 12 _ i = _
    rw [upd_ne h2, upd_ne h1]
  unfold spS
  split
  · rw [dfs_pres (φ := fun s : av_S => s 77 i) (fun s v p q w => rfl) (fun s v p q w K => rfl) (fun s K p q => ?_)]
    · exact h0
    · show upb s K p q 77 i = s 77 i
      unfold upb
      split
      · rfl
      · show upd (upd (s 77) 11 _) 12 _ i = _
        rw [upd_ne h2, upd_ne h1]
  · exact h0
/-- both searches end alike -/
theorem plans_eq {σ τ : av_S} {n : Nat} (hn1 : 1 ≤ n) (hn6 : n ≤ 6) (hZ : σ 0 0 = nI n) (hL : okL (σ 1) n) (hNL : okN (σ 78) (σ 1)) (hU : okU (σ 2) (σ 78) n) (hX : okX (σ 1) (σ 2)) (e78 : τ 78 = σ 78) : spS τ n 77 11 = nI (cu (σ 2) (nI 63)) - fbS σ 68 4 ∧ spS τ n 77 12 = fbS σ 68 3 := by
  obtain ⟨h1, -, h3, h4, -, h6, h7, f, f1, f2, f3, f4⟩ := LR_all (G := σ 70) (P := σ 76) (G' := τ 81) (P' := τ 82) hn6 hL hNL hU hX
  have hT := cu_60 (σ 2) (nI 63)
  rw [cu_seen hU hn6 h6] at f4
  have hW1 : 1 ≤ (ld (nI n) (σ 1) (σ 2) (σ 70) (σ 76) 6).1 := by
    apply Nat.pos_of_ne_zero
    intro e
    have := h7 e 0
    rw [h6 0 (by omega)] at this; cases this
  have eF : fbS σ 68 = srch 6 0 (ld (nI n) (σ 1) (σ 2) (σ 70) (σ 76) 6).1 (fb0 σ) 68 := by
    rw [← hZ]; rfl
  have e70 : fb0 σ 70 = (ld (nI n) (σ 1) (σ 2) (σ 70) (σ 76) 6).2.2.1 := by rw [← hZ]; rfl
  have e76 : fb0 σ 76 = (ld (nI n) (σ 1) (σ 2) (σ 70) (σ 76) 6).2.2.2 := by rw [← hZ]; rfl
  have s81 : sp0 τ n 81 = (rd (σ 78) n (τ 81) (τ 82) n).2.2.1 := by rw [← e78]; rfl
  have s82 : sp0 τ n 82 = (rd (σ 78) n (τ 81) (τ 82) n).2.2.2 := by rw [← e78]; rfl
  have s77 : sp0 τ n 77 11 = nI (if (rd (σ 78) n (τ 81) (τ 82) n).1 = 1 then 0 else 1000) ∧ sp0 τ n 77 12 = -9 := by rw [← e78]; exact ⟨rfl, rfl⟩
  have eS : spS τ n = if 2 ≤ (rd (σ 78) n (τ 81) (τ 82) n).1 then dfs (rd (σ 78) n (τ 81) (τ 82) n).1 0 0 0 0 (sp0 τ n) else sp0 τ n := by rw [← e78]; rfl
  rw [eF, eS, ← h1]
  rw [← h1] at s77
  generalize hW : (ld (nI n) (σ 1) (σ 2) (σ 70) (σ 76) 6).1 = W at *
  rcases Nat.lt_or_ge W 2 with hlt | hge
  · have eW : W = 1 := by omega
    subst eW
    rw [if_neg (by omega)]
    rw [if_pos rfl] at s77
    have hch := chp_le (fb0 σ (70 + 0)) 1
    have hope : fb0 σ 68 4 < nI (chp (fb0 σ (70 + 0)) 1) := Int32.lt_of_lt_of_le (by show (-1 : Int32) < 0; decide) (Int32.not_lt.mp (nI_pos (by omega)))
    have es : srch 6 0 1 (fb0 σ) = av_set (fb0 σ) 68 (upd (upd (fb0 σ 68) 4 (nI (chp (fb0 σ (70 + 0)) 1))) 3 (fb0 σ 68 2)) := by
      show (if fb0 σ 68 4 < nI (chp (fb0 σ (70 + 0)) 1) then _ else _) = _
      rw [if_pos hope, if_pos (by omega)]
    rw [es]
    have hc1 : chp (fb0 σ (70 + 0)) 1 = szG (f 0) := by
      show chp (fb0 σ 70) 1 = _
      rw [e70]; exact chp_1 f1 f3
    have f4 : szG (f 0) + 0 = cu (σ 2) (nI 63) := f4
    refine ⟨?_, s77.2⟩
    rw [s77.1]
    show nI 0 = nI (cu (σ 2) (nI 63)) - nI (chp (fb0 σ (70 + 0)) 1)
    rw [hc1, pk_sub (by omega), show cu (σ 2) (nI 63) - szG (f 0) = 0 by omega]
  · rw [if_pos hge]
    rw [if_neg (by omega)] at s77
    obtain ⟨v, v1, v2, v3⟩ := srch_top (N := W) (s := fb0 σ) (f := f) hge (by omega) rfl (by rw [e70]; exact f1) f3
    obtain ⟨x, x1, x2, x3⟩ := dfs_top (T := cu (σ 2) (nI 63)) (W := W) (s := sp0 τ n) (f := f) hT hge (by omega) s77.1 (by rw [s81]; exact f2) f3 f4
    obtain ⟨u1, u2⟩ := Fin2_uniq (fun a b ha hb => by rw [e76, s82, h4 a ha, h4 b hb]) v3 x3
    refine ⟨?_, u2.symm⟩
    rw [x1, v1, ← u1, pk_sub (by omega)]
section Plans
variable {l : Launch} {σ : av_S}
theorem plans_inv {c : Nat} (hI : Inv σ) : Inv (spS (fbS σ) c) := by
  refine inv_congr (σ := σ) (fun k hk => ?_) ?_ ?_ hI
  · rw [spS_other (by omega)]
    unfold fbS
    by_cases h : k < 68
    · rw [if_pos h]
    · rw [if_neg h, if_neg (by omega), if_neg (by omega)]
  · rw [spS_77 (by omega) (by omega)]; rfl
  · rw [spS_77 (by omega) (by omega)]; rfl
theorem q_fewestKills (hI : Inv σ) : OpS l cX5_fewestKills 1 cX6_fewestKills 1 [] σ := by
  obtain ⟨n, q, ⟨hZ, hN, hn1, hn6⟩, -, -, hL, hNL, hU, hJ, hX, hC⟩ := id hI.1
  exact OpS.mk c_X5_fewestKills (c_X6_fewestKills (σ := fbS σ) n hN hn1 hn6) (plans_eq (τ := fbS σ) hn1 hn6 hZ hL hNL hU hX rfl).1 (plans_inv hI) (by decide) (by decide)
theorem q_bestFirstLink (hI : Inv σ) : OpS l cX5_bestFirstLink 1 cX6_bestFirstLink 1 [] σ := by
  obtain ⟨n, q, ⟨hZ, hN, hn1, hn6⟩, -, -, hL, hNL, hU, hJ, hX, hC⟩ := id hI.1
  exact OpS.mk c_X5_bestFirstLink (c_X6_bestFirstLink (σ := fbS σ) n hN hn1 hn6) (plans_eq (τ := fbS σ) hn1 hn6 hZ hL hNL hU hX rfl).2 (plans_inv hI) (by decide) (by decide)
end Plans
