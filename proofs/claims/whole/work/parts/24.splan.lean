/-! ===== the reference's search, level by level ===== -/
theorem nps_83 {s : av_S} {v p q w i : Nat} (h : i ≠ v) : nps s v p q w 83 i = s 83 i := upd_ne h
theorem nps_84 {s : av_S} {v p q w i : Nat} (h : i ≠ v) : nps s v p q w 84 i = s 84 i := upd_ne h
theorem nps_83v {s : av_S} {v p q w : Nat} : nps s v p q w 83 v = nI (npP p q w) := upd_eq
theorem nps_84v {s : av_S} {v p q w : Nat} : nps s v p q w 84 v = nI (npQ p q w) := upd_eq
theorem dsc_83 {s : av_S} {v p q w K i : Nat} (h : i ≠ v + 1) : dsc s v p q w K 83 i = s 83 i := upd_ne h
theorem dsc_84 {s : av_S} {v p q w K i : Nat} (h : i ≠ v + 1) : dsc s v p q w K 84 i = s 84 i := upd_ne h
theorem dsc_85 {s : av_S} {v p q w K i : Nat} (h : i ≠ v + 1) : dsc s v p q w K 85 i = s 85 i := upd_ne h
theorem upb_ne {s : av_S} {K p q c : Nat} (h : c ≠ 77) : upb s K p q c = s c := by
  unfold upb; split
  · rfl
  · exact av_set_ne _ _ h
/-- what a level leaves as it was: the pairs of the levels above, the kills up to itself -/
def lvK (v : Nat) (s t : av_S) : Prop := (∀ i, i < v → t 83 i = s 83 i ∧ t 84 i = s 84 i) ∧ ∀ i, i ≤ v → t 85 i = s 85 i
theorem lvK_itr {B : Nat → Nat → av_S → av_S} {v w : Nat} (hB : ∀ p q s, lvK v s (B p q s)) : ∀ f p q s, lvK v s (itr B v w f p q s)
  | 0, _, _, _ => ⟨fun _ _ => ⟨rfl, rfl⟩, fun _ _ => rfl⟩
  | f + 1, p, q, s => by
    have h0 : lvK v s (nps s v p q w) := ⟨fun i hi => ⟨nps_83 (by omega), nps_84 (by omega)⟩, fun _ _ => rfl⟩
    unfold itr
    split
    · have h1 := hB (npP p q w) (npQ p q w) (nps s v p q w)
      have h2 := lvK_itr (w := w) hB f (npP p q w) (npQ p q w) (B (npP p q w) (npQ p q w) (nps s v p q w))
      exact ⟨fun i hi => ⟨(h2.1 i hi).1.trans ((h1.1 i hi).1.trans (h0.1 i hi).1), (h2.1 i hi).2.trans ((h1.1 i hi).2.trans (h0.1 i hi).2)⟩, fun i hi => (h2.2 i hi).trans ((h1.2 i hi).trans (h0.2 i hi))⟩
    · exact h0
theorem lvK_dsc {s : av_S} {v p q w K : Nat} : (∀ i, i < v + 1 → dsc s v p q w K 83 i = s 83 i ∧ dsc s v p q w K 84 i = s 84 i) ∧ ∀ i, i ≤ v → dsc s v p q w K 85 i = s 85 i :=
  ⟨fun i hi => ⟨dsc_83 (by omega), dsc_84 (by omega)⟩, fun i hi => dsc_85 (by omega)⟩
/-- the body of a level: also its own pair stays -/
theorem dfsB_keep {R : Nat → Nat → Nat → av_S → av_S} {w v K p0 q0 p q : Nat} {s : av_S} (hR : ∀ K p q s, lvK (v + 1) s (R K p q s)) : (∀ i, i < v + 1 → dfsB R w v K p0 q0 p q s 83 i = s 83 i ∧ dfsB R w v K p0 q0 p q s 84 i = s 84 i) ∧ ∀ i, i ≤ v → dfsB R w v K p0 q0 p q s 85 i = s 85 i := by
  have hd := lvK_dsc (s := s) (v := v) (p := p) (q := q) (w := w) (K := K)
  unfold dfsB
  split
  · refine ⟨fun i hi => ?_, fun i hi => ?_⟩
    · rw [upb_ne (by decide), upb_ne (by decide)]; exact hd.1 i hi
    · rw [upb_ne (by decide)]; exact hd.2 i hi
  · have h := hR (K + dcK (s 81) v p q) (if v = 0 then p else p0) (if v = 0 then q else q0) (dsc s v p q w K)
    exact ⟨fun i hi => ⟨(h.1 i hi).1.trans (hd.1 i hi).1, (h.1 i hi).2.trans (hd.1 i hi).2⟩, fun i hi => (h.2 i (by omega)).trans (hd.2 i hi)⟩
theorem dfs_keep : ∀ (w v K p0 q0 : Nat) (s : av_S), lvK v s (dfs w v K p0 q0 s)
  | 0, _, _, _, _, _ => ⟨fun _ _ => ⟨rfl, rfl⟩, fun _ _ => rfl⟩
  | w + 1, v, K, p0, q0, s => by
    unfold dfs
    refine lvK_itr (fun p q t => ?_) 60 0 0 s
    have h := dfsB_keep (R := dfs w (v + 1)) (w := w + 1) (v := v) (K := K) (p0 := p0) (q0 := q0) (p := p) (q := q) (s := t) (fun K p q s => dfs_keep w (v + 1) K p q s)
    exact ⟨fun i hi => h.1 i (by omega), h.2⟩
theorem dcK_le (G : Nat → Int32) (v p q : Nat) : dcK G v p q ≤ 20 := by
  unfold dcK; have := mgg_le (dcG G v) (v + 1) p q 10; omega
section Sp
variable {l : Launch} {Q : Option Value → av_S → Prop}
/-- the loop's head at a level -/
def spH (l : Launch) (Q : Option Value → av_S → Prop) (W : Nat) (x : Int32) (s : av_S) : Prop := av_Ev l RX6 cX6_searchPlans 4 none av_E0 8 50 [(0, .ref 77), (1, .int (nI W)), (2, .int x)] [] s Q
/-- a pair, or none yet -/
def okp (w p q : Nat) : Prop := (p = 0 ∧ q = 0) ∨ (p < q ∧ q < w)
def npmu (p q : Nat) : Nat := (6 - p) * 7 + (6 - q)
theorem np_ok {w p q : Nat} (hw : 2 ≤ w) (hw6 : w ≤ 6) (h : okp w p q) (hx : npQ p q w < w) : okp w (npP p q w) (npQ p q w) ∧ npmu (npP p q w) (npQ p q w) < npmu p q ∧ npP p q w < 6 ∧ npP p q w < npQ p q w := by
  unfold npQ at hx
  unfold npQ npP npmu okp at *
  by_cases e : q + 1 = w
  · rw [if_pos e] at hx
    rw [if_pos e, if_pos e]
    omega
  · rw [if_neg e] at hx
    rw [if_neg e, if_neg e]
    omega
theorem sp_itr {W w v K p0 q0 : Nat} (hW : W ≤ 6) (hw : v + w = W) (hw2 : 2 ≤ w) (hK : K ≤ 20 * v) (R : Nat → Nat → Nat → av_S → av_S) (hR : ∀ K p q s, lvK (v + 1) s (R K p q s)) (hp0 : v ≠ 0 → p0 < 6 ∧ q0 < 6)
    (hdown : 2 < w → ∀ K' P Z s, K' ≤ 20 * (v + 1) → P < 6 → Z < 6 → s 83 (v + 1) = nI 0 → s 84 (v + 1) = nI 0 → s 85 (v + 1) = nI K' → s 83 0 = nI P → s 84 0 = nI Z → spH l Q W (nI v) (R K' P Z s) → spH l Q W (nI (v + 1)) s) :
    ∀ (f p q : Nat) (s : av_S), npmu p q < f → okp w p q → s 83 v = nI p → s 84 v = nI q → s 85 v = nI K → (v ≠ 0 → s 83 0 = nI p0 ∧ s 84 0 = nI q0) → spH l Q W (if v = 0 then -1 else nI (v - 1)) (itr (dfsB R w v K p0 q0) v w f p q s) → spH l Q W (nI v) s
  | 0, p, q, s, h, _, _, _, _, _, _ => absurd h (Nat.not_lt_zero _)
  | f + 1, p, q, s, hf, hok, hp, hq, hKs, h0, hk => by
    have hp5 : p ≤ 5 ∧ q ≤ 5 := by unfold okp at hok; omega
    unfold itr at hk
    by_cases hx : npQ p q w < w
    · rw [if_pos hx] at hk
      obtain ⟨g1, g2, g3, g4⟩ := np_ok hw2 (by omega) hok hx
      -- the pair of level 0 behind the step
      have hP : ∀ (i : Nat), i = 0 → nps s v p q w 83 i = nI (if v = 0 then npP p q w else p0) := by
        intro i hi
        by_cases e : v = 0
        · rw [if_pos e, hi, ← e]; exact nps_83v
        · rw [if_neg e, nps_83 (by omega), hi]; exact (h0 e).1
      have hZ : ∀ (i : Nat), i = 0 → nps s v p q w 84 i = nI (if v = 0 then npQ p q w else q0) := by
        intro i hi
        by_cases e : v = 0
        · rw [if_pos e, hi, ← e]; exact nps_84v
        · rw [if_neg e, nps_84 (by omega), hi]; exact (h0 e).2
      have hP6 : (if v = 0 then npP p q w else p0) < 6 := by
        by_cases e : v = 0
        · rw [if_pos e]; exact g3
        · rw [if_neg e]; exact (hp0 e).1
      have hZ6 : (if v = 0 then npQ p q w else q0) < 6 := by
        by_cases e : v = 0
        · rw [if_pos e]; omega
        · rw [if_neg e]; exact (hp0 e).2
      have hB := dfsB_keep (R := R) (w := w) (v := v) (K := K) (p0 := p0) (q0 := q0) (p := npP p q w) (q := npQ p q w) (s := nps s v p q w) hR
      have hbody : spH l Q W (nI v) (dfsB R w v K p0 q0 (npP p q w) (npQ p q w) (nps s v p q w)) := by
        refine sp_itr hW hw hw2 hK R hR hp0 hdown f (npP p q w) (npQ p q w) _ (by omega) g1 ?_ ?_ ?_ (fun e => ?_) hk
        · rw [(hB.1 v (by omega)).1]; exact nps_83v
        · rw [(hB.1 v (by omega)).2]; exact nps_84v
        · rw [hB.2 v (Nat.le_refl v)]; exact hKs
        · rw [(hB.1 0 (by omega)).1, (hB.1 0 (by omega)).2, nps_83 (by omega), nps_84 (by omega)]; exact h0 e
      unfold dfsB at hbody
      by_cases e2 : w = 2
      · rw [if_pos e2] at hbody
        exact sp_leaf W v w p q K _ _ hW hw hw2 hp hq (by omega) (by omega) hKs (by omega) hx g3 e2 ((dsc_83 (v := v) (s := nps s v p q w) (p := 0) (q := 0) (w := 0) (K := 0) (by omega)).trans (hP 0 rfl)) ((dsc_84 (v := v) (s := nps s v p q w) (p := 0) (q := 0) (w := 0) (K := 0) (by omega)).trans (hZ 0 rfl)) hP6 hZ6 hbody
      · rw [if_neg e2] at hbody
        refine sp_down W v w p q K hW hw hw2 hp hq (by omega) (by omega) hKs (by omega) hx g3 (by omega) ?_
        have hdk := dcK_le (nps s v p q w 81) v (npP p q w) (npQ p q w)
        refine hdown (by omega) (K + dcK (nps s v p q w 81) v (npP p q w) (npQ p q w)) _ _ _ (by omega) hP6 hZ6 upd_eq upd_eq upd_eq ?_ ?_ hbody
        · rw [dsc_83 (by omega)]; exact hP 0 rfl
        · rw [dsc_84 (by omega)]; exact hZ 0 rfl
    · rw [if_neg hx] at hk
      by_cases e : v = 0
      · subst e
        rw [if_pos rfl] at hk
        exact sp_end W w p q hW (by omega) hw2 hp hq (by omega) (by omega) hx hk
      · rw [if_neg e] at hk
        exact sp_up W v w p q hW hw hw2 hp hq (by omega) (by omega) hx (by omega) hk
theorem sp_dfs {W : Nat} (hW : W ≤ 6) : ∀ (w v K p0 q0 : Nat) (s : av_S), v + w = W → 2 ≤ w → K ≤ 20 * v → (v ≠ 0 → p0 < 6 ∧ q0 < 6) → s 83 v = nI 0 → s 84 v = nI 0 → s 85 v = nI K → (v ≠ 0 → s 83 0 = nI p0 ∧ s 84 0 = nI q0) → spH l Q W (if v = 0 then -1 else nI (v - 1)) (dfs w v K p0 q0 s) → spH l Q W (nI v) s
  | 0, _, _, _, _, _, _, h, _, _, _, _, _, _, _ => absurd h (by omega)
  | w + 1, v, K, p0, q0, s, hw, hw2, hK, hp0, hp, hq, hKs, h0, hk => by
    unfold dfs at hk
    refine sp_itr hW hw hw2 hK (dfs w (v + 1)) (fun K p q s => dfs_keep w (v + 1) K p q s) hp0 (fun h3 K' P Z t hK' hP hZ h1 h2 h4 h5 h6 hk' => ?_) 60 0 0 s (by decide) (Or.inl ⟨rfl, rfl⟩) hp hq hKs h0 hk
    refine sp_dfs hW w (v + 1) K' P Z t (by omega) (by omega) hK' (fun _ => ⟨hP, hZ⟩) h1 h2 h4 (fun _ => ⟨h5, h6⟩) ?_
    rw [if_neg (by omega), show v + 1 - 1 = v by omega]
    exact hk'
theorem sp_m1 {W : Nat} {s : av_S} (hQ : Q none s) : spH l Q W (-1) s := by
  show av_Ev l RX6 cX6_searchPlans 4 none av_E0 8 50 [(0, .ref 77), (1, .int (nI W)), (2, .int (-1))] [] s Q
  refine ev_iload_n dX6_searchPlans_50 rfl 2 rfl ?_
  refine ev_if_lt (tgt := 173) dX6_searchPlans_51 (by decide) (fun h => ?_) (fun h => absurd (by decide) h)
  exact ev_return dX6_searchPlans_173 rfl hQ
theorem sp_run {W : Nat} (hW : W ≤ 6) {s : av_S} (h1 : s 83 0 = nI 0) (h2 : s 84 0 = nI 0) (h3 : s 85 0 = nI 0) (hQ : Q none (if 2 ≤ W then dfs W 0 0 0 0 s else s)) : spH l Q W (nI 0) s := by
  by_cases h : 2 ≤ W
  · rw [if_pos h] at hQ
    refine sp_dfs hW W 0 0 0 0 s (by omega) h (by omega) (fun e => absurd rfl e) h1 h2 h3 (fun e => absurd rfl e) ?_
    rw [if_pos rfl]
    exact sp_m1 hQ
  · rw [if_neg h] at hQ
    show av_Ev l RX6 cX6_searchPlans 4 none av_E0 8 50 [(0, .ref 77), (1, .int (nI W)), (2, .int (nI 0))] [] s Q
    refine ev_iload_n dX6_searchPlans_50 rfl 2 rfl ?_
    refine ev_nif_lt (tgt := 173) dX6_searchPlans_51 (by decide) (by omega) ?_
    refine ev_iload_n dX6_searchPlans_54 rfl 1 rfl ?_
    refine ev_iconst dX6_searchPlans_55 (v := nI 1) (by decide) ?_
    refine ev_ncmp_le (tgt := 173) dX6_searchPlans_56 (by decide) (by omega) (by omega) (fun h56 => ?_) (fun h56 => absurd h56 (by omega))
    exact ev_return dX6_searchPlans_173 rfl hQ
end Sp
/-- the store at the loop's first head -/
def sp0 (σ : av_S) (c : Nat) : av_S := av_set (av_set (av_set (av_set (av_set (av_set σ 77 (upd (upd (σ 77) 11 (nI (if (rd (σ 78) c (σ 81) (σ 82) c).1 = 1 then 0 else 1000))) 12 (-9))) 81 (rd (σ 78) c (σ 81) (σ 82) c).2.2.1) 82 (rd (σ 78) c (σ 81) (σ 82) c).2.2.2) 83 (upd (σ 83) 0 (nI 0))) 84 (upd (σ 84) 0 (nI 0))) 85 (upd (σ 85) 0 (nI 0))
def spS (σ : av_S) (c : Nat) : av_S := if 2 ≤ (rd (σ 78) c (σ 81) (σ 82) c).1 then dfs (rd (σ 78) c (σ 81) (σ 82) c).1 0 0 0 0 (sp0 σ c) else sp0 σ c
