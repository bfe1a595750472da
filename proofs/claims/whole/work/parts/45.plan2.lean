/-! ===== plans: a search keeps the best it has seen, and the first pair that led to it ===== -/
def Post (S : Nat → Prop) (op : Int32) (o : Option Nat) (F : Int32) (o' : Option Nat) (F' : Int32) : Prop := (o' = o ∧ F' = F ∧ ∀ v, S v → ∃ u, o = some u ∧ v ≤ u) ∨ ∃ v, S v ∧ (∀ u, o = some u → u < v) ∧ (∀ w, S w → w ≤ v) ∧ o' = some v ∧ F' = op
theorem Post_congr {S S' : Nat → Prop} {op : Int32} {o : Option Nat} {F : Int32} {o' : Option Nat} {F' : Int32} (e : ∀ v, S v ↔ S' v) (h : Post S op o F o' F') : Post S' op o F o' F' := by
  rcases h with ⟨h1, h2, h3⟩ | ⟨v, h1, h2, h3, h4, h5⟩
  · exact Or.inl ⟨h1, h2, fun v hv => h3 v ((e v).mpr hv)⟩
  · exact Or.inr ⟨v, (e v).mp h1, h2, fun w hw => h3 w ((e w).mpr hw), h4, h5⟩
theorem Post_comp {S S' : Nat → Prop} {op : Int32} {o o' o2 : Option Nat} {F F' F2 : Int32} (h : Post S op o F o' F') (h' : Post S' op o' F' o2 F2) : Post (fun v => S v ∨ S' v) op o F o2 F2 := by
  rcases h with ⟨h1, h2, h3⟩ | ⟨v, h1, h2, h3, h4, h5⟩
  · rcases h' with ⟨g1, g2, g3⟩ | ⟨w, g1, g2, g3, g4, g5⟩
    · refine Or.inl ⟨g1.trans h1, g2.trans h2, fun v hv => ?_⟩
      rcases hv with hv | hv
      · exact h3 v hv
      · rw [← h1]; exact g3 v hv
    · refine Or.inr ⟨w, Or.inr g1, fun u hu => g2 u (h1.trans hu), fun x hx => ?_, g4, g5⟩
      rcases hx with hx | hx
      · obtain ⟨u, hu, hle⟩ := h3 x hx
        have := g2 u (h1.trans hu); omega
      · exact g3 x hx
  · rcases h' with ⟨g1, g2, g3⟩ | ⟨w, g1, g2, g3, g4, g5⟩
    · refine Or.inr ⟨v, Or.inl h1, h2, fun x hx => ?_, g1.trans h4, g2.trans h5⟩
      rcases hx with hx | hx
      · exact h3 x hx
      · obtain ⟨u, hu, hle⟩ := g3 x hx
        rw [h4] at hu; injection hu with hu; omega
    · have hvw := g2 v h4
      refine Or.inr ⟨w, Or.inr g1, fun u hu => by have := h2 u hu; omega, fun x hx => ?_, g4, g5⟩
      rcases hx with hx | hx
      · have := h3 x hx; omega
      · exact g3 x hx
theorem Post_none {S : Nat → Prop} {op : Int32} {o : Option Nat} {F : Int32} (h : ∀ v, ¬ S v) : Post S op o F o F := Or.inl ⟨rfl, rfl, fun v hv => absurd hv (h v)⟩
/-- the pairs before (A, B) -/
def pr (N A B a b : Nat) : Prop := a < b ∧ b < N ∧ (a < A ∨ (a = A ∧ b < B))
theorem pr_s {N A B a b : Nat} (h1 : A < B) (h2 : B < N) : pr N A (B + 1) a b ↔ pr N A B a b ∨ (a = A ∧ b = B) := by
  unfold pr; omega
theorem pr_row {N A a b : Nat} : pr N A N a b ↔ pr N (A + 1) (A + 1 + 1) a b := by
  unfold pr; omega
theorem pr_0 {N a b : Nat} : ¬ pr N 0 1 a b := by unfold pr; omega
theorem pr_all {N A B a b : Nat} (h : N ≤ A + 1) (h1 : a < b) (h2 : b < N) : pr N A B a b := by unfold pr; omega
def Top (N : Nat) (S : Nat → Nat → Nat → Prop) (op : Nat → Nat → Int32) (A B : Nat) (o : Option Nat) (F : Int32) : Prop := (o = none ∧ ∀ a b, ¬ pr N A B a b) ∨ ∃ v a b, o = some v ∧ F = op a b ∧ pr N A B a b ∧ S a b v ∧ (∀ a' b' w, pr N A B a' b' → S a' b' w → w ≤ v) ∧ ∀ a' b', pr N A B a' b' → (a' < a ∨ (a' = a ∧ b' < b)) → ¬ S a' b' v
theorem Top_row {N : Nat} {S : Nat → Nat → Nat → Prop} {op : Nat → Nat → Int32} {A : Nat} {o : Option Nat} {F : Int32} (h : Top N S op A N o F) : Top N S op (A + 1) (A + 1 + 1) o F := by
  rcases h with ⟨h1, h2⟩ | ⟨v, a, b, h1, h2, h3, h4, h5, h6⟩
  · exact Or.inl ⟨h1, fun a b q => h2 a b (pr_row.mpr q)⟩
  · exact Or.inr ⟨v, a, b, h1, h2, pr_row.mp h3, h4, fun a' b' w q => h5 a' b' w (pr_row.mpr q), fun a' b' q => h6 a' b' (pr_row.mpr q)⟩
theorem Top_step {N : Nat} {S : Nat → Nat → Nat → Prop} {op : Nat → Nat → Int32} {A B : Nat} {o o' : Option Nat} {F F' : Int32} (hA : A < B) (hB : B < N) (hS : ∃ v, S A B v) (h : Top N S op A B o F) (hP : Post (S A B) (op A B) o F o' F') : Top N S op A (B + 1) o' F' := by
  rcases hP with ⟨p1, p2, p3⟩ | ⟨w, p1, p2, p3, p4, p5⟩
  · obtain ⟨x, hx⟩ := hS
    obtain ⟨u, hu, -⟩ := p3 x hx
    rcases h with ⟨h1, -⟩ | ⟨v, a, b, h1, h2, h3, h4, h5, h6⟩
    · rw [h1] at hu; cases hu
    · refine Or.inr ⟨v, a, b, p1.trans h1, p2.trans h2, (pr_s hA hB).mpr (Or.inl h3), h4, fun a' b' y q hy => ?_, fun a' b' q hl => ?_⟩
      · rcases (pr_s hA hB).mp q with q | ⟨q1, q2⟩
        · exact h5 a' b' y q hy
        · rw [q1, q2] at hy
          obtain ⟨u2, hu2, hle⟩ := p3 y hy
          rw [h1] at hu2; injection hu2 with hu2; omega
      · rcases (pr_s hA hB).mp q with q | ⟨q1, q2⟩
        · exact h6 a' b' q hl
        · unfold pr at h3; omega
  · refine Or.inr ⟨w, A, B, p4, p5, (pr_s hA hB).mpr (Or.inr ⟨rfl, rfl⟩), p1, fun a' b' y q hy => ?_, fun a' b' q hl => ?_⟩
    · rcases (pr_s hA hB).mp q with q | ⟨q1, q2⟩
      · rcases h with ⟨-, h2⟩ | ⟨v, a, b, h1, -, -, -, h5, -⟩
        · exact absurd q (h2 a' b')
        · have := h5 a' b' y q hy
          have := p2 v h1; omega
      · rw [q1, q2] at hy; exact p3 y hy
    · rcases (pr_s hA hB).mp q with q | ⟨q1, q2⟩
      · rcases h with ⟨-, h2⟩ | ⟨v, a, b, h1, -, -, -, h5, -⟩
        · exact absurd q (h2 a' b')
        · intro hy
          have := h5 a' b' w q hy
          have := p2 v h1; omega
      · omega
def Fin2 (N : Nat) (S : Nat → Nat → Nat → Prop) (op : Nat → Nat → Int32) (v : Nat) (F : Int32) : Prop := ∃ a b, a < b ∧ b < N ∧ F = op a b ∧ S a b v ∧ (∀ a' b' w, a' < b' → b' < N → S a' b' w → w ≤ v) ∧ ∀ a' b', a' < b' → b' < N → (a' < a ∨ (a' = a ∧ b' < b)) → ¬ S a' b' v
theorem Top_fin {N : Nat} {S : Nat → Nat → Nat → Prop} {op : Nat → Nat → Int32} {A B : Nat} {o : Option Nat} {F : Int32} (h2 : 2 ≤ N) (hA : N ≤ A + 1) (h : Top N S op A B o F) : ∃ v, o = some v ∧ Fin2 N S op v F := by
  rcases h with ⟨-, h1⟩ | ⟨v, a, b, h1, h2, h3, h4, h5, h6⟩
  · exact absurd (pr_all hA (by omega) (by omega)) (h1 0 1)
  · exact ⟨v, h1, a, b, h3.1, h3.2.1, h2, h4, fun a' b' w q1 q2 => h5 a' b' w (pr_all hA q1 q2), fun a' b' q1 q2 => h6 a' b' (pr_all hA q1 q2)⟩
theorem Fin2_uniq {N : Nat} {S : Nat → Nat → Nat → Prop} {op op' : Nat → Nat → Int32} {v v' : Nat} {F F' : Int32} (hop : ∀ a b, a < N → b < N → op a b = op' a b) (h : Fin2 N S op v F) (h' : Fin2 N S op' v' F') : v = v' ∧ F = F' := by
  obtain ⟨a, b, h1, h2, h3, h4, h5, h6⟩ := h
  obtain ⟨a', b', g1, g2, g3, g4, g5, g6⟩ := h'
  have e : v = v' := Nat.le_antisymm (g5 a b v h1 h2 h4) (h5 a' b' v' g1 g2 g4)
  refine ⟨e, ?_⟩
  have n1 : ¬ (a < a' ∨ (a = a' ∧ b < b')) := fun q => g6 a b h1 h2 q (by rw [← e]; exact h4)
  have n2 : ¬ (a' < a ∨ (a' = a ∧ b' < b)) := fun q => h6 a' b' g1 g2 q (by rw [e]; exact g4)
  have ea : a = a' := by omega
  have eb : b = b' := by omega
  rw [h3, g3, ea, eb]; exact hop a' b' (by omega) g2
/-! the class's rows -/
def encC : Option Nat → Int32
  | none => -1
  | some t => nI t
def okG (f : Nat → av_gr) (N : Nat) : Prop := ∀ w k t, w < N → k < 10 → f w k = some t → t ≤ 9999
def RG (r : Nat → Int32) (f : Nat → av_gr) (N : Nat) : Prop := ∀ w k, w < N → k < 10 → r (w * 10 + k) = encC (f w k)
theorem encC_m1 {x : Option Nat} (h : ∀ t, x = some t → t < 2 ^ 31) : encC x = -1 ↔ x = none := by
  cases x with
  | none => exact ⟨fun _ => rfl, fun _ => rfl⟩
  | some t => exact ⟨fun q => absurd q (nI_neg (h t rfl) (by decide)), fun q => by cases q⟩
theorem imax_l {t : Nat} (h : t < 2 ^ 31) : imax (-1) (nI t) = nI t := by
  unfold imax
  rw [if_pos]
  exact Int32.lt_of_lt_of_le (by decide) (Int32.not_lt.mp (nI_pos h))
theorem imax_r {t : Nat} (h : t < 2 ^ 31) : imax (nI t) (-1) = nI t := by
  unfold imax
  rw [if_neg]
  intro q
  exact nI_pos h (Int32.lt_trans q (by decide))
theorem srv_enc {x y : Option Nat} (hx : ∀ t, x = some t → t ≤ 9999) (hy : ∀ t, y = some t → t ≤ 9999) : srv (encC x) (encC y) = encC (mgO x y) := by
  cases x with
  | none =>
    cases y with
    | none => decide
    | some t => exact srv_l.trans (imax_l (by have := hy t rfl; omega))
  | some s =>
    cases y with
    | none => exact (if_pos (Or.inr rfl)).trans (imax_r (by have := hx s rfl; omega))
    | some t =>
      have h1 := hx s rfl
      have h2 := hy t rfl
      show srv (nI s) (nI t) = encC (if s = t then none else some (min s t))
      rw [srv_nI h1 h2]
      by_cases e : s = t
      · rw [if_pos e, if_pos e]; rfl
      · rw [if_neg e, if_neg e]; rfl
theorem mgO_le {x y : Option Nat} {b : Nat} (hx : ∀ t, x = some t → t ≤ b) (hy : ∀ t, y = some t → t ≤ b) : ∀ t, mgO x y = some t → t ≤ b := by
  intro t ht
  cases x with
  | none =>
    have e : mgO none y = y := by cases y <;> rfl
    rw [e] at ht; exact hy t ht
  | some s =>
    cases y with
    | none => exact hx t ht
    | some u =>
      have ht : (if s = u then none else some (min s u)) = some t := ht
      by_cases e : s = u
      · rw [if_pos e] at ht; cases ht
      · rw [if_neg e] at ht
        injection ht with ht
        have := hx s rfl
        have := hy u rfl
        omega
theorem cs_app (l : List (Option Nat)) (x : Option Nat) : cs (l ++ [x]) = cs l + bN x.isSome := by
  induction l with
  | nil => exact (Nat.zero_add _).symm
  | cons y l ih => show bN y.isSome + cs (l ++ [x]) = bN y.isSome + cs l + bN x.isSome; rw [ih]; omega
def colK (f : Nat → av_gr) (N k : Nat) : List (Option Nat) := (List.range N).map (fun w => f w k)
theorem colK_s (f : Nat → av_gr) (N k : Nat) : colK f (N + 1) k = colK f N k ++ [f N k] := by
  unfold colK; rw [List.range_succ, List.map_append]; rfl
theorem colK_mem {f : Nat → av_gr} {N k : Nat} {x : Option Nat} : x ∈ colK f N k ↔ ∃ w, w < N ∧ f w k = x := by
  unfold colK
  rw [List.mem_map]
  constructor
  · rintro ⟨w, h1, h2⟩; exact ⟨w, List.mem_range.mp h1, h2⟩
  · rintro ⟨w, h1, h2⟩; exact ⟨w, List.mem_range.mpr h1, h2⟩
theorem mb3_at {r : Nat → Int32} {f : Nat → av_gr} {k : Nat} (hk : k < 10) : ∀ N, RG r f N → okG f N → (mb3 r k N).1 = cs (colK f N k) ∧ ((mb3 r k N).2.2 = true → ∃ s t, some s ∈ colK f N k ∧ some t ∈ colK f N k ∧ s ≠ t) ∧ ((mb3 r k N).2.2 = false → ∀ w t, w < N → f w k = some t → (mb3 r k N).2.1 = nI t) := by
  intro N
  induction N with
  | zero => intro _ _; exact ⟨rfl, fun h => (by cases h), fun _ w t h => absurd h (Nat.not_lt_zero _)⟩
  | succ N ih =>
    intro hR hG
    obtain ⟨i1, i2, i3⟩ := ih (fun w k hw => hR w k (by omega)) (fun w k t hw => hG w k t (by omega))
    have e : mb3 r k (N + 1) = mb3F r k N (mb3 r k N) := rfl
    have hr := hR N k (by omega) hk
    rw [e, colK_s, cs_app]
    cases hf : f N k with
    | none =>
      rw [hf] at hr
      have e2 : mb3F r k N (mb3 r k N) = mb3 r k N := if_pos hr
      rw [e2]
      refine ⟨i1, fun h => ?_, fun h w t hw ht => ?_⟩
      · obtain ⟨s, t, h1, h2, h3⟩ := i2 h
        exact ⟨s, t, List.mem_append.mpr (Or.inl h1), List.mem_append.mpr (Or.inl h2), h3⟩
      · by_cases ew : w = N
        · rw [ew, hf] at ht; cases ht
        · exact i3 h w t (by omega) ht
    | some t0 =>
      rw [hf] at hr
      have ht0 := hG N k t0 (by omega) hk hf
      have hr1 : ¬ r (N * 10 + k) = -1 := by rw [hr]; exact nI_neg (by omega) (by decide)
      have e2 : mb3F r k N (mb3 r k N) = ((mb3 r k N).1 + 1, r (N * 10 + k), (mb3 r k N).2.2 || (decide (¬ (mb3 r k N).1 = 0) && decide (¬ r (N * 10 + k) = (mb3 r k N).2.1))) := if_neg hr1
      rw [e2]
      refine ⟨by rw [i1]; rfl, fun h => ?_, fun h w t hw ht => ?_⟩
      · cases hfl : (mb3 r k N).2.2 with
        | true =>
          obtain ⟨s, t, h1, h2, h3⟩ := i2 hfl
          exact ⟨s, t, List.mem_append.mpr (Or.inl h1), List.mem_append.mpr (Or.inl h2), h3⟩
        | false =>
          dsimp only at h
          rw [hfl, Bool.false_or, Bool.and_eq_true] at h
          have h1 := of_decide_eq_true h.1
          have h2 := of_decide_eq_true h.2
          -- some group before has the nick
          have : ∃ w t, w < N ∧ f w k = some t := by
            apply Classical.byContradiction
            intro hn
            apply h1
            rw [i1]
            have : ∀ l : List (Option Nat), (∀ x, x ∈ l → x = none) → cs l = 0 := by
              intro l
              induction l with
              | nil => intro _; rfl
              | cons y l ihl =>
                intro hx
                have := hx y (List.mem_cons.mpr (Or.inl rfl))
                show bN y.isSome + cs l = 0
                rw [this, ihl (fun x hxl => hx x (List.mem_cons_of_mem _ hxl))]; rfl
            apply this
            intro x hx
            obtain ⟨w, hw, hfx⟩ := colK_mem.mp hx
            cases x with
            | none => rfl
            | some t => exact absurd ⟨w, t, hw, hfx⟩ hn
          obtain ⟨w, t, hw, ht⟩ := this
          have h3 := i3 hfl w t hw ht
          refine ⟨t, t0, List.mem_append.mpr (Or.inl (colK_mem.mpr ⟨w, hw, ht⟩)), List.mem_append.mpr (Or.inr (List.mem_cons.mpr (Or.inl rfl))), fun q => h2 ?_⟩
          rw [hr, h3, q]; rfl
      · dsimp only at h ⊢
        rw [Bool.or_eq_false_iff] at h
        by_cases ew : w = N
        · rw [ew, hf] at ht
          injection ht with ht
          rw [hr, ht]; rfl
        · have h3 := i3 h.1 w t (by omega) ht
          have hc : ¬ (mb3 r k N).1 = 0 := by
            rw [i1]
            intro hz
            have : ∀ l : List (Option Nat), some t ∈ l → ¬ cs l = 0 := by
              intro l
              induction l with
              | nil => intro h; cases h
              | cons y l ihl =>
                intro h
                show ¬ bN y.isSome + cs l = 0
                rcases List.mem_cons.mp h with q | q
                · rw [← q]; show ¬ 1 + cs l = 0; omega
                · have := ihl q; omega
            exact this _ (colK_mem.mpr ⟨w, by omega, ht⟩) hz
          have h4 := h.2
          rw [decide_eq_true hc, Bool.true_and] at h4
          have h5 : r (N * 10 + k) = (mb3 r k N).2.1 := Decidable.of_not_not (of_decide_eq_false h4)
          rw [h5]; exact h3
theorem odd_bit : ∀ c, c < 7 → decide (¬ nI c &&& nI 1 = 0) = decide (c % 2 = 1) := by decide +kernel
theorem mbl_hb {r : Nat → Int32} {f : Nat → av_gr} {k N : Nat} (hk : k < 10) (hN : N < 7) (hR : RG r f N) (hG : okG f N) : mbl r N k = true ↔ hb (colK f N k) := by
  obtain ⟨h1, h2, h3⟩ := mb3_at hk N hR hG
  have hle := mb3_le r k N
  unfold mbl
  rw [Bool.or_eq_true, odd_bit _ (by omega), h1]
  constructor
  · rintro (q | q)
    · exact Or.inl (h2 q)
    · exact Or.inr (of_decide_eq_true q)
  · rintro (⟨s, t, q1, q2, q3⟩ | q)
    · left
      cases hf : (mb3 r k N).2.2
      · exfalso
        obtain ⟨w, hw, e1⟩ := colK_mem.mp q1
        obtain ⟨w', hw', e2⟩ := colK_mem.mp q2
        have g1 := h3 hf w s hw e1
        have g2 := h3 hf w' t hw' e2
        rw [g1] at g2
        have b1 := hG w k s hw hk e1
        have b2 := hG w' k t hw' hk e2
        exact q3 ((nI_eq (by omega) (by omega)).mp g2)
      · rfl
    · exact Or.inr (decide_eq_true q)
theorem chp_sm (r : Nat → Int32) (N : Nat) : chp r N = sm 10 (fun k => bN (mbl r N k)) := by
  unfold chp
  have : (fun (n c : Nat) => bif mbl r N n then c + 1 else c) = fun n c => c + bN (mbl r N n) := by
    funext n c; cases mbl r N n <;> rfl
  rw [this, fo_sm, Nat.zero_add]
theorem chp_ge {r : Nat → Int32} {f : Nat → av_gr} {N m v : Nat} (hN : N < 7) (hR : RG r f N) (hG : okG f N) (h : Ach m ((List.range N).map f) v) : v ≤ chp r N := by
  obtain ⟨g, h1, h2⟩ := Ach_hope h
  rw [h1, chp_sm]
  unfold szG
  apply sm_le
  intro k hk
  cases hs : (g k).isSome
  · exact Nat.zero_le _
  · have := h2 k hs
    rw [List.map_map] at this
    rw [(mbl_hb hk hN hR hG).mpr this]
    exact Nat.le_refl _
theorem chp_1 {r : Nat → Int32} {f : Nat → av_gr} (hR : RG r f 1) (hG : okG f 1) : chp r 1 = szG (f 0) := by
  rw [chp_sm]
  unfold szG
  apply sm_congr
  intro k hk
  congr 1
  apply Bool.eq_iff_iff.mpr
  rw [mbl_hb hk (by omega) hR hG]
  have e : colK f 1 k = [f 0 k] := rfl
  rw [e]
  constructor
  · rintro (⟨s, t, q1, q2, q3⟩ | q)
    · rcases List.mem_cons.mp q1 with h | h
      · rw [← h]; rfl
      · cases h
    · have q : (bN (f 0 k).isSome + 0) % 2 = 1 := q
      cases hs : (f 0 k).isSome
      · rw [hs] at q; cases q
      · rfl
  · intro h
    right
    show (bN (f 0 k).isSome + 0) % 2 = 1
    rw [h]; rfl
