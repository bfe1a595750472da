/-! ===== plans: what can survive of a list of networks, in any order ===== -/
abbrev av_gr : Type := Nat → Option Nat
def mgO : Option Nat → Option Nat → Option Nat
  | none, y => y
  | some s, none => some s
  | some s, some t => if s = t then none else some (min s t)
def klO : Option Nat → Option Nat → Nat
  | some s, some t => if s = t then 2 else 1
  | _, _ => 0
def mgG (x y : av_gr) : av_gr := fun k => mgO (x k) (y k)
def szG (g : av_gr) : Nat := sm 10 (fun k => bN (g k).isSome)
def klG (x y : av_gr) : Nat := sm 10 (fun k => klO (x k) (y k))
theorem mgO_comm (x y : Option Nat) : mgO x y = mgO y x := by
  cases x with
  | none => cases y <;> rfl
  | some s =>
    cases y with
    | none => rfl
    | some t =>
      show (if s = t then none else some (min s t)) = (if t = s then none else some (min t s))
      by_cases e : s = t
      · rw [if_pos e, if_pos e.symm]
      · rw [if_neg e, if_neg (fun q => e q.symm), Nat.min_comm]
theorem mgG_comm (x y : av_gr) : mgG x y = mgG y x := funext (fun _ => mgO_comm _ _)
theorem mg_sz (x y : Option Nat) : bN (mgO x y).isSome + klO x y = bN x.isSome + bN y.isSome := by
  cases x with
  | none => cases y <;> rfl
  | some s =>
    cases y with
    | none => rfl
    | some t =>
      show bN (if s = t then none else some (min s t) : Option Nat).isSome + (if s = t then 2 else 1) = 1 + 1
      by_cases e : s = t
      · rw [if_pos e, if_pos e]; rfl
      · rw [if_neg e, if_neg e]; rfl
theorem mgG_sz (x y : av_gr) : szG (mgG x y) + klG x y = szG x + szG y := by
  unfold szG klG
  rw [← sm_add, ← sm_add]
  exact sm_congr (fun k _ => mg_sz _ _)
theorem sm_le {f g : Nat → Nat} : ∀ {n : Nat}, (∀ k, k < n → f k ≤ g k) → sm n f ≤ sm n g
  | 0, _ => Nat.le_refl _
  | n + 1, h => by
    rw [sm_s, sm_s]
    have := sm_le (n := n) (fun k hk => h k (by omega))
    have := h n (by omega)
    omega
theorem sm_one_le {f : Nat → Nat} {n : Nat} (h : ∀ k, k < n → f k ≤ 1) : sm n f ≤ n := by
  induction n with
  | zero => exact Nat.le_refl _
  | succ n ih =>
    rw [sm_s]
    have := ih (fun k hk => h k (by omega))
    have := h n (by omega)
    omega
theorem bN_le (p : Bool) : bN p ≤ 1 := by cases p <;> decide
theorem szG_le (g : av_gr) : szG g ≤ 10 := sm_one_le (fun k _ => bN_le _)
def Ach : Nat → List av_gr → Nat → Prop
  | 0, gs, v => ∃ g, List.Perm gs [g] ∧ v = szG g
  | m + 1, gs, v => ∃ x y rest, List.Perm gs (x :: y :: rest) ∧ Ach m (mgG x y :: rest) v
theorem Ach_perm {m : Nat} {gs gs' : List av_gr} {v : Nat} (h : List.Perm gs gs') (hA : Ach m gs v) : Ach m gs' v := by
  cases m with
  | zero =>
    obtain ⟨g, h1, h2⟩ := hA
    exact ⟨g, h.symm.trans h1, h2⟩
  | succ m =>
    obtain ⟨x, y, r, h1, h2⟩ := hA
    exact ⟨x, y, r, h.symm.trans h1, h2⟩
theorem Ach_le : ∀ {m : Nat} {gs : List av_gr} {v : Nat}, Ach m gs v → v ≤ 10
  | 0, _, _, ⟨g, _, h⟩ => by rw [h]; exact szG_le g
  | _ + 1, _, _, ⟨_, _, _, _, h⟩ => Ach_le h
theorem Ach_some : ∀ {m : Nat} {gs : List av_gr}, gs.length = m + 1 → ∃ v, Ach m gs v
  | 0, [g], _ => ⟨szG g, g, List.Perm.refl _, rfl⟩
  | m + 1, x :: y :: r, h => by
    obtain ⟨v, hv⟩ := Ach_some (m := m) (gs := mgG x y :: r) (by simpa using h)
    exact ⟨v, x, y, r, List.Perm.refl _, hv⟩
/-! hope -/
def cs : List (Option Nat) → Nat
  | [] => 0
  | x :: l => bN x.isSome + cs l
def hb (l : List (Option Nat)) : Prop := (∃ s t, some s ∈ l ∧ some t ∈ l ∧ s ≠ t) ∨ cs l % 2 = 1
theorem cs_perm {l l' : List (Option Nat)} (h : List.Perm l l') : cs l = cs l' := by
  induction h with
  | nil => rfl
  | cons x _ ih => show bN x.isSome + _ = bN x.isSome + _; rw [ih]
  | swap x y l => show bN y.isSome + (bN x.isSome + cs l) = bN x.isSome + (bN y.isSome + cs l); omega
  | trans _ _ h1 h2 => exact h1.trans h2
theorem hb_perm {l l' : List (Option Nat)} (h : List.Perm l l') (q : hb l) : hb l' := by
  rcases q with ⟨s, t, h1, h2, h3⟩ | q
  · exact Or.inl ⟨s, t, h.mem_iff.mp h1, h.mem_iff.mp h2, h3⟩
  · exact Or.inr (by rw [← cs_perm h]; exact q)
theorem hb_mg {x y : Option Nat} {l : List (Option Nat)} (q : hb (mgO x y :: l)) : hb (x :: y :: l) := by
  cases x with
  | none =>
    have e : mgO none y = y := by cases y <;> rfl
    rw [e] at q
    rcases q with ⟨s, t, h1, h2, h3⟩ | q
    · exact Or.inl ⟨s, t, List.mem_cons_of_mem _ h1, List.mem_cons_of_mem _ h2, h3⟩
    · right
      show (bN false + (bN y.isSome + cs l)) % 2 = 1
      rw [show bN false = 0 from rfl, Nat.zero_add]; exact q
  | some s =>
    cases y with
    | none =>
      rcases q with ⟨a, b, h1, h2, h3⟩ | q
      · refine Or.inl ⟨a, b, ?_, ?_, h3⟩
        · rcases List.mem_cons.mp h1 with e | e
          · exact List.mem_cons.mpr (Or.inl e)
          · exact List.mem_cons_of_mem _ (List.mem_cons_of_mem _ e)
        · rcases List.mem_cons.mp h2 with e | e
          · exact List.mem_cons.mpr (Or.inl e)
          · exact List.mem_cons_of_mem _ (List.mem_cons_of_mem _ e)
      · right
        show (bN true + (bN false + cs l)) % 2 = 1
        rw [show bN false = 0 from rfl, Nat.zero_add]; exact q
    | some t =>
      by_cases e : s = t
      · have e2 : mgO (some s) (some t) = none := if_pos e
        rw [e2] at q
        rcases q with ⟨a, b, h1, h2, h3⟩ | q
        · refine Or.inl ⟨a, b, ?_, ?_, h3⟩
          · rcases List.mem_cons.mp h1 with e | e
            · cases e
            · exact List.mem_cons_of_mem _ (List.mem_cons_of_mem _ e)
          · rcases List.mem_cons.mp h2 with e | e
            · cases e
            · exact List.mem_cons_of_mem _ (List.mem_cons_of_mem _ e)
        · right
          have q : (0 + cs l) % 2 = 1 := q
          show (1 + (1 + cs l)) % 2 = 1
          omega
      · exact Or.inl ⟨s, t, List.mem_cons.mpr (Or.inl rfl), List.mem_cons_of_mem _ (List.mem_cons.mpr (Or.inl rfl)), e⟩
theorem Ach_hope : ∀ {m : Nat} {gs : List av_gr} {v : Nat}, Ach m gs v → ∃ g : av_gr, v = szG g ∧ ∀ k, (g k).isSome = true → hb (gs.map (fun h => h k))
  | 0, gs, v, ⟨g, h1, h2⟩ => by
    refine ⟨g, h2, fun k hk => hb_perm (h1.symm.map _) (Or.inr ?_)⟩
    show (bN (g k).isSome + 0) % 2 = 1
    rw [hk]; rfl
  | m + 1, gs, v, ⟨x, y, r, h1, h2⟩ => by
    obtain ⟨g, h3, h4⟩ := Ach_hope h2
    refine ⟨g, h3, fun k hk => hb_perm (h1.symm.map _) (hb_mg (h4 k hk))⟩
/-! lists by places -/
theorem perm_map {α β : Type} {f : α → β} {l1 l2 : List β} (h : List.Perm l1 l2) : ∀ m : List α, l1 = m.map f → ∃ m', List.Perm m m' ∧ l2 = m'.map f := by
  induction h with
  | nil => intro m hm; exact ⟨m, List.Perm.refl _, hm⟩
  | cons x _ ih =>
    intro m hm
    cases m with
    | nil => cases hm
    | cons a m =>
      injection hm with h1 h2
      obtain ⟨m', p, e⟩ := ih m h2
      exact ⟨a :: m', List.Perm.cons a p, by rw [List.map_cons, h1, e]⟩
  | swap x y l =>
    intro m hm
    cases m with
    | nil => cases hm
    | cons a m =>
      cases m with
      | nil => injection hm with _ h2; cases h2
      | cons b m =>
        injection hm with h1 h2
        injection h2 with h3 h4
        exact ⟨b :: a :: m, List.Perm.swap _ _ _, by rw [List.map_cons, List.map_cons, h1, h3, h4]⟩
  | trans _ _ ih1 ih2 =>
    intro m hm
    obtain ⟨m1, p1, e1⟩ := ih1 m hm
    obtain ⟨m2, p2, e2⟩ := ih2 m1 e1
    exact ⟨m2, p1.trans p2, e2⟩
def rI (N a b : Nat) : List Nat := (List.range N).filter (fun i => !(i == a) && !(i == b))
theorem rI_1 : ∀ N, N < 7 → ∀ b, b < N → ∀ a, a < b → List.Perm (List.range N) (a :: b :: rI N a b) := by decide +kernel
theorem rI_2 : ∀ N, N < 7 → ∀ b, b < N → ∀ a, a < b → List.Perm ((List.range (N - 1)).map (fun w => if w < b then w else w + 1)) (a :: rI N a b) := by decide +kernel
theorem rI_3 : ∀ N, N < 7 → ∀ b, b < N → ∀ a, a < b → List.Perm ((List.range (N - 1)).map (fun w => if w = b then N - 1 else w)) (a :: rI N a b) := by decide +kernel
theorem rI_a {N a b : Nat} : a ∉ rI N a b := by
  unfold rI
  simp
theorem cnt_range : ∀ N, N < 7 → ∀ i, i < N → List.count i (List.range N) = 1 := by decide +kernel
theorem map_rI {N a b : Nat} {f g : Nat → av_gr} (h : ∀ i, i ≠ a → f i = g i) : (rI N a b).map f = (rI N a b).map g := List.map_congr_left (fun i hi => h i (fun e => rI_a (by rw [e] at hi; exact hi)))
/-- the list behind a merge, for any way of closing the gap -/
theorem child_perm {N a b : Nat} {f f' : Nat → av_gr} {src : Nat → Nat} (hsrc : List.Perm ((List.range (N - 1)).map src) (a :: rI N a b)) (hf : ∀ w, w < N - 1 → f' w = if src w = a then mgG (f a) (f b) else f (src w)) : List.Perm ((List.range (N - 1)).map f') (mgG (f a) (f b) :: (rI N a b).map f) := by
  have e : (List.range (N - 1)).map f' = ((List.range (N - 1)).map src).map (fun i => if i = a then mgG (f a) (f b) else f i) := by
    rw [List.map_map]
    apply List.map_congr_left
    intro w hw
    exact hf w (List.mem_range.mp hw)
  rw [e]
  have := hsrc.map (fun i => if i = a then mgG (f a) (f b) else f i)
  rw [List.map_cons, if_pos rfl] at this
  rw [map_rI (f := fun i => if i = a then mgG (f a) (f b) else f i) (g := f) (fun i hi => if_neg hi)] at this
  exact this
def Sab (N : Nat) (f : Nat → av_gr) (a b v : Nat) : Prop := Ach (N - 2) (mgG (f a) (f b) :: (rI N a b).map f) v
theorem Ach_pairs {N : Nat} {f : Nat → av_gr} {v : Nat} (hN : N < 7) (h2 : 2 ≤ N) : Ach (N - 1) ((List.range N).map f) v ↔ ∃ a b, a < b ∧ b < N ∧ Sab N f a b v := by
  obtain ⟨m, rfl⟩ : ∃ m, N = m + 2 := ⟨N - 2, by omega⟩
  constructor
  · rintro ⟨x, y, r, h1, h3⟩
    obtain ⟨l, p, e⟩ := perm_map h1 (List.range (m + 2)) rfl
    match l, e, p with
    | [], e, p => cases e
    | [_], e, p => injection e with _ e; cases e
    | i :: j :: l', e, p =>
      injection e with e1 e
      injection e with e2 e3
      have hi : i < m + 2 := List.mem_range.mp (p.mem_iff.mpr (List.mem_cons.mpr (Or.inl rfl)))
      have hj : j < m + 2 := List.mem_range.mp (p.mem_iff.mpr (List.mem_cons_of_mem _ (List.mem_cons.mpr (Or.inl rfl))))
      rw [e1, e2, e3] at h3
      rcases Nat.lt_trichotomy i j with h | h | h
      · have q : List.Perm l' (rI (m + 2) i j) := ((p.symm.trans (rI_1 (m + 2) hN j hj i h)).cons_inv).cons_inv
        exact ⟨i, j, h, hj, Ach_perm (List.Perm.cons _ (q.map f)) h3⟩
      · have := p.count_eq i
        rw [cnt_range (m + 2) hN i hi, h, List.count_cons_self, List.count_cons_self] at this
        omega
      · have q : List.Perm l' (rI (m + 2) j i) := (((List.Perm.swap i j l').trans (p.symm.trans (rI_1 (m + 2) hN i hi j h))).cons_inv).cons_inv
        rw [mgG_comm] at h3
        exact ⟨j, i, h, hi, Ach_perm (List.Perm.cons _ (q.map f)) h3⟩
  · rintro ⟨a, b, h, hb, hA⟩
    exact ⟨f a, f b, (rI (m + 2) a b).map f, (rI_1 (m + 2) hN b hb a h).map f, hA⟩
theorem Sab_some {N : Nat} {f : Nat → av_gr} {a b : Nat} (hN : N < 7) (h : a < b) (hb : b < N) : ∃ v, Sab N f a b v := by
  apply Ach_some
  have := (rI_1 N hN b hb a h).length_eq
  rw [List.length_range] at this
  simp only [List.length_cons, List.length_map] at this ⊢
  omega
