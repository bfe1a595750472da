/-! ===== the tables' words that stay, and the nest mates' words ===== -/
def wG : List Cond := lw_tbl.filter goodWord
theorem wG_of {w : Cond} (i : Nat) (h : lw_tbl[i]? = some w) (hg : goodWord w = true) : w ∈ wG := List.mem_filter.mpr ⟨List.mem_of_getElem? h, hg⟩
theorem wG_good {ws : List Cond} (h : ∀ w ∈ ws, w ∈ wG) : GoodIn wG ws := fun w hw => ⟨h w hw, good_of_word (List.mem_filter.mp (h w hw)).2⟩
def av_isN : Cond → Bool
  | .fieldLinkNest .. => true
  | .methodLinkNest .. => true
  | _ => false
def wN : List Cond := lw_tbl.filter av_isN
theorem wN_of {w : Cond} (i : Nat) (h : lw_tbl[i]? = some w) (hg : av_isN w = true) : w ∈ wN := List.mem_filter.mpr ⟨List.mem_of_getElem? h, hg⟩
theorem av_N_warm {w : Cond} (hg : av_isN w = true) {s U : State} (hW : s.WarmedH U.vm) (h : va_Nw w s) : va_Nw w U := by
  cases w <;> first | exact va_Nw.warmF hW h | exact va_Nw.warmM hW h | cases hg
theorem av_N_same {w : Cond} (hg : av_isN w = true) {s U : State} (hv : s.vm = U.vm) (h : va_Nw w s) : va_Nw w U := by
  cases w <;> first | exact va_Nw.same rfl hv h | cases hg
/-! ===== the abstract store ===== -/
abbrev av_S : Type := Nat → Nat → Int32
abbrev av_H : Type := (Nat × List (Option Nat)) ⊕ ((Nat × Nat) ⊕ (Nat × Nat × (Nat → Nat)))
abbrev av_X : Type := va_G × (Nat → Nat) × (Nat → ClassId)
def av_st (k : Nat) : av_H := .inl (3, [none, none, none, none, some (k + 1), some (k + 2), some (k + 3), some (k + 4), some (k + 5), some (k + 6)])
def av_ia (n : Nat) : av_H := .inr (.inl (0, n))
def av_sh (k : Nat) : av_H :=
  if k < 63 then (if k % 7 = 0 then av_st k else if k % 7 = 1 then av_ia 6 else if k % 7 = 2 then av_ia 60 else av_ia 24)
  else if k = 63 then .inl (4, [some 0, some 64, some 66, some 68])
  else if k = 64 then .inl (0, [some 65, none, none])
  else if k = 65 then .inr (.inr (2, 8, fun i => 7 * i + 7))
  else if k = 66 then .inl (1, [some 67, none])
  else if k = 67 then .inr (.inl (1, 40))
  else if k = 68 then .inl (2, [some 69, some 76, none, none, none])
  else if k = 69 then .inr (.inr (3, 6, fun i => 70 + i))
  else if k < 76 then av_ia 60
  else if k = 76 then av_ia 6
  else if k = 77 then .inl (5, [some 78, some 79, none, some 80, none, none, some 81, some 82, some 83, some 84, some 85, none, none])
  else if k = 78 then av_ia 238
  else if k = 79 then av_ia 1904
  else if k = 80 then av_ia 40
  else if k = 81 then av_ia 360
  else av_ia 6
def av_f (X : av_X) (σ : av_S) (k i : Nat) (f : Option Nat) : Value := match f with
  | none => .int (σ k i)
  | some r => .ref (X.2.1 r)
def av_e (X : av_X) (σ : av_S) (k : Nat) : va_E := match av_sh k with
  | .inl (ci, fl) => .inr (ci, fl.mapIdx (av_f X σ k))
  | .inr (.inl (kd, n)) => .inl (X.2.2 kd, n, .inl (σ k))
  | .inr (.inr (kd, n, f)) => .inl (X.2.2 kd, n, .inr (.inr (.inr (.inr (fun i => some (X.2.1 (f i)))))))
def av_w (X : av_X) (σ : av_S) : va_W := (List.range 86).map (fun k => (X.2.1 k, av_e X σ k))
def av_set (σ : av_S) (k : Nat) (f : Nat → Int32) : av_S := fun a => if a = k then f else σ a
def av_t (X : av_X) (v : Value) : Value := match v with
  | .ref k => .ref (X.2.1 k)
  | v => v
def av_tys (X : av_X) : List (ClassId × FieldType) := [(X.2.2 0, .int), (X.2.2 1, .char), (X.2.2 2, .object RX4), (X.2.2 3, .array .int)]
theorem av_w_at {X : av_X} {σ : av_S} {k : Nat} (h : k < 86) : (av_w X σ)[k]? = some (X.2.1 k, av_e X σ k) := by
  simp [av_w, h]
theorem av_w_len {X : av_X} {σ : av_S} : (av_w X σ).length = 86 := by simp [av_w]
theorem av_e_ne {X : av_X} {σ : av_S} {k j : Nat} {f : Nat → Int32} (h : j ≠ k) : av_e X (av_set σ k f) j = av_e X σ j := by
  have e : av_set σ k f j = σ j := if_neg h
  unfold av_e
  rw [e]
  have e2 : av_f X (av_set σ k f) j = av_f X σ j := by
    funext i g
    cases g with
    | none => show Value.int (av_set σ k f j i) = _; rw [e]; rfl
    | some r => rfl
  rw [e2]
theorem av_w_set {X : av_X} {σ : av_S} {k : Nat} {f : Nat → Int32} (h : k < 86) : (av_w X σ).set k (X.2.1 k, av_e X (av_set σ k f) k) = av_w X (av_set σ k f) := by
  apply List.ext_getElem?
  intro i
  by_cases hi : i = k
  · subst hi
    rw [List.getElem?_set_self (by rw [av_w_len]; exact h), av_w_at h]
  · rw [List.getElem?_set_ne (Ne.symm hi)]
    by_cases hl : i < 86
    · rw [av_w_at hl, av_w_at hl, av_e_ne hi]
    · rw [List.getElem?_eq_none (by rw [av_w_len]; omega), List.getElem?_eq_none (by rw [av_w_len]; omega)]
theorem av_e_obj {X : av_X} {σ : av_S} {k ci : Nat} {fl : List (Option Nat)} (h : av_sh k = .inl (ci, fl)) : av_e X σ k = .inr (ci, fl.mapIdx (av_f X σ k)) := by
  unfold av_e; rw [h]
theorem av_e_arr {X : av_X} {σ : av_S} {k kd n : Nat} (h : av_sh k = .inr (.inl (kd, n))) : av_e X σ k = .inl (X.2.2 kd, n, .inl (σ k)) := by
  unfold av_e; rw [h]
theorem av_e_ref {X : av_X} {σ : av_S} {k kd n : Nat} {f : Nat → Nat} (h : av_sh k = .inr (.inr (kd, n, f))) : av_e X σ k = .inl (X.2.2 kd, n, .inr (.inr (.inr (.inr (fun i => some (X.2.1 (f i))))))) := by
  unfold av_e; rw [h]
theorem av_e_put {X : av_X} {σ : av_S} {k ci i : Nat} {fl : List (Option Nat)} {v : Int32} (h : av_sh k = .inl (ci, fl)) (hi : fl[i]? = some none) : av_e X (av_set σ k (upd (σ k) i v)) k = .inr (ci, (fl.mapIdx (av_f X σ k)).set i (.int v)) := by
  rw [av_e_obj h]
  congr 2
  apply List.ext_getElem?
  intro j
  have e : av_set σ k (upd (σ k) i v) k = upd (σ k) i v := if_pos rfl
  have hil : i < fl.length := (List.getElem?_eq_some_iff.mp hi).1
  by_cases hj : j = i
  · subst hj
    rw [List.getElem?_set_self (by simpa using hil), List.getElem?_mapIdx, hi]
    show some (Value.int (av_set σ k (upd (σ k) j v) k j)) = _
    rw [e]
    simp [upd]
  · rw [List.getElem?_set_ne (Ne.symm hj), List.getElem?_mapIdx, List.getElem?_mapIdx]
    cases hf : fl[j]? with
    | none => rfl
    | some g =>
      cases g with
      | none =>
        show some (Value.int (av_set σ k (upd (σ k) i v) k j)) = some (Value.int (σ k j))
        rw [e]
        simp [upd, hj]
      | some r => rfl
theorem av_e_aset {X : av_X} {σ : av_S} {k kd n : Nat} {g : Nat → Int32} (h : av_sh k = .inr (.inl (kd, n))) : av_e X (av_set σ k g) k = .inl (X.2.2 kd, n, .inl g) := by
  rw [av_e_arr h]
  have e : av_set σ k g k = g := if_pos rfl
  rw [e]
theorem av_D_any {X : av_X} {A : Nat → Prop} {σ σ' : av_S} (h : va_D A (av_w X σ)) : va_D A (av_w X σ') := by
  have key : ∀ (k : Nat) (q : Nat × va_E), (av_w X σ')[k]? = some q → ∃ q0, (av_w X σ)[k]? = some q0 ∧ q0.1 = q.1 := by
    intro k q hk
    have hl : k < 86 := by
      have := (List.getElem?_eq_some_iff.mp hk).1
      rwa [av_w_len] at this
    rw [av_w_at hl] at hk
    cases hk
    exact ⟨_, av_w_at hl, rfl⟩
  refine ⟨fun i j x y hi hj hxy => ?_, fun k q hk => ?_⟩
  · obtain ⟨x0, h1, h2⟩ := key i x hi
    obtain ⟨y0, h3, h4⟩ := key j y hj
    exact h.1 i j x0 y0 h1 h3 (h2.trans (hxy.trans h4.symm))
  · obtain ⟨q0, h1, h2⟩ := key k q hk
    rw [← h2]
    exact h.2 k q0 h1
theorem av_A_any {X : av_X} {σ σ' : av_S} {sz q : Nat} (h : va_A (av_w X σ) sz q) : va_A (av_w X σ') sz q := by
  rcases h with ⟨k, e, hk⟩ | h
  · have hl : k < 86 := by
      have := (List.getElem?_eq_some_iff.mp hk).1
      rwa [av_w_len] at this
    rw [av_w_at hl] at hk
    have e1 : X.2.1 k = q := congrArg Prod.fst (Option.some.inj hk)
    exact Or.inl ⟨k, av_e X σ' k, by rw [av_w_at hl, e1]⟩
  · exact Or.inr h
theorem av_cat {X : av_X} (v : Value) : (av_t X v).category = v.category := by
  cases v <;> rfl
def av_l (X : av_X) (lv : List (Nat × Value)) : List (Nat × Value) := lv.map (fun q => (q.1, av_t X q.2))
theorem av_at {X : av_X} {ls : Array Slot} {nL : Nat} {lv : List (Nat × Value)} (h : lv_has ls nL (av_l X lv)) {k i : Nat} {v : Value} (hk : lv[k]? = some (i, v)) : ls[i]? = some (.val (av_t X v)) := by
  refine lv_at h k ?_
  rw [av_l, List.getElem?_map, hk]
  rfl
theorem av_store {X : av_X} {lv lv' : List (Nat × Value)} {i : Nat} {v : Value} (h : (i, v) :: lv.filter (fun q => !(q.1 == i) && !(q.1 + 1 == i && q.2.category == 2)) = lv') : (i, av_t X v) :: (av_l X lv).filter (fun q => !(q.1 == i) && !(q.1 + 1 == i && q.2.category == 2)) = av_l X lv' := by
  subst h
  rw [av_l, List.filter_map]
  have e : ((fun q : Nat × Value => !(q.1 == i) && !(q.1 + 1 == i && q.2.category == 2)) ∘ fun q : Nat × Value => (q.1, av_t X q.2)) = (fun q : Nat × Value => !(q.1 == i) && !(q.1 + 1 == i && q.2.category == 2)) := by
    funext q
    simp only [Function.comp, av_cat]
  rw [e]
  rfl
theorem av_args {X : av_X} : ∀ (vs : List Value) (i : Nat), av_l X (lv_args i vs) = lv_args i (vs.map (av_t X))
  | [], _ => rfl
  | v :: vs, i => by
    show (i, av_t X v) :: av_l X (lv_args (if v.category = 2 then i + 2 else i + 1) vs) = (i, av_t X v) :: lv_args (if (av_t X v).category = 2 then i + 2 else i + 1) (vs.map (av_t X))
    rw [av_cat, av_args vs]
theorem av_sl {X : av_X} (vs : List Value) : (lg_sl (vs.map (av_t X))).length = (lg_sl vs).length := by
  induction vs with
  | nil => rfl
  | cons v vs ih =>
    simp only [lg_sl, List.map_cons, List.flatMap_cons, List.length_append] at ih ⊢
    rw [ih, av_cat]
    split <;> rfl
theorem av_cats {X : av_X} (st : List Value) : ((st.map (av_t X)).map fun v => v.category) = st.map fun v => v.category := by
  rw [List.map_map]
  apply List.map_congr_left
  intro v _
  exact av_cat v
/-! ===== the judgement ===== -/
def av_G (X : av_X) (A : Nat → Prop) (s : State) : Prop := vk_R RX2 38 "imnpst" (X.2.1 87) s ∧ vk_S 1 [6] [[105, 109, 110, 112, 115, 116]] (fun _ => X.2.1 87) (fun _ => X.2.1 88) A s s.heap ∧ va_Z "java/lang/String" "COMPACT_STRINGS" "Z" (.int 1) A s s.heap
def av_rt (cc : ByteArray) (ret : Option FieldType) (pc : Nat) (v : Option Value) : Prop :=
  (v = none ∧ ret = none ∧ decode cc pc = .ok (.return_, 1)) ∨ (∃ x : Int32, v = some (.int x) ∧ decode cc pc = .ok (.ireturn, 1) ∧ ∃ ty, ret = some ty ∧ narrow ty (.int x) = .int x)
abbrev av_Ex : Type := av_X → (Nat → Prop) → State → Prop
def av_E0 : av_Ex := fun _ _ _ => True
def av_F (l : Launch) (own : String) (cc : ByteArray) (nL : Nat) (ret : Option FieldType) (E : av_Ex) (d : Nat) (Q : Option Value → av_S → Prop) (X : av_X) (p : Program) (e : Env) (R : Room) (s : State) (m : MethodId) (args : Array Value) (below : List Frame) (meth : Method) (c : Code) (A : Nat → Prop) (cells slots : Nat) (Z : State → Prop) : Prop :=
  p.tables.exec = Jvm.exec ∧ c.code = cc ∧ c.maxLocals = nL ∧ s.vm.findClass own = some m.cls ∧ (∀ w ∈ wG, w.before args s = true) ∧ (∀ w ∈ wN, va_Nw w s) ∧ av_G X A s ∧ E X A s ∧ va_K X.1 vwCl (av_tys X) s ∧ (∀ q, s.heap.size ≤ q → A q) ∧ (∀ σ, va_D A (av_w X σ)) ∧ (d ≤ R.frames ∧ 40 * d ≤ R.locals) ∧ (cells ≤ R.cells ∧ slots ≤ R.slots) ∧
  ∀ (v : Option Value) (σ : av_S) (H : Heap) (locs : List Loc) (pc : Nat) (ls : Array Slot), Q v σ → va_P X.1 vwCl (av_w X σ) H → va_S A s.heap H locs → av_rt cc ret pc v → W p l e R s m args below meth c H locs cells slots Z (F0 m pc ls v.toList)
def av_Ev (l : Launch) (own : String) (cc : ByteArray) (nL : Nat) (ret : Option FieldType) (E : av_Ex) (d pc : Nat) (lv : List (Nat × Value)) (st : List Value) (σ : av_S) (Q : Option Value → av_S → Prop) : Prop :=
  ∀ (X : av_X) (p : Program) (e : Env) (R : Room) (s : State) (m : MethodId) (args : Array Value) (below : List Frame) (meth : Method) (c : Code) (A : Nat → Prop) (cells slots : Nat) (Z : State → Prop), av_F l own cc nL ret E d Q X p e R s m args below meth c A cells slots Z →
    ∀ (H : Heap) (locs : List Loc) (ls : Array Slot), va_P X.1 vwCl (av_w X σ) H → va_S A s.heap H locs → lv_has ls nL (av_l X lv) → W p l e R s m args below meth c H locs cells slots Z (F0 m pc ls (st.map (av_t X)))
/-- a method: from these arguments and this store it comes to its end with this answer and that store -/
def av_M (l : Launch) (own : String) (cc : ByteArray) (nL : Nat) (ret : Option FieldType) (d : Nat) (vs : List Value) (σ : av_S) (r : Option Value) (σ' : av_S) : Prop :=
  ∀ (Q : Option Value → av_S → Prop), Q r σ' → av_Ev l own cc nL ret av_E0 d 0 (lv_args 0 vs) [] σ Q
