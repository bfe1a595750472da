/-! ===== a method's judgement gives its contract; calls ===== -/
def av_rm (d : Nat) : Room := { frames := d, cells := 0, slots := 0, locals := 40 * d }
def av_Qc (X : av_X) (Q : Option Value → av_S → Prop) (A : Nat → Prop) : Array Value → State → Outcome → State → Prop := fun _ st oc t => (∃ (v : Option Value) (σ : av_S), oc = .returned v ∧ Q v σ ∧ va_P X.1 vwCl (av_w X σ) t.heap) ∧ va_F A st t
def av_B (X : av_X) (σ : av_S) (sz : Nat) (U : State) : Prop := U.heap.size = sz ∧ va_P X.1 vwCl (av_w X σ) U.heap ∧ va_K X.1 vwCl (av_tys X) U ∧ va_D (fun _ => True) (av_w X σ) ∧ (∀ w ∈ wN, va_Nw w U) ∧ av_G X (va_A (av_w X σ) sz) U
theorem av_G_same {X : av_X} {A : Nat → Prop} {s U : State} (hv : U.vm = s.vm) (hh : U.heap = s.heap) (h : av_G X A s) : av_G X A U := by
  refine ⟨vk_R.same hv h.1, ?_, ?_⟩
  · rw [hh]
    exact vk_S.moved (by rw [hv]; exact Vm.Alike.refl _) h.2.1
  · rw [hh]
    exact va_Z.moved (by rw [hv]; exact Vm.Alike.refl _) h.2.2
theorem av_G_go {X : av_X} {A B : Nat → Prop} {s U : State} {H : Heap} {locs : List Loc} (hW : s.WarmedH U.vm) (hU : U.heap = H) (hS : va_S A s.heap H locs) (hAB : ∀ q, B q → A q) (h : av_G X A s) : av_G X B U := by
  refine ⟨vk_R.warm hW h.1, ?_, ?_⟩
  · rw [hU]
    exact vk_S.moved hW.alike ((h.2.1.kept hS.2.1).narrow hAB)
  · rw [hU]
    exact va_Z.moved hW.alike ((h.2.2.kept hS.2.1).narrow hAB)
theorem av_blind {X : av_X} {σ : av_S} {sz : Nat} {av : List Value} : FrameBlind (va_Pc av (av_B X σ sz)) := by
  intro a U g mk q
  obtain ⟨h0, h1, h2, h3, h4, h5, h6⟩ := q
  exact ⟨h0, h1, h2, va_K.moved (u := U) (U := U.calling g mk a) (Vm.Alike.refl U.vm) h3, h4, fun w hw => av_N_same (s := U) (U := U.calling g mk a) (List.mem_filter.mp hw).2 rfl (h5 w hw), av_G_same (s := U) (U := U.calling g mk a) rfl rfl h6⟩
theorem av_met {l : Launch} {own : String} {cc : ByteArray} {nL : Nat} {ret : Option FieldType} {d : Nat} {vs : List Value} {σ : av_S} {Q : Option Value → av_S → Prop} {y : MethodName} (hy : plainName y.cls = true) (hcl : y.cls = own) (hvl : (lg_sl vs).length ≤ nL) (hEv : av_Ev l own cc nL ret av_E0 d 0 (lv_args 0 vs) [] σ Q) (X : av_X) (sz : Nat) :
    Met l y (.code y cc nL ret :: wG) (av_rm d) (va_Pc (vs.map (av_t X)) (av_B X σ sz)) (av_Qc X Q (va_A (av_w X σ) sz)) 0 0 (va_A (av_w X σ) sz) := by
  refine Met.ofW (cc := cc) (maxL := nL) (ret := ret) hy rfl ?_
  intro p e s m args below meth c s₁ B hml hv
  obtain ⟨rfl, hsz, hP, hK, hD0, hN, hG⟩ := hv
  have hts := atoms_spec (ws := .code y cc nL ret :: wG) B.pre
  have hown : s.vm.findClass own = some m.cls := by rw [← hcl]; exact findClass_of_methodNamed B.named
  subst hsz
  have hl := lv_entry (vs.map (av_t X)) (n := nL) (by rw [av_sl]; exact hvl)
  rw [lg_entry_eq]
  generalize (lg_sl (vs.map (av_t X)) ++ List.replicate (nL - (lg_sl (vs.map (av_t X))).length) Slot.unset).toArray = ls at hl ⊢
  rw [← av_args] at hl
  refine hEv X p e _ s m _ below meth c (va_A (av_w X σ) s.heap.size) 0 0 _ ⟨B.exec, B.bytes, hml, hown, fun w hw => hts w (List.mem_cons_of_mem _ hw), hN, hG, trivial, hK, fun q h => Or.inr h, fun σ' => av_D_any hD0.self, ⟨Nat.le_refl _, Nat.le_refl _⟩, ⟨Nat.zero_le _, Nat.zero_le _⟩, ?_⟩ s.heap [] ls hP va_S.rf hl
  intro v σ' H locs pc ls hQ hP' hS' hrt
  rcases hrt with ⟨rfl, hr0, hd⟩ | ⟨x, rfl, hd, ty, hr0, hn⟩
  · exact W.vret B.exec B.bytes (B.returns.trans hr0) (fun t ht hW => ⟨⟨none, σ', rfl, hQ, by rw [ht]; exact hP'⟩, hS'.F ht⟩) hS'.2.2 hd (hlocks := B.notSynchronized)
  · exact W.zret B.exec B.bytes (B.returns.trans hr0) hn (fun t ht hW => ⟨⟨some (.int x), σ', rfl, hQ, by rw [ht]; exact hP'⟩, hS'.F ht⟩) hS'.2.2 hd (hlocks := B.notSynchronized)
theorem av_callW {p : Program} {l : Launch} {e : Env} {R : Room} {s : State} {m : MethodId} {args : Array Value} {below : List Frame} {meth : Method} {c : Code} {H : Heap} {locs : List Loc} {cells slots : Nat} {Z : State → Prop} {pc : Nat} {ls : Array Slot} {rest st0 : List Value} {a : Array Value} {A0 A1 : Nat → Prop} {H0 : Heap} {X : av_X} {Q : Option Value → av_S → Prop}
    (hr : va_Run p l e R s m args below meth c H locs cells slots 0 0 (F0 m pc ls st0) rest (av_Qc X Q A1 a) A1) (hS : va_S A0 H0 H locs) (hA : ∀ q, A1 q → A0 q)
    (kk : ∀ (v : Option Value) (σ : av_S) (H1 : Heap) (locs1 : List Loc), Q v σ → va_P X.1 vwCl (av_w X σ) H1 → va_S A0 H0 H1 locs1 → W p l e R s m args below meth c H1 locs1 cells slots Z (F0 m (pc + 3) ls (v.toList ++ rest))) : W p l e R s m args below meth c H locs cells slots Z (F0 m pc ls st0) := by
  intro T hT X1
  obtain ⟨v, st₀, t, T', L, h0, X', hL, e1, e2, ⟨⟨v', σ, hv, hq, hp⟩, hz, hk⟩, st⟩ := hr T hT X1
  cases hv
  rw [h0] at hz hk
  obtain ⟨t2, a1, b1⟩ := kk v σ T'.heap (locs ++ L) hq (by rw [e1]; exact hp)
    ⟨Nat.le_trans hS.1 (by rw [e1]; exact hz), fun q h1 h2 => by rw [e1, hk q (Nat.lt_of_lt_of_le h1 hS.1) (fun z => h2 (hA q z))]; exact hS.2.1 q h1 h2, fun q hq => by
      rcases List.mem_append.mp hq with h | h
      · exact hS.2.2 q h
      · exact hA _ (hL q h)⟩ T' rfl X'
  exact ⟨t2, st t2 a1, b1⟩
theorem av_free {X : av_X} {A : Nat → Prop} {σ : av_S} {H0 H : Heap} {locs : List Loc} (hD : va_D A (av_w X σ)) (hS : va_S A H0 H locs) (hA : ∀ q, H0.size ≤ q → A q) : ∀ q, va_A (av_w X σ) H.size q → A q := by
  intro q h
  rcases h with ⟨k, e, h⟩ | h
  · exact hD.2 k (q, e) h
  · exact hA q (Nat.le_trans hS.1 h)
/-- what a callee is: its name, code and number of parameters are as the tables have them -/
def av_Y (y : MethodName) (cc : ByteArray) (nL : Nat) (ret : Option FieldType) (n : Nat) : Prop := Cond.code y cc nL ret ∈ wG ∧ Cond.initialized y.cls ∈ wG ∧ (y.cls ≠ "java/lang/invoke/MethodHandle" ∧ y.cls ≠ "java/lang/invoke/VarHandle" ∧ (parseMethodDescriptor y.desc).map (fun d => d.parameters.length) = some n) ∧ plainName y.cls = true ∧ nL ≤ 21
def av_Yv (y : MethodName) (cc : ByteArray) (nL : Nat) (ret : Option FieldType) (n : Nat) : Prop := av_Y y cc nL ret n ∧ Cond.instanceMethod y ∈ wG ∧ Cond.selects y.cls y y ∈ wG
def av_Ys (y : MethodName) (cc : ByteArray) (nL : Nat) (ret : Option FieldType) (n : Nat) : Prop := av_Y y cc nL ret n ∧ Cond.static y ∈ wG
theorem av_Y_good {y : MethodName} {cc : ByteArray} {nL n : Nat} {ret : Option FieldType} (h : av_Y y cc nL ret n) : GoodIn wG (.code y cc nL ret :: wG) := wG_good (fun w hw => by
  rcases List.mem_cons.mp hw with e | e
  · rw [e]; exact h.1
  · exact e)
def av_ml (own : String) (index : Nat) (y : MethodName) : Prop := Cond.methodLink own index y ∈ wG
def av_mlN (own : String) (index : Nat) (y : MethodName) : Prop := ∃ host, Cond.methodLinkNest own index y host ∈ wN
section AvCalls
variable {l : Launch} {own : String} {cc : ByteArray} {nL : Nat} {ret : Option FieldType} {E : av_Ex} {d pc : Nat} {lv lv' : List (Nat × Value)} {st : List Value} {σ σ' : av_S} {Q : Option Value → av_S → Prop}
variable {y : MethodName} {cy : ByteArray} {nY n d' index : Nat} {rY : Option FieldType} {vs stk : List Value} {r : Option Value}
theorem av_rooms {X : av_X} {p : Program} {e : Env} {R : Room} {s : State} {m : MethodId} {args : Array Value} {below : List Frame} {meth : Method} {c : Code} {A : Nat → Prop} {cells slots : Nat} {Z : State → Prop} (F : av_F l own cc nL ret E d Q X p e R s m args below meth c A cells slots Z) (hdd : d' + 1 ≤ d) (hn : nY ≤ 21) : (av_rm d').frames + 1 ≤ R.frames ∧ 8 + (nY + 11) + (av_rm d').locals ≤ R.locals := by
  have h := F.2.2.2.2.2.2.2.2.2.2.2.1
  have h2 : (av_rm d').frames = d' := rfl
  have h3 : (av_rm d').locals = 40 * d' := rfl
  rw [h2, h3]
  omega
theorem av_pre {X : av_X} {p : Program} {e : Env} {R : Room} {s : State} {m : MethodId} {args : Array Value} {below : List Frame} {meth : Method} {c : Code} {A : Nat → Prop} {cells slots : Nat} {Z : State → Prop} {H : Heap} {locs : List Loc} (F : av_F l own cc nL ret E d Q X p e R s m args below meth c A cells slots Z) (hP : va_P X.1 vwCl (av_w X σ) H) (hS : va_S A s.heap H locs) (av : List Value) : ∀ U : State, U.heap = H → s.WarmedH U.vm → va_Pc av (av_B X σ H.size) av.toArray U := by
  intro U hU hW
  exact ⟨rfl, by rw [hU], by rw [hU]; exact hP, va_K.moved hW.alike F.2.2.2.2.2.2.2.2.1, (F.2.2.2.2.2.2.2.2.2.2.1 σ).weaken (fun _ _ _ _ => trivial), fun w hw => av_N_warm (List.mem_filter.mp hw).2 hW (F.2.2.2.2.2.1 w hw), av_G_go hW hU hS (av_free (F.2.2.2.2.2.2.2.2.2.2.1 σ) hS F.2.2.2.2.2.2.2.2.2.1) F.2.2.2.2.2.2.1⟩
theorem ev_callS0 (hd : decode cc pc = .ok (.invokestatic index, 3)) (hL : av_ml own index y ∨ av_mlN own index y) (hY : av_Ys y cy nY rY n) (hM : av_M l y.cls cy nY rY d' vs σ r σ') (hdd : d' + 1 ≤ d) (hvl : (lg_sl vs).length ≤ nY) (hn : vs.length = n) (hst : stk = vs.reverse ++ st) (hrm : (st.map fun v => v.category).sum ≤ 8)
    (kk : ∀ X : av_X, ∀ (p : Program) (e : Env) (R : Room) (s : State) (m : MethodId) (args : Array Value) (below : List Frame) (meth : Method) (c : Code) (A : Nat → Prop) (cells slots : Nat) (Z : State → Prop), av_F l own cc nL ret E d Q X p e R s m args below meth c A cells slots Z → ∀ (H : Heap) (locs : List Loc) (ls : Array Slot), va_P X.1 vwCl (av_w X σ') H → va_S A s.heap H locs → lv_has ls nL (av_l X lv) → W p l e R s m args below meth c H locs cells slots Z (F0 m (pc + 3) ls (r.toList ++ st.map (av_t X)))) : av_Ev l own cc nL ret E d pc lv stk σ Q := by
  intro X p e R s m args below meth c A cells slots Z F H locs ls hP hS hl
  subst hst
  have hMet := av_met hY.1.2.2.2.1 rfl hvl (hM (fun v τ => v = r ∧ τ = σ') ⟨rfl, rfl⟩) X H.size
  have hR := av_rooms F hdd hY.1.2.2.2.2
  have hpre : PreS s H (va_Pc (vs.map (av_t X)) (av_B X σ H.size)) (vs.map (av_t X)) := ⟨av_blind, av_pre F hP hS _⟩
  have hstk : (F0 m pc ls ((vs.reverse ++ st).map (av_t X))).stack = (vs.map (av_t X)).reverse ++ st.map (av_t X) := by
    show (vs.reverse ++ st).map (av_t X) = _
    rw [List.map_append, List.map_reverse]
  have hfin : ∀ (v : Option Value) (τ : av_S) (H1 : Heap) (locs1 : List Loc), (v = r ∧ τ = σ') → va_P X.1 vwCl (av_w X τ) H1 → va_S A s.heap H1 locs1 → W p l e R s m args below meth c H1 locs1 cells slots Z (F0 m (pc + 3) ls (v.toList ++ st.map (av_t X))) := by
    intro v τ H1 locs1 hq h1 h2
    obtain ⟨rfl, rfl⟩ := hq
    exact kk X p e R s m args below meth c A cells slots Z F H1 locs1 ls h1 h2 hl
  have hcells : cells + 0 ≤ R.cells ∧ slots + 0 ≤ R.slots := F.2.2.2.2.2.2.2.2.2.2.2.2.1
  rcases hL with hL | ⟨host, hL⟩
  · refine av_callW (va_runS (As := vs.map (av_t X)) (rest := st.map (av_t X)) (n := n) (bytes := cy) (maxL := nY) (ret := rY) (nL := nL) (own := own) (index := index) (Ts := wG) ⟨F.1, F.2.1, F.2.2.1, F.2.2.2.1, F.2.2.2.2.1⟩ hMet ⟨callB_of n F.2.2.2.2.1 (av_Y_good hY.1) rfl rfl rfl (F.2.2.2.2.1 _ hY.1.2.1) (F.2.2.2.2.1 _ hL) hY.1.2.2.1 hR, F.2.2.2.2.1 _ hY.2⟩ hpre rfl (by rw [List.length_map]; exact hn) hl.1 hstk (by rw [av_cats]; show 2 * 0 + _ ≤ 8; omega) hd hcells) hS (av_free (F.2.2.2.2.2.2.2.2.2.2.1 σ) hS F.2.2.2.2.2.2.2.2.2.1) hfin
  · refine av_callW (va_runSN (As := vs.map (av_t X)) (rest := st.map (av_t X)) (n := n) (bytes := cy) (maxL := nY) (ret := rY) (nL := nL) (own := own) (host := host) (index := index) (Ts := wG) ⟨F.1, F.2.1, F.2.2.1, F.2.2.2.1, F.2.2.2.2.1⟩ hMet ⟨va_cnB n F.2.2.2.2.1 (av_Y_good hY.1) rfl rfl rfl (F.2.2.2.2.2.1 _ hL) (F.2.2.2.2.1 _ hY.1.2.1) hY.1.2.2.1 hR, F.2.2.2.2.1 _ hY.2, trivial⟩ hpre rfl (by rw [List.length_map]; exact hn) hl.1 hstk (by rw [av_cats]; show 2 * 0 + _ ≤ 8; omega) hd hcells) hS (av_free (F.2.2.2.2.2.2.2.2.2.2.1 σ) hS F.2.2.2.2.2.2.2.2.2.1) hfin
theorem ev_callV0 {k ci N : Nat} {T : u_T} {fl : List (Option Nat)} (hd : decode cc pc = .ok (.invokevirtual index, 3)) (hL : av_ml own index y) (hY : av_Yv y cy nY rY n) (hM : av_M l y.cls cy nY rY d' (.ref k :: vs) σ r σ') (hdd : d' + 1 ≤ d) (hvl : (lg_sl (.ref k :: vs)).length ≤ nY) (hk : k < 86) (hs : av_sh k = .inl (ci, fl)) (hci : vwCl[ci]? = some (y.cls, T, N)) (hn : vs.length = n) (hst : stk = vs.reverse ++ .ref k :: st) (hrm : (st.map fun v => v.category).sum ≤ 8)
    (kk : ∀ X : av_X, ∀ (p : Program) (e : Env) (R : Room) (s : State) (m : MethodId) (args : Array Value) (below : List Frame) (meth : Method) (c : Code) (A : Nat → Prop) (cells slots : Nat) (Z : State → Prop), av_F l own cc nL ret E d Q X p e R s m args below meth c A cells slots Z → ∀ (H : Heap) (locs : List Loc) (ls : Array Slot), va_P X.1 vwCl (av_w X σ') H → va_S A s.heap H locs → lv_has ls nL (av_l X lv) → W p l e R s m args below meth c H locs cells slots Z (F0 m (pc + 3) ls (r.toList ++ st.map (av_t X)))) : av_Ev l own cc nL ret E d pc lv stk σ Q := by
  intro X p e R s m args below meth c A cells slots Z F H locs ls hP hS hl
  subst hst
  have hMet := av_met hY.1.2.2.2.1 rfl hvl (hM (fun v τ => v = r ∧ τ = σ') ⟨rfl, rfl⟩) X H.size
  have hR := av_rooms F hdd hY.1.2.2.2.2
  have hpre : PreV s H y.cls (X.2.1 k) (va_Pc ((Value.ref k :: vs).map (av_t X)) (av_B X σ H.size)) (vs.map (av_t X)) := ⟨av_blind, va_recv F.2.2.2.2.2.2.2.2.1 hP hci (av_sh_in hk hs), av_pre F hP hS _⟩
  have hstk : (F0 m pc ls ((vs.reverse ++ .ref k :: st).map (av_t X))).stack = (vs.map (av_t X)).reverse ++ .ref (X.2.1 k) :: st.map (av_t X) := by
    show (vs.reverse ++ .ref k :: st).map (av_t X) = _
    rw [List.map_append, List.map_reverse]
    rfl
  have hcells : cells + 0 ≤ R.cells ∧ slots + 0 ≤ R.slots := F.2.2.2.2.2.2.2.2.2.2.2.2.1
  refine av_callW (va_runV (As := vs.map (av_t X)) (rest := st.map (av_t X)) (n := n) (C := y.cls) (bytes := cy) (maxL := nY) (ret := rY) (nL := nL) (own := own) (index := index) (Ts := wG) ⟨F.1, F.2.1, F.2.2.1, F.2.2.2.1, F.2.2.2.2.1⟩ hMet ⟨callB_of n F.2.2.2.2.1 (av_Y_good hY.1) rfl rfl rfl (F.2.2.2.2.1 _ hY.1.2.1) (F.2.2.2.2.1 _ hL) hY.1.2.2.1 hR, F.2.2.2.2.1 _ hY.2.1, F.2.2.2.2.1 _ hY.2.2⟩ hpre rfl (by rw [List.length_map]; exact hn) hl.1 hstk (by rw [av_cats]; show 2 * 0 + _ ≤ 8; omega) hd hcells) hS (av_free (F.2.2.2.2.2.2.2.2.2.2.1 σ) hS F.2.2.2.2.2.2.2.2.2.1) (fun v τ H1 locs1 hq h1 h2 => ?_)
  obtain ⟨rfl, rfl⟩ := hq
  exact kk X p e R s m args below meth c A cells slots Z F H1 locs1 ls h1 h2 hl
theorem ev_callSi {x : Int32} (hd : decode cc pc = .ok (.invokestatic index, 3)) (hL : av_ml own index y ∨ av_mlN own index y) (hY : av_Ys y cy nY rY n) (vs : List Value) (hM : av_M l y.cls cy nY rY d' vs σ (some (.int x)) σ') (hdd : d' + 1 ≤ d) (hvl : (lg_sl vs).length ≤ nY) (hn : vs.length = n) (hst : stk = vs.reverse ++ st) (hrm : (st.map fun v => v.category).sum ≤ 8) (k : av_Ev l own cc nL ret E d (pc + 3) lv (.int x :: st) σ' Q) : av_Ev l own cc nL ret E d pc lv stk σ Q := ev_callS0 hd hL hY hM hdd hvl hn hst hrm k
theorem ev_callSv (hd : decode cc pc = .ok (.invokestatic index, 3)) (hL : av_ml own index y ∨ av_mlN own index y) (hY : av_Ys y cy nY rY n) (vs : List Value) (hM : av_M l y.cls cy nY rY d' vs σ none σ') (hdd : d' + 1 ≤ d) (hvl : (lg_sl vs).length ≤ nY) (hn : vs.length = n) (hst : stk = vs.reverse ++ st) (hrm : (st.map fun v => v.category).sum ≤ 8) (k : av_Ev l own cc nL ret E d (pc + 3) lv st σ' Q) : av_Ev l own cc nL ret E d pc lv stk σ Q := ev_callS0 hd hL hY hM hdd hvl hn hst hrm k
theorem ev_callVi {k ci N : Nat} {T : u_T} {fl : List (Option Nat)} {x : Int32} (hd : decode cc pc = .ok (.invokevirtual index, 3)) (hL : av_ml own index y) (hY : av_Yv y cy nY rY n) (vs : List Value) (hM : av_M l y.cls cy nY rY d' (.ref k :: vs) σ (some (.int x)) σ') (hdd : d' + 1 ≤ d) (hvl : (lg_sl (.ref k :: vs)).length ≤ nY) (hk : k < 86) (hs : av_sh k = .inl (ci, fl)) (hci : vwCl[ci]? = some (y.cls, T, N)) (hn : vs.length = n) (hst : stk = vs.reverse ++ .ref k :: st) (hrm : (st.map fun v => v.category).sum ≤ 8) (kk : av_Ev l own cc nL ret E d (pc + 3) lv (.int x :: st) σ' Q) : av_Ev l own cc nL ret E d pc lv stk σ Q := ev_callV0 hd hL hY hM hdd hvl hk hs hci hn hst hrm kk
theorem ev_callVv {k ci N : Nat} {T : u_T} {fl : List (Option Nat)} (hd : decode cc pc = .ok (.invokevirtual index, 3)) (hL : av_ml own index y) (hY : av_Yv y cy nY rY n) (vs : List Value) (hM : av_M l y.cls cy nY rY d' (.ref k :: vs) σ none σ') (hdd : d' + 1 ≤ d) (hvl : (lg_sl (.ref k :: vs)).length ≤ nY) (hk : k < 86) (hs : av_sh k = .inl (ci, fl)) (hci : vwCl[ci]? = some (y.cls, T, N)) (hn : vs.length = n) (hst : stk = vs.reverse ++ .ref k :: st) (hrm : (st.map fun v => v.category).sum ≤ 8) (kk : av_Ev l own cc nL ret E d (pc + 3) lv st σ' Q) : av_Ev l own cc nL ret E d pc lv stk σ Q := ev_callV0 hd hL hY hM hdd hvl hk hs hci hn hst hrm kk
theorem av_M.mono {vs : List Value} (hdd : d' ≤ d) (h : av_M l own cc nL ret d' vs σ r σ') : av_M l own cc nL ret d vs σ r σ' := fun Q hQ => ev_mono hdd (h Q hQ)
end AvCalls
