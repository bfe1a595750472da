/-! ===== constructors: a judgement over a world that grows ===== -/
def ctT (c : Nat → ClassId) : List (ClassId × FieldType) := [(c 0, .int), (c 1, .char), (c 2, .object RX4), (c 3, .array .int)]
def ctN (s : State) : Prop := (∀ w ∈ wN, va_Nw w s) ∧ va_AO RX4 s ∧ va_AOA .int s
theorem ctN.warm {s U : State} (hW : s.WarmedH U.vm) (h : ctN s) : ctN U := ⟨fun w hw => av_N_warm (List.mem_filter.mp hw).2 hW (h.1 w hw), va_AO.moved hW.alike h.2.1, va_AOA.moved hW.alike h.2.2⟩
def ctF (own : String) (cc : ByteArray) (nL : Nat) (D : va_G) (k4 : Nat → ClassId) (p : Program) (s : State) (m : MethodId) (args : Array Value) (meth : Method) (c : Code) (A : Nat → Prop) : Prop :=
  p.tables.exec = Jvm.exec ∧ c.code = cc ∧ c.maxLocals = nL ∧ s.vm.findClass own = some m.cls ∧ (∀ w ∈ wG, w.before args s = true) ∧ ctN s ∧ meth.name = "<init>" ∧ va_K D vwCl (ctT k4) s ∧ (∀ q, s.heap.size ≤ q → A q)
def ctEv (l : Launch) (own : String) (cc : ByteArray) (nL : Nat) (D : va_G) (k4 : Nat → ClassId) (R : Room) (pc : Nat) (lv : List (Nat × Value)) (st : List Value) (ws : va_W) (cells slots : Nat) (Q : va_W → Nat → Nat → Prop) : Prop :=
  ∀ (p : Program) (e : Env) (s : State) (m : MethodId) (args : Array Value) (below : List Frame) (meth : Method) (c : Code) (A : Nat → Prop) (Z : State → Prop), ctF own cc nL D k4 p s m args meth c A →
    (∀ (ws' : va_W) (n k : Nat) (H : Heap) (locs : List Loc) (ls : Array Slot) (pc' : Nat), Q ws' n k → va_P D vwCl ws' H → va_D A ws' → va_S A s.heap H locs → decode cc pc' = .ok (.return_, 1) → W p l e R s m args below meth c H locs n k Z (F0 m pc' ls [])) →
    ∀ (H : Heap) (locs : List Loc) (ls : Array Slot), va_P D vwCl ws H → va_D A ws → va_S A s.heap H locs → lv_has ls nL lv → W p l e R s m args below meth c H locs cells slots Z (F0 m pc ls st)
def ctP (D : va_G) (k4 : Nat → ClassId) (ws : va_W) (sz : Nat) (U : State) : Prop := U.heap.size = sz ∧ va_P D vwCl ws U.heap ∧ va_K D vwCl (ctT k4) U ∧ va_D (fun _ => True) ws ∧ ctN U
theorem ct_blind {D : va_G} {k4 : Nat → ClassId} {ws : va_W} {sz : Nat} {av : List Value} : FrameBlind (va_Pc av (ctP D k4 ws sz)) := by
  intro a U g mk q
  obtain ⟨h0, h1, h2, h3, h4, h5⟩ := q
  exact ⟨h0, h1, h2, va_K.moved (u := U) (U := U.calling g mk a) (Vm.Alike.refl U.vm) h3, h4, fun w hw => av_N_same (s := U) (U := U.calling g mk a) (List.mem_filter.mp hw).2 rfl (h5.1 w hw), va_AO.moved (u := U) (U := U.calling g mk a) (Vm.Alike.refl U.vm) h5.2.1, va_AOA.moved (u := U) (U := U.calling g mk a) (Vm.Alike.refl U.vm) h5.2.2⟩
/-- a constructor's contract: its object's cell becomes the cells w -/
def ctM (l : Launch) (y : MethodName) (cy : ByteArray) (nY : Nat) (D : va_G) (k4 : Nat → ClassId) (ci : Nat) (fs : List Value) (rm : Room) (mc ms : Nat) (w : Nat → (Nat → Nat → Nat) → va_W) : Prop :=
  ∀ h0 sz, Met l y (.code y cy nY none :: wG) rm (va_Pc [.ref h0] (ctP D k4 [(h0, .inr (ci, fs))] sz)) (va_Qv (fun _ : Nat → Nat → Nat => True) (fun u t => va_P D vwCl (w h0 u) t.heap ∧ va_D (va_A [(h0, .inr (ci, fs))] sz) (w h0 u)) (va_A [(h0, .inr (ci, fs))] sz)) mc ms (va_A [(h0, .inr (ci, fs))] sz)
theorem ct_met {l : Launch} {y : MethodName} {cy : ByteArray} {nY : Nat} {D : va_G} {k4 : Nat → ClassId} {ci : Nat} {fs : List Value} {rm : Room} {mc ms : Nat} {w : Nat → (Nat → Nat → Nat) → va_W} (hy : plainName y.cls = true) (hyn : y.name = "<init>") (hn1 : 1 ≤ nY) (hrc : rm.cells = mc) (hrs : rm.slots = ms) (h : ∀ h0, ctEv l y.cls cy nY D k4 rm 0 [(0, .ref h0)] [] [(h0, .inr (ci, fs))] 0 0 (fun ws' n k => (∃ u, ws' = w h0 u) ∧ n ≤ mc ∧ k ≤ ms)) : ctM l y cy nY D k4 ci fs rm mc ms w := by
  intro h0 sz
  subst hrc
  subst hrs
  refine Met.ofW (cc := cy) (maxL := nY) (ret := none) hy rfl ?_
  intro p e s m args below meth c s₁ B hml hv
  obtain ⟨rfl, hsz, hP, hK, hD0, hN⟩ := hv
  have hts := atoms_spec (ws := .code y cy nY none :: wG) B.pre
  have hown : s.vm.findClass y.cls = some m.cls := findClass_of_methodNamed B.named
  have hin : meth.name = "<init>" := ((name_of_methodNamed B.named B.method).1).trans hyn
  subst hsz
  have hD := hD0.self (sz := s.heap.size)
  have hl := lv_entry ([.ref h0]) (n := nY) hn1
  rw [lg_entry_eq]
  generalize (lg_sl ([.ref h0]) ++ List.replicate (nY - (lg_sl ([.ref h0])).length) Slot.unset).toArray = ls at hl ⊢
  refine h h0 p e s m _ below meth c (va_A [(h0, .inr (ci, fs))] s.heap.size) _ ⟨B.exec, B.bytes, hml, hown, fun w hw => hts w (List.mem_cons_of_mem _ hw), hN, hin, hK, fun q hq => Or.inr hq⟩ (fun ws' n k H locs ls pc' hQ hP' hD' hS' hd => ?_) s.heap [] ls hP hD va_S.rf hl
  obtain ⟨⟨u, rfl⟩, hn, hk⟩ := hQ
  refine W.widen hn hk ?_
  exact W.vret B.exec B.bytes B.returns (fun t ht hW => ⟨⟨u, rfl, trivial, by rw [ht]; exact hP', hD'⟩, hS'.F ht⟩) hS'.2.2 hd (hlocks := B.notSynchronized)
theorem ct_join {D : va_G} {cl : List vw_C} {A0 : Nat → Prop} {ws w1 : va_W} {x : Nat × va_E} {H H1 : Heap} (hP : va_P D cl (ws ++ [x]) H) (hD : va_D A0 (ws ++ [x])) (hk : ∀ q : Nat, q < H.size → ¬ va_A [x] H.size q → H1[q]? = H[q]?) (hF : ∀ q, va_A [x] H.size q → A0 q) (hP1 : va_P D cl w1 H1) (hD1 : va_D (va_A [x] H.size) w1) : va_P D cl (ws ++ w1) H1 ∧ va_D A0 (ws ++ w1) := by
  have hP2 : va_P D cl ([x] ++ ws) H := va_P.swap (a := []) hP
  have hD2 : va_D A0 ([x] ++ ws) := va_D.swap (a := []) hD
  obtain ⟨h1, h2⟩ := va_joinQ (X := [x]) (cx := [x]) (wr := []) (pl := ws) hP2 hD2 [0] [] rfl rfl rfl (fun i hi => by cases hi) hk hF hP1 hD1
  exact ⟨va_P.swap (a := []) h1, va_D.swap (a := []) h2⟩
def ctLk (own : String) (index : Nat) (y : MethodName) : Prop := Cond.methodLink own index y ∈ wG ∨ ∃ host, Cond.methodLinkNest own index y host ∈ wN
def ctY (y : MethodName) (cy : ByteArray) (nY : Nat) : Prop := Cond.code y cy nY none ∈ wG ∧ Cond.initialized y.cls ∈ wG ∧ Cond.instanceMethod y ∈ wG ∧ y.name = "<init>" ∧ (y.cls ≠ "java/lang/invoke/MethodHandle" ∧ y.cls ≠ "java/lang/invoke/VarHandle" ∧ (parseMethodDescriptor y.desc).map (fun d => d.parameters.length) = some 0)
section CtCall
variable {l : Launch} {p : Program} {e : Env} {R : Room} {s : State} {m : MethodId} {args : Array Value} {below : List Frame} {meth : Method} {c : Code} {H : Heap} {locs : List Loc} {cells slots : Nat} {Z : State → Prop}
variable {own : String} {cc : ByteArray} {nL pc : Nat} {ls : Array Slot} {rest : List Value} {D : va_G} {k4 : Nat → ClassId} {A : Nat → Prop} {ws : va_W}
/-- <init> of the cell that came last -/
theorem ct_callW {y : MethodName} {cy : ByteArray} {nY ci index mc ms q : Nat} {fs : List Value} {rm : Room} {w : Nat → (Nat → Nat → Nat) → va_W} (hM : ctM l y cy nY D k4 ci fs rm mc ms w) (hY : ctY y cy nY) (hrc : rm.cells = mc) (hrs : rm.slots = ms) (hLk : ctLk own index y) (hx : p.tables.exec = Jvm.exec) (hb : c.code = cc) (hml : c.maxLocals = nL) (hown : s.vm.findClass own = some m.cls) (hts : ∀ w ∈ wG, w.before args s = true) (hN : ctN s) (hK : va_K D vwCl (ctT k4) s) (hA : ∀ q, s.heap.size ≤ q → A q)
    (hP : va_P D vwCl (ws ++ [(q, .inr (ci, fs))]) H) (hD : va_D A (ws ++ [(q, .inr (ci, fs))])) (hS : va_S A s.heap H locs) (hl : ls.size = nL) (hrm : (rest.map fun v => v.category).sum ≤ 8) (hR : rm.frames + 1 ≤ R.frames ∧ 8 + (nY + 11) + rm.locals ≤ R.locals) (hf : cells + mc ≤ R.cells ∧ slots + ms ≤ R.slots) (hd : decode cc pc = .ok (.invokespecial index, 3))
    (kk : ∀ (u : Nat → Nat → Nat) (H1 : Heap) (locs1 : List Loc), va_P D vwCl (ws ++ w q u) H1 → va_D A (ws ++ w q u) → va_S A s.heap H1 locs1 → W p l e R s m args below meth c H1 locs1 (cells + mc) (slots + ms) Z (F0 m (pc + 3) ls rest)) : W p l e R s m args below meth c H locs cells slots Z (F0 m pc ls (.ref q :: rest)) := by
  have hPc : va_P D vwCl [(q, .inr (ci, fs))] H := fun k x hx => hP (ws.length + k) x (by rw [List.getElem?_append_right (by omega), show ws.length + k - ws.length = k by omega]; exact hx)
  have hFc : ∀ z, va_A [(q, .inr (ci, fs))] H.size z → A z := by
    intro z hz
    rcases hz with ⟨k, x, hx⟩ | hz
    · exact hD.2 (ws.length + k) (z, x) (by rw [List.getElem?_append_right (by omega), show ws.length + k - ws.length = k by omega]; exact hx)
    · exact hA z (Nat.le_trans hS.1 hz)
  have hDc : va_D (fun _ => True) [((q, .inr (ci, fs)) : Nat × va_E)] := ⟨fun i j a b hi hj _ => by
    have h1 : i < 1 := (List.getElem?_eq_some_iff.mp hi).1
    have h2 : j < 1 := (List.getElem?_eq_some_iff.mp hj).1
    omega, fun _ _ _ => trivial⟩
  have hpre : PreS s H (va_Pc [.ref q] (ctP D k4 [(q, .inr (ci, fs))] H.size)) (.ref q :: []) := ⟨ct_blind, fun U hU hW => ⟨rfl, by rw [hU], by rw [hU]; exact hPc, va_K.moved hW.alike hK, hDc, hN.warm hW⟩⟩
  have hgood : GoodIn wG (.code y cy nY none :: wG) := wG_good (fun w hw => by
    rcases List.mem_cons.mp hw with e | e
    · rw [e]; exact hY.1
    · exact e)
  have hfin : ∀ (u : Nat → Nat → Nat) (t : State) (H1 : Heap) (locs1 : List Loc), t.heap = H1 → s.vm.Alike t.vm → True → (va_P D vwCl (w q u) t.heap ∧ va_D (va_A [(q, .inr (ci, fs))] H.size) (w q u)) → H.size ≤ H1.size → (∀ z : Nat, z < H.size → ¬ va_A [(q, .inr (ci, fs))] H.size z → H1[z]? = H[z]?) → va_S A s.heap H1 locs1 → W p l e R s m args below meth c H1 locs1 (cells + mc) (slots + ms) Z (F0 m (pc + 3) ls rest) := by
    intro u t H1 locs1 ht _ _ hB _ hk1 hS1
    rw [ht] at hB
    obtain ⟨g1, g2⟩ := ct_join hP hD hk1 hFc hB.1 hB.2
    exact kk u H1 locs1 g1 g2 hS1
  rcases hLk with hLk | ⟨host, hLk⟩
  · exact va_callv (va_runI (As := []) (rest := rest) (n := 0) (bytes := cy) (maxL := nY) (nL := nL) (own := own) (index := index) (Ts := wG) ⟨hx, hb, hml, hown, hts⟩ (hM q H.size) (cwI 0 hts hgood rfl hrc hrs (hts _ hY.2.1) (hts _ hLk) (hts _ hY.2.2.1) hY.2.2.2.1 hY.2.2.2.2 hR) hpre rfl rfl hl rfl (lv_room hrm) hd hf) hS (fun z _ h => hFc z h) hFc hfin
  · exact va_callv (va_runIN (As := []) (rest := rest) (n := 0) (bytes := cy) (maxL := nY) (nL := nL) (own := own) (host := host) (index := index) (Ts := wG) ⟨hx, hb, hml, hown, hts⟩ (hM q H.size) ⟨va_cnB 0 hts hgood rfl hrc hrs (hN.1 _ hLk) (hts _ hY.2.1) hY.2.2.2.2 hR, hY.2.2.2.1, hts _ hY.2.2.1⟩ hpre rfl rfl hl rfl (lv_room hrm) hd hf) hS (fun z _ h => hFc z h) hFc hfin
end CtCall
