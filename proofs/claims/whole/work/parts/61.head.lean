/-! THE CLAIM OUT OF ONE WALK OF THE LAW'S BODY. Your part is whole_start (and what it stands on); all else here is the same for every law, but numbers. -/
def R_law : String := "RelayNetworkLaw"
def lw_P (b : Addr) (xs : List Int32) (args : Array Value) (s : State) : Prop := args = #[.ref b] ∧ s.IntsAt b xs ∧ xs.length ≤ 2560 ∧ (Jvm.Cond.and given_1 narrow_1).before args s = true
def lw_Q (_ : Array Value) (s : State) (o : Outcome) (t : State) : Prop := o = .returned (some (.int 1)) ∧ Framed s o t [] 600000 7302250
def lw_Z (below : List Frame) (a : Array Value) (s : State) : State → Prop := fun t => ∃ o, t.status = .running ∧ Ended t below o ∧ lw_Q a s o t
/-- the law's own end, with 1 on the stack, nothing written that was there before, its room as the claim has it -/
theorem lw_ret {p : Program} {l : Launch} {e : Env} {s : State} {m : MethodId} {below : List Frame} {meth : Method} {c : Code} {b : Nat} (hx : p.tables.exec = Jvm.exec) (hb : c.code = code) (hr : meth.sig.returnType = ret) (hlocks : meth.locks = false) {pc : Nat} {H : Heap} {ls : Array Slot} (hdg : decode code pc = .ok (.ireturn, 1)) : W p l e room_1 s m #[Value.ref b] below meth c H [] 600000 7302250 (lw_Z below #[Value.ref b] s) (F0 m pc ls [.int 1]) := by
  intro T hT X
  obtain ⟨fs, hret, hrun, hended, hW, hframe⟩ := X.leave (v := some (.int 1)) (hlocks := hlocks) (fun h => by rw [hr] at h; cases h)
  have hmeth' : T.vm.method? m = some meth := X.method'
  refine ⟨T.setFrames fs, ?_, .returned (some (.int 1)), hrun, hended, rfl, ⟨_, rfl⟩, hW, hframe⟩
  jvm_step X.here [X.here.top, hx, hb, hdg, hmeth', hr, ret, narrow_b1]
  (try refine ⟨rfl, ?_⟩); (try refine ⟨rfl, ?_⟩)
  first | (intro acts; rw [hret _ acts rfl rfl rfl]) | rw [hret _ _ rfl rfl rfl]
  exact Steps.refl _
/-- what holds at the law's entry: the machine, the code, the tables' words (any of lw_tbl by 'hts w (by decide +kernel)'), the script of L ints xs at the cell b, what the Statement gives of the start (any of its parts by flat_of_before) -/
def lw_At (p : Program) (s : State) (m : MethodId) (meth : Method) (c : Code) (b L : Nat) (xs : Nat → Int32) : Prop :=
  p.tables.exec = Jvm.exec ∧ c.code = code ∧ meth.sig.returnType = ret ∧ c.maxLocals = 4 ∧ s.vm.findClass R_law = some m.cls ∧ (∀ w ∈ lw_tbl, w.before #[Value.ref b] s = true) ∧ va_X b L xs s s.heap ∧ b < s.heap.size ∧ meth.locks = false ∧ (Jvm.Cond.and given_1 narrow_1).before #[Value.ref b] s = true
section TablesGive
variable {s : State} {args : Array Value}
theorem st_D (hts : ∀ w ∈ wG, w.before args s = true) : ∃ D : va_G, ∀ (c : Nat) (q : vw_C), vwCl[c]? = some q → u_Kn s q.1 q.2.1 q.2.2 (D.1 c) (D.2 c) := by
  obtain ⟨c0, i0, h0⟩ := u_known (ws := wG) hts C_X0.2.1 (hts _ I_X0)
  obtain ⟨c1, i1, h1⟩ := u_known (ws := wG) hts C_X2.2.1 (hts _ I_X2)
  obtain ⟨c2, i2, h2⟩ := u_known (ws := wG) hts C_X3.2.1 (hts _ I_X3)
  obtain ⟨c3, i3, h3⟩ := u_known (ws := wG) hts C_X4.2.1 (hts _ I_X4)
  obtain ⟨c4, i4, h4⟩ := u_known (ws := wG) hts C_X5.2.1 (hts _ I_X5)
  obtain ⟨c5, i5, h5⟩ := u_known (ws := wG) hts C_X6.2.1 (hts _ I_X6)
  refine ⟨(fun k => [c0, c1, c2, c3, c4, c5].getD k c0, fun k => [i0, i1, i2, i3, i4, i5].getD k i0), fun c q hq => ?_⟩
  match c, hq with
  | 0, hq =>
    have hq := Option.some.inj hq
    subst hq
    exact h0
  | 1, hq =>
    have hq := Option.some.inj hq
    subst hq
    exact h1
  | 2, hq =>
    have hq := Option.some.inj hq
    subst hq
    exact h2
  | 3, hq =>
    have hq := Option.some.inj hq
    subst hq
    exact h3
  | 4, hq =>
    have hq := Option.some.inj hq
    subst hq
    exact h4
  | 5, hq =>
    have hq := Option.some.inj hq
    subst hq
    exact h5
  | c + 6, hq => cases hq
theorem st_K (hts : ∀ w ∈ lw_tbl, w.before args s = true) : ∃ (D : va_G) (k4 : Nat → ClassId), va_K D vwCl (ctT k4) s := by
  have htG : ∀ w ∈ wG, w.before args s = true := fun w hw => hts w (List.mem_filter.mp hw).1
  obtain ⟨D, hD⟩ := st_D htG
  obtain ⟨a1, b1, d1, f1, g1, j1⟩ := Cond.arrayClass_spec (htG _ A_int)
  obtain ⟨a2, b2, d2, f2, g2, j2⟩ := Cond.arrayClass_spec (htG _ A_char)
  obtain ⟨d3, a3, b3, f3, -, g3, j3, l3⟩ := Cond.arrayOver_spec (hts (.arrayOver (.object RX4)) (List.mem_of_getElem? (i := 117) (by decide +kernel)))
  obtain ⟨d4, a4, b4, f4, -, g4, j4, l4⟩ := arrayOver_specB (hts (.arrayOver (.array .int)) (List.mem_of_getElem? (i := 152) (by decide +kernel)))
  refine ⟨D, fun k => [a1, a2, a3, a4].getD k a1, hD, fun k q hq => ?_⟩
  match k, hq with
  | 0, hq =>
    have hq := Option.some.inj hq
    subst hq
    exact ⟨fun n z => ⟨fun k h => (by cases h), b1, g1, d1, j1⟩, f1⟩
  | 1, hq =>
    have hq := Option.some.inj hq
    subst hq
    exact ⟨fun n z => ⟨fun k h => (by cases h), b2, g2, d2, j2⟩, f2⟩
  | 2, hq =>
    have hq := Option.some.inj hq
    subst hq
    exact ⟨fun n z => ⟨fun k h => (by cases h), b3, g3, d3, j3⟩, b3, d3, g3, j3, f3, l3⟩
  | 3, hq =>
    have hq := Option.some.inj hq
    subst hq
    exact ⟨fun n z => ⟨fun k h => (by cases h), b4, g4, d4, j4⟩, l4⟩
  | k + 4, hq => cases hq
theorem st_Nw {w : Cond} (hg : av_isN w = true) (h : w.before args s = true) : va_Nw w s := by
  cases w <;> first | exact va_Nw.of rfl h | cases hg
theorem st_N (hts : ∀ w ∈ lw_tbl, w.before args s = true) : ctN s := ⟨fun w hw => st_Nw (List.mem_filter.mp hw).2 (hts w (List.mem_filter.mp hw).1), va_AO.of (hts (.arrayOver (.object RX4)) (List.mem_of_getElem? (i := 117) (by decide +kernel))), va_AOA.of (hts (.arrayOver (.array .int)) (List.mem_of_getElem? (i := 152) (by decide +kernel)))⟩
theorem st_G {b : Nat} (hts : ∀ w ∈ lw_tbl, w.before #[Value.ref b] s = true) (hgv : (Jvm.Cond.and given_1 narrow_1).before #[Value.ref b] s = true) : ∃ k1 k2 : Nat, vk_R RX2 38 "imnpst" k1 s ∧ vk_S 1 [6] [[105, 109, 110, 112, 115, 116]] (fun _ => k1) (fun _ => k2) (fun q => s.heap.size ≤ q) s s.heap ∧ va_Z "java/lang/String" "COMPACT_STRINGS" "Z" (.int 1) (fun q => s.heap.size ≤ q) s s.heap := by
  have hs := flat_of_before _ hgv
  have hA : ∀ a : Nat, a < s.heap.size → ¬ (fun q : Nat => s.heap.size ≤ q) a := fun a h => Nat.not_le.mpr h
  have hel : ∀ j : Nat, j < 6 → (Cond.eq (.elem (.field (.string RX2 38) "java/lang/String" "value" "[B") (.int (Int32.ofNat j))) (.int (([105, 109, 110, 112, 115, 116] : List Int32).getD j 0))).before #[Value.ref b] s = true := by
    intro j hj
    match j, hj with
    | 0, _ => exact hs _ (by decide +kernel)
    | 1, _ => exact hs _ (by decide +kernel)
    | 2, _ => exact hs _ (by decide +kernel)
    | 3, _ => exact hs _ (by decide +kernel)
    | 4, _ => exact hs _ (by decide +kernel)
    | 5, _ => exact hs _ (by decide +kernel)
    | j + 6, q => exact absurd q (by omega)
  obtain ⟨adK, adV, h1, h2⟩ := vk_Sof (args := #[Value.ref b]) (s := s) (N := 1) (tm := fun _ => .string RX2 38) (len := [6]) (byt := [[105, 109, 110, 112, 115, 116]]) (A := fun q => s.heap.size ≤ q) (fun i hi => by
    obtain rfl : i = 0 := by omega
    decide) (fun i _ => hs _ (by decide +kernel)) (fun i _ => hs _ (by decide +kernel)) (fun i _ => hs _ (by decide +kernel)) (fun i hi => by
    obtain rfl : i = 0 := by omega
    exact hs _ (by decide +kernel)) (fun i hi j hj => by
    obtain rfl : i = 0 := by omega
    exact hel j hj) (fun i j hi hj hij => absurd (show i = j by omega) hij) hA
  refine ⟨adK 0, adV 0, vk_R.of (hts (.stringRef RX2 38 "imnpst") (by decide +kernel)) (h2 0 (by decide)), ⟨fun i hi => ?_, fun i j hi hj _ => by omega⟩, va_Zof (hts (.laysStatic "java/lang/String" "COMPACT_STRINGS" "Z") (by decide +kernel)) (hts (.initialized "java/lang/String") (by decide +kernel)) (va_eqi (hs _ (by decide +kernel))) hA⟩
  obtain rfl : i = 0 := by omega
  exact h1.1 0 (by decide)
end TablesGive
