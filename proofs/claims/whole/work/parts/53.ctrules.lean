/-! ===== constructors: a rule an instruction ===== -/
section CtRules
variable {l : Launch} {own : String} {cc : ByteArray} {nL : Nat} {D : va_G} {k4 : Nat → ClassId} {R : Room} {pc : Nat} {lv lv' : List (Nat × Value)} {st : List Value} {ws : va_W} {cells slots : Nat} {Q : va_W → Nat → Nat → Prop}
theorem ct_return (hd : decode cc pc = .ok (.return_, 1)) (hQ : Q ws cells slots) : ctEv l own cc nL D k4 R pc lv [] ws cells slots Q :=
  fun _ _ _ _ _ _ _ _ _ _ _ K H locs ls hP hD hS _ => K ws cells slots H locs ls pc hQ hP hD hS hd
theorem ct_iconst {n : Int} {v : Int32} (hd : decode cc pc = .ok (.iconst n, 1)) (hv : Int32.ofInt n = v) (k : ctEv l own cc nL D k4 R (pc + 1) lv (.int v :: st) ws cells slots Q) : ctEv l own cc nL D k4 R pc lv st ws cells slots Q :=
  fun p e s m args below meth c A Z F K H locs ls hP hD hS hl => lv_iconst F.1 F.2.1 hd hv (k p e s m args below meth c A Z F K H locs ls hP hD hS hl)
theorem ct_bipush {n : Int} {v : Int32} (hd : decode cc pc = .ok (.bipush n, 2)) (hv : (Int8.ofInt n).toInt32 = v) (k : ctEv l own cc nL D k4 R (pc + 2) lv (.int v :: st) ws cells slots Q) : ctEv l own cc nL D k4 R pc lv st ws cells slots Q :=
  fun p e s m args below meth c A Z F K H locs ls hP hD hS hl => lv_bipush F.1 F.2.1 hd hv (k p e s m args below meth c A Z F K H locs ls hP hD hS hl)
theorem ct_sipush {n : Int} {v : Int32} (hd : decode cc pc = .ok (.sipush n, 3)) (hv : (Int16.ofInt n).toInt32 = v) (k : ctEv l own cc nL D k4 R (pc + 3) lv (.int v :: st) ws cells slots Q) : ctEv l own cc nL D k4 R pc lv st ws cells slots Q :=
  fun p e s m args below meth c A Z F K H locs ls hP hD hS hl => lv_sipush F.1 F.2.1 hd hv (k p e s m args below meth c A Z F K H locs ls hP hD hS hl)
theorem ct_aload_n {i x : Nat} {k4' : Fin 4} (hd : decode cc pc = .ok (.aload_n k4', 1)) (hi : (k4' : Nat) = i) (j : Nat) (hj : lv[j]? = some (i, .ref x)) (k : ctEv l own cc nL D k4 R (pc + 1) lv (.ref x :: st) ws cells slots Q) : ctEv l own cc nL D k4 R pc lv st ws cells slots Q :=
  fun p e s m args below meth c A Z F K H locs ls hP hD hS hl => lv_aload_n F.1 F.2.1 hd hi (lv_at hl j hj) (k p e s m args below meth c A Z F K H locs ls hP hD hS hl)
theorem ct_iload_n {i : Nat} {x : Int32} {k4' : Fin 4} (hd : decode cc pc = .ok (.iload_n k4', 1)) (hi : (k4' : Nat) = i) (j : Nat) (hj : lv[j]? = some (i, .int x)) (k : ctEv l own cc nL D k4 R (pc + 1) lv (.int x :: st) ws cells slots Q) : ctEv l own cc nL D k4 R pc lv st ws cells slots Q :=
  fun p e s m args below meth c A Z F K H locs ls hP hD hS hl => lv_iload_n F.1 F.2.1 hd hi (lv_at hl j hj) (k p e s m args below meth c A Z F K H locs ls hP hD hS hl)
theorem ct_istore_n {i : Nat} {x : Int32} {k4' : Fin 4} (hd : decode cc pc = .ok (.istore_n k4', 1)) (hi : (k4' : Nat) = i) (hn : i < nL) (h : (i, Value.int x) :: lv.filter (fun q => !(q.1 == i) && !(q.1 + 1 == i && q.2.category == 2)) = lv') (k : ctEv l own cc nL D k4 R (pc + 1) lv' st ws cells slots Q) : ctEv l own cc nL D k4 R pc lv (.int x :: st) ws cells slots Q :=
  fun p e s m args below meth c A Z F K H locs ls hP hD hS hl => lv_istore_n F.1 F.2.1 hd hi hl hn h (fun ls hl => k p e s m args below meth c A Z F K H locs ls hP hD hS hl)
theorem ct_iinc {i : Nat} {n : Int} {x v : Int32} (hd : decode cc pc = .ok (.iinc i n, 3)) (j : Nat) (hj : lv[j]? = some (i, .int x)) (hv : x + Int32.ofInt n = v) (hn : i < nL) (h : (i, Value.int v) :: lv.filter (fun q => !(q.1 == i) && !(q.1 + 1 == i && q.2.category == 2)) = lv') (k : ctEv l own cc nL D k4 R (pc + 3) lv' st ws cells slots Q) : ctEv l own cc nL D k4 R pc lv st ws cells slots Q :=
  fun p e s m args below meth c A Z F K H locs ls hP hD hS hl => lv_iinc F.1 F.2.1 hd hl (k := j) hj hv hn h (fun ls hl => k p e s m args below meth c A Z F K H locs ls hP hD hS hl)
theorem ct_goto {off : Int} {tgt : Nat} (hd : decode cc pc = .ok (.goto off, 3)) (ht : (pc : Int) + off = (tgt : Int)) (k : ctEv l own cc nL D k4 R tgt lv st ws cells slots Q) : ctEv l own cc nL D k4 R pc lv st ws cells slots Q :=
  fun p e s m args below meth c A Z F K H locs ls hP hD hS hl => lv_goto F.1 F.2.1 hd ht (k p e s m args below meth c A Z F K H locs ls hP hD hS hl)
theorem ct_icmp_ge {x y : Int32} {off : Int} {tgt : Nat} (hd : decode cc pc = .ok (.if_icmp .ge off, 3)) (ht : (pc : Int) + off = (tgt : Int)) (kt : y ≤ x → ctEv l own cc nL D k4 R tgt lv st ws cells slots Q) (kf : ¬ y ≤ x → ctEv l own cc nL D k4 R (pc + 3) lv st ws cells slots Q) : ctEv l own cc nL D k4 R pc lv (.int y :: .int x :: st) ws cells slots Q :=
  fun p e s m args below meth c A Z F K H locs ls hP hD hS hl => lv_icmp_ge F.1 F.2.1 hd ht (fun h => kt h p e s m args below meth c A Z F K H locs ls hP hD hS hl) (fun h => kf h p e s m args below meth c A Z F K H locs ls hP hD hS hl)
theorem ct_lv (ks : List Nat) (h : lv_pick lv ks = lv') (k : ctEv l own cc nL D k4 R pc lv' st ws cells slots Q) : ctEv l own cc nL D k4 R pc lv st ws cells slots Q :=
  fun p e s m args below meth c A Z F K H locs ls hP hD hS hl => k p e s m args below meth c A Z F K H locs ls hP hD hS (lv_sub hl ks h)
theorem ct_ws {ws' : va_W} (h : ws = ws') (k : ctEv l own cc nL D k4 R pc lv st ws' cells slots Q) : ctEv l own cc nL D k4 R pc lv st ws cells slots Q := by rw [h]; exact k
theorem ct_num {n k : Nat} (hn : cells ≤ n) (hk : slots ≤ k) (h : ctEv l own cc nL D k4 R pc lv st ws n k Q) : ctEv l own cc nL D k4 R pc lv st ws cells slots Q :=
  fun p e s m args below meth c A Z F K H locs ls hP hD hS hl => W.widen hn hk (h p e s m args below meth c A Z F K H locs ls hP hD hS hl)
theorem ct_obj {idx a : Nat} (hd : decode cc pc = .ok (.invokespecial idx, 3)) (hL : Cond.methodLink own idx Lib.objectInit ∈ wG) (hI : Cond.instanceMethod Lib.objectInit ∈ wG) (hC : Cond.code Lib.objectInit ⟨#[0xb1]⟩ 1 none ∈ wG) (hf : 1 ≤ R.frames) (hlo : (st.map fun v => v.category).sum + 12 ≤ R.locals) (k : ctEv l own cc nL D k4 R (pc + 3) lv st ws cells slots Q) : ctEv l own cc nL D k4 R pc lv (.ref a :: st) ws cells slots Q :=
  fun p e s m args below meth c A Z F K H locs ls hP hD hS hl => W.objInit F.1 F.2.1 F.2.2.2.1 (F.2.2.2.2.1 _ hL) (F.2.2.2.2.1 _ hI) (F.2.2.2.2.1 _ hC) rfl (by rw [F.2.2.1]; exact hl.1) rfl hd hf (by show 2 * 0 + _ + 12 ≤ _; omega) (k p e s m args below meth c A Z F K H locs ls hP hD hS hl)
theorem ct_put {C : String} {T : u_T} {N ci index a i : Nat} {ty0 : Nat → FieldType} {fs : List Value} {v : Value} {tl : va_W} {ty : FieldType} (hd : decode cc pc = .ok (.putfield index, 3)) (hC : av_Cl ci C T N ty0) (hL : Cond.fieldLink own index (T i).1 (T i).2.1 (T i).2.2.1 ∈ wG) (hi : i < N) (hty : ty0 i = ty) (hn : narrow ty v = v) (hfit : fits ty v = true) (hl9 : i < fs.length) (hown9 : (T i).1 = own)
    (k : ctEv l own cc nL D k4 R (pc + 3) lv st ((a, .inr (ci, fs.set i v)) :: tl) cells slots Q) : ctEv l own cc nL D k4 R pc lv (v :: .ref a :: st) ((a, .inr (ci, fs)) :: tl) cells slots Q := by
  intro p e s m args below meth c A Z F K H locs ls hP hD hS hl
  have hpd : parseFieldDescriptor (T i).2.2.1 = some ty := by rw [hC.2.2.1 i hi, hty]
  cases hfin : (T i).2.2.2 with
  | false => exact va_put F.1 F.2.1 F.2.2.2.2.1 hC.2.1 ty0 hC.2.2.1 hC.2.2.2 F.2.2.2.1 F.2.2.2.2.2.2.2.1 hP hD hS 0 rfl hC.1 i hi (F.2.2.2.2.1 _ hL) (fun _ h => h) hfin hpd hn hfit hl9 hd (fun H1 locs1 h1 h2 h3 => k p e s m args below meth c A Z F K H1 locs1 ls h1 h2 h3 hl)
  | true => exact va_putF F.1 F.2.1 F.2.2.2.2.1 hC.2.1 ty0 hC.2.2.1 hC.2.2.2 F.2.2.2.1 F.2.2.2.2.2.2.2.1 hP hD hS 0 rfl hC.1 i hi (F.2.2.2.2.1 _ hL) (fun _ h => h) hfin F.2.2.2.2.2.2.1 hown9 hpd hn hfit hl9 hd (fun H1 locs1 h1 h2 h3 => k p e s m args below meth c A Z F K H1 locs1 ls h1 h2 h3 hl)
theorem ct_get {C : String} {T : u_T} {N ci index a i : Nat} {ty0 : Nat → FieldType} {fs : List Value} {v : Value} {tl : va_W} (hd : decode cc pc = .ok (.getfield index, 3)) (hC : av_Cl ci C T N ty0) (hL : Cond.fieldLink own index (T i).1 (T i).2.1 (T i).2.2.1 ∈ wG) (hi : i < N) (hv : fs[i]? = some v)
    (k : ctEv l own cc nL D k4 R (pc + 3) lv (v :: st) ((a, .inr (ci, fs)) :: tl) cells slots Q) : ctEv l own cc nL D k4 R pc lv (.ref a :: st) ((a, .inr (ci, fs)) :: tl) cells slots Q :=
  fun p e s m args below meth c A Z F K H locs ls hP hD hS hl => va_get F.1 F.2.1 F.2.2.2.2.1 hC.2.1 F.2.2.2.1 F.2.2.2.2.2.2.2.1 hP 0 rfl hC.1 i hi (F.2.2.2.2.1 _ hL) (fun _ h => h) hv hd (k p e s m args below meth c A Z F K H locs ls hP hD hS hl)
/-- two array classes of one type are one -/
theorem ct_same {cl : List vw_C} {tys : List (ClassId × FieldType)} {s : State} {i j : Nat} {a b : ClassId} {ty : FieldType} (hK : va_K D cl tys s) (hi : tys[i]? = some (a, ty)) (hj : tys[j]? = some (b, ty)) (hty : ty = .int ∨ ty = .char ∨ ty = .array .int ∨ ∃ C, ty = .object C) : a = b := by
  have h1 := (hK.2 i _ hi).2
  have h2 := (hK.2 j _ hj).2
  rcases hty with rfl | rfl | rfl | ⟨C, rfl⟩
  · have h1 : s.vm.findClass ("[" ++ FieldType.int.toString) = some a := h1
    have h2 : s.vm.findClass ("[" ++ FieldType.int.toString) = some b := h2
    exact Option.some.inj (h1.symm.trans h2)
  · have h1 : s.vm.findClass ("[" ++ FieldType.char.toString) = some a := h1
    have h2 : s.vm.findClass ("[" ++ FieldType.char.toString) = some b := h2
    exact Option.some.inj (h1.symm.trans h2)
  · have h1 : s.vm.findClass ("[" ++ (FieldType.array .int).toString) = some a := h1
    have h2 : s.vm.findClass ("[" ++ (FieldType.array .int).toString) = some b := h2
    exact Option.some.inj (h1.symm.trans h2)
  · obtain ⟨_, _, _, _, _, h1⟩ := h1
    obtain ⟨_, _, _, _, _, h2⟩ := h2
    exact Option.some.inj (h1.symm.trans h2)
theorem ct_newI {N : Nat} (hd : decode cc pc = .ok (.newarray .int, 2)) (hW : Cond.arrayClass .int ∈ wG) (hN : N ≤ 2000) (hc : cells + 1 ≤ R.cells) (hs : slots + N ≤ R.slots)
    (k : ∀ q, ctEv l own cc nL D k4 R (pc + 2) lv (.ref q :: st) (ws ++ [(q, .inl (k4 0, N, .inl (fun _ => 0)))]) (cells + 1) (slots + N) Q) : ctEv l own cc nL D k4 R pc lv (.int (nI N) :: st) ws cells slots Q := by
  intro p e s m args below meth c A Z F K H locs ls hP hD hS hl
  refine va_newa (atype := .int) (ty := .int) (a0 := (N, .inl (fun _ => 0))) F.1 F.2.1 (F.2.2.2.2.1 _ hW) rfl F.2.2.2.2.2.2.2.1 hP hD hS F.2.2.2.2.2.2.2.2 (fun cA => rfl) (nI_pos (by omega)) (nI_clamp (by omega)) (by show N * 4 ≤ _; omega) hc hs hd (fun q cA H1 hK1 h1 h2 h3 => ?_)
  have ec : cA = k4 0 := ct_same hK1 (i := 4) (j := 0) (ty := .int) rfl rfl (Or.inl rfl)
  rw [ec] at h1 h2
  exact k q p e s m args below meth c A Z F K H1 locs ls h1 h2 h3 hl
theorem ct_newC {N : Nat} (hd : decode cc pc = .ok (.newarray .char, 2)) (hW : Cond.arrayClass .char ∈ wG) (hN : N ≤ 2000) (hc : cells + 1 ≤ R.cells) (hs : slots + N ≤ R.slots)
    (k : ∀ q, ctEv l own cc nL D k4 R (pc + 2) lv (.ref q :: st) (ws ++ [(q, .inl (k4 1, N, .inl (fun _ => 0)))]) (cells + 1) (slots + N) Q) : ctEv l own cc nL D k4 R pc lv (.int (nI N) :: st) ws cells slots Q := by
  intro p e s m args below meth c A Z F K H locs ls hP hD hS hl
  refine va_newa (atype := .char) (ty := .char) (a0 := (N, .inl (fun _ => 0))) F.1 F.2.1 (F.2.2.2.2.1 _ hW) rfl F.2.2.2.2.2.2.2.1 hP hD hS F.2.2.2.2.2.2.2.2 (fun cA => rfl) (nI_pos (by omega)) (nI_clamp (by omega)) (by show N * 2 ≤ _; omega) hc hs hd (fun q cA H1 hK1 h1 h2 h3 => ?_)
  have ec : cA = k4 1 := ct_same hK1 (i := 4) (j := 1) (ty := .char) rfl rfl (Or.inr (Or.inl rfl))
  rw [ec] at h1 h2
  exact k q p e s m args below meth c A Z F K H1 locs ls h1 h2 h3 hl
theorem ct_newQ {N index : Nat} (hd : decode cc pc = .ok (.anewarray index, 3)) (hcl : Cond.classLink own index RX4 ∈ wG) (hN : N ≤ 2000) (hc : cells + 1 ≤ R.cells) (hs : slots + N ≤ R.slots)
    (k : ∀ q, ctEv l own cc nL D k4 R (pc + 3) lv (.ref q :: st) (ws ++ [(q, .inl (k4 2, N, .inr (.inr (.inr (.inr (fun _ => none))))))]) (cells + 1) (slots + N) Q) : ctEv l own cc nL D k4 R pc lv (.int (nI N) :: st) ws cells slots Q := by
  intro p e s m args below meth c A Z F K H locs ls hP hD hS hl
  refine va_newq (C := RX4) F.1 F.2.1 F.2.2.2.1 (F.2.2.2.2.1 _ hcl) F.2.2.2.2.2.1.2.1 F.2.2.2.2.2.2.2.1 hP hD hS F.2.2.2.2.2.2.2.2 (nI_pos (by omega)) (nI_clamp (by omega)) (by omega) hc hs hd (fun q cA H1 hK1 h1 h2 h3 => ?_)
  have ec : cA = k4 2 := ct_same hK1 (i := 4) (j := 2) (ty := .object RX4) rfl rfl (Or.inr (Or.inr (Or.inr ⟨_, rfl⟩)))
  rw [ec] at h1 h2
  exact k q p e s m args below meth c A Z F K H1 locs ls h1 h2 h3 hl
/-- new C; dup; invokespecial C.<init> -/
theorem ct_new {C : String} {T : u_T} {N ci index index2 : Nat} {ty0 : Nat → FieldType} {fs : List Value} {y : MethodName} {cy : ByteArray} {nY mc ms : Nat} {rm : Room} {w : Nat → (Nat → Nat → Nat) → va_W} (hd : decode cc pc = .ok (.new index, 3)) (hd2 : decode cc (pc + 3) = .ok (.dup, 1)) (hd3 : decode cc (pc + 4) = .ok (.invokespecial index2, 3)) (hC : av_Cl ci C T N ty0) (hcl : Cond.classLink own index C ∈ wG) (hin : Cond.instantiable C N ∈ wG) (hini : Cond.initialized C ∈ wG) (hfs : ∀ j, j < N → defaultValue (ty0 j) = vp_V fs j) (hM : ctM l y cy nY D k4 ci fs rm mc ms w) (hY : ctY y cy nY) (hrc : rm.cells = mc) (hrs : rm.slots = ms) (hLk : ctLk own index2 y) (hrm : 1 + (st.map fun v => v.category).sum ≤ 8) (hR : rm.frames + 1 ≤ R.frames ∧ 8 + (nY + 11) + rm.locals ≤ R.locals) (hc : cells + 1 + mc ≤ R.cells) (hs : slots + N + ms ≤ R.slots)
    (k : ∀ q u, ctEv l own cc nL D k4 R (pc + 7) lv (.ref q :: st) (ws ++ w q u) (cells + 1 + mc) (slots + N + ms) Q) : ctEv l own cc nL D k4 R pc lv st ws cells slots Q := by
  intro p e s m args below meth c A Z F K H locs ls hP hD hS hl
  refine va_new F.1 F.2.1 F.2.2.2.2.1 hC.2.1 ty0 hC.2.2.1 F.2.2.2.1 (F.2.2.2.2.1 _ hcl) (F.2.2.2.2.1 _ hin) (F.2.2.2.2.1 _ hini) F.2.2.2.2.2.2.2.1 hP hD hS F.2.2.2.2.2.2.2.2 hC.1 hfs (by omega) (by omega) hd (fun q H1 h1 h2 h3 => ?_)
  refine lv_dup F.1 F.2.1 hd2 rfl ?_
  refine ct_callW hM hY hrc hrs hLk F.1 F.2.1 F.2.2.1 F.2.2.2.1 F.2.2.2.2.1 F.2.2.2.2.2.1 F.2.2.2.2.2.2.2.1 F.2.2.2.2.2.2.2.2 h1 h2 h3 hl.1 (by show 1 + (st.map fun v => v.category).sum ≤ 8; exact hrm) hR ⟨hc, hs⟩ hd3 (fun u H2 locs2 g1 g2 g3 => ?_)
  exact k q u p e s m args below meth c A Z F K H2 locs2 ls g1 g2 g3 hl
end CtRules
