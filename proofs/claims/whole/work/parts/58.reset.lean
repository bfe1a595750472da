/-! ===== the reference's reset, over two cells ===== -/
set_option maxHeartbeats 4000000 in
set_option maxRecDepth 100000 in
theorem c_resetS (l : Launch) (D : va_G) (k4 : Nat → ClassId) (h q : Nat) (fs : List Value) (f : Nat → Int32) (x : Int32) (hf0 : fs[0]? = some (.ref q)) (sz : Nat) : Met l yX6_reset (.code yX6_reset cX6_reset 3 none :: wG) { frames := 0, cells := 0, slots := 0, locals := 0 } (va_Pc [.ref h, .int x] (ctP D k4 [(h, .inr (5, fs)), (q, .inl (k4 0, 238, .inl f))] sz)) (va_Qv (fun _ : Unit => True) (fun _ t => va_P D vwCl [(h, .inr (5, fs)), (q, .inl (k4 0, 238, .inl (mrs f x)))] t.heap ∧ va_D (va_A [(h, .inr (5, fs)), (q, .inl (k4 0, 238, .inl f))] sz) [(h, .inr (5, fs)), (q, .inl (k4 0, 238, .inl (mrs f x)))]) (va_A [(h, .inr (5, fs)), (q, .inl (k4 0, 238, .inl f))] sz)) 0 0 (va_A [(h, .inr (5, fs)), (q, .inl (k4 0, 238, .inl f))] sz) := by
  refine Met.ofW (cc := cX6_reset) (maxL := 3) (ret := none) (by decide) rfl ?_
  intro p e s m args below meth c s₁ B hml hv
  obtain ⟨rfl, hsz, hP, hK, hD0, hN⟩ := hv
  have hx := B.exec
  have hb := B.bytes
  have hr := B.returns
  have hlocks := B.notSynchronized
  have hts0 := atoms_spec (ws := .code yX6_reset cX6_reset 3 none :: wG) B.pre
  have hts : ∀ w ∈ wG, w.before #[Value.ref h, Value.int x] s = true := fun w hw => hts0 w (List.mem_cons_of_mem _ hw)
  have hown : s.vm.findClass RX6 = some m.cls := findClass_of_methodNamed B.named
  subst hsz
  have hD := hD0.self (sz := s.heap.size)
  have hl := lv_entry ([.ref h, .int x]) (n := 3) (Nat.le_of_ble_eq_true rfl)
  rw [lg_entry_eq]
  generalize (lg_sl ([.ref h, .int x]) ++ List.replicate (3 - (lg_sl ([.ref h, .int x])).length) Slot.unset).toArray = ls at hl ⊢
  have hl : lv_has ls 3 [(0, .ref h), (1, .int x)] := hl
  generalize hA : va_A [(h, .inr (5, fs)), (q, .inl (k4 0, 238, .inl f))] s.heap.size = A at hD ⊢
  have store : ∀ (j : Nat) (v : Int32), j < 238 → v = mr0 j → (∀ (H : Heap) (locs : List Loc) (ls : Array Slot), va_P D vwCl [(h, .inr (5, fs)), (q, .inl (k4 0, 238, .inl (fo (j + 1) (fun k g => upd g k (mr0 k)) f)))] H → va_D A [(h, .inr (5, fs)), (q, .inl (k4 0, 238, .inl (fo (j + 1) (fun k g => upd g k (mr0 k)) f)))] → va_S A s.heap H locs → lv_has ls 3 [(2, .int (nI (j + 1))), (0, .ref h), (1, .int x)] → W p l e { frames := 0, cells := 0, slots := 0, locals := 0 } s m #[Value.ref h, Value.int x] below meth c H locs 0 0 (MQ below (va_Qv (fun _ : Unit => True) (fun _ t => va_P D vwCl [(h, .inr (5, fs)), (q, .inl (k4 0, 238, .inl (mrs f x)))] t.heap ∧ va_D A [(h, .inr (5, fs)), (q, .inl (k4 0, 238, .inl (mrs f x)))]) A) #[Value.ref h, Value.int x] s 0 0 A) (F0 m 2 ls [])) → ∀ (H : Heap) (locs : List Loc) (ls : Array Slot), va_P D vwCl [(h, .inr (5, fs)), (q, .inl (k4 0, 238, .inl (fo j (fun k g => upd g k (mr0 k)) f)))] H → va_D A [(h, .inr (5, fs)), (q, .inl (k4 0, 238, .inl (fo j (fun k g => upd g k (mr0 k)) f)))] → va_S A s.heap H locs → lv_has ls 3 [(2, .int (nI j)), (0, .ref h), (1, .int x)] → W p l e { frames := 0, cells := 0, slots := 0, locals := 0 } s m #[Value.ref h, Value.int x] below meth c H locs 0 0 (MQ below (va_Qv (fun _ : Unit => True) (fun _ t => va_P D vwCl [(h, .inr (5, fs)), (q, .inl (k4 0, 238, .inl (mrs f x)))] t.heap ∧ va_D A [(h, .inr (5, fs)), (q, .inl (k4 0, 238, .inl (mrs f x)))]) A) #[Value.ref h, Value.int x] s 0 0 A) (F0 m 32 ls [.int v, .int (nI j), .ref q]) := by
    intro j v hj hv ih H locs ls hP hD hS hl
    refine va_iast hx hb hK hP hD hS 1 0 rfl rfl (vp_in_nI hj (by omega)) dX6_reset_32 (fun H1 locs1 h1 h2 h3 => ?_)
    rw [nI_clamp (by omega), hv] at h1 h2
    refine lv_iinc (v := nI (j + 1)) (lv' := [(2, .int (nI (j + 1))), (0, .ref h), (1, .int x)]) hx hb dX6_reset_33 hl (k := 0) rfl (nI_inc j) (by decide) rfl (fun ls hl => ?_)
    refine lv_goto (tgt := 2) hx hb dX6_reset_36 (by decide) ?_
    exact ih H1 locs1 ls h1 h2 h3 hl
  have loop : ∀ j, j ≤ 238 → ∀ (H : Heap) (locs : List Loc) (ls : Array Slot), va_P D vwCl [(h, .inr (5, fs)), (q, .inl (k4 0, 238, .inl (fo j (fun k g => upd g k (mr0 k)) f)))] H → va_D A [(h, .inr (5, fs)), (q, .inl (k4 0, 238, .inl (fo j (fun k g => upd g k (mr0 k)) f)))] → va_S A s.heap H locs → lv_has ls 3 [(2, .int (nI j)), (0, .ref h), (1, .int x)] → W p l e { frames := 0, cells := 0, slots := 0, locals := 0 } s m #[Value.ref h, Value.int x] below meth c H locs 0 0 (MQ below (va_Qv (fun _ : Unit => True) (fun _ t => va_P D vwCl [(h, .inr (5, fs)), (q, .inl (k4 0, 238, .inl (mrs f x)))] t.heap ∧ va_D A [(h, .inr (5, fs)), (q, .inl (k4 0, 238, .inl (mrs f x)))]) A) #[Value.ref h, Value.int x] s 0 0 A) (F0 m 2 ls []) := by
    intro j hj
    refine loop_from (fun j => ∀ (H : Heap) (locs : List Loc) (ls : Array Slot), va_P D vwCl [(h, .inr (5, fs)), (q, .inl (k4 0, 238, .inl (fo j (fun k g => upd g k (mr0 k)) f)))] H → va_D A [(h, .inr (5, fs)), (q, .inl (k4 0, 238, .inl (fo j (fun k g => upd g k (mr0 k)) f)))] → va_S A s.heap H locs → lv_has ls 3 [(2, .int (nI j)), (0, .ref h), (1, .int x)] → W p l e { frames := 0, cells := 0, slots := 0, locals := 0 } s m #[Value.ref h, Value.int x] below meth c H locs 0 0 (MQ below (va_Qv (fun _ : Unit => True) (fun _ t => va_P D vwCl [(h, .inr (5, fs)), (q, .inl (k4 0, 238, .inl (mrs f x)))] t.heap ∧ va_D A [(h, .inr (5, fs)), (q, .inl (k4 0, 238, .inl (mrs f x)))]) A) #[Value.ref h, Value.int x] s 0 0 A) (F0 m 2 ls [])) j 238 hj (fun H locs ls hP hD hS hl => ?_) (fun k _ hk ih H locs ls hP hD hS hl => ?_)
    · refine lv_iload_n hx hb dX6_reset_2 rfl (lv_at hl 0 rfl) ?_
      refine lv_sipush (v := nI 238) hx hb dX6_reset_3 (by decide) ?_
      refine lv_icmp_ge (tgt := 39) hx hb dX6_reset_6 (by decide) (fun _ => ?_) (fun h => absurd (Int32.le_refl _) h)
      refine lv_aload_n hx hb dX6_reset_39 rfl (lv_at hl 1 rfl) ?_
      refine va_get (v := .ref q) hx hb hts C_X6.2.1 hown hK hP 0 rfl C_X6.1 0 (by decide) (hts _ FL_X6_7) (fun _ h => h) hf0 dX6_reset_40 ?_
      refine lv_iconst (v := nI 0) hx hb dX6_reset_43 (by decide) ?_
      refine lv_iload_n hx hb dX6_reset_44 rfl (lv_at hl 2 rfl) ?_
      refine va_iast hx hb hK hP hD hS 1 0 rfl rfl (vp_in_nI (by decide : 0 < 238) (by decide)) dX6_reset_45 (fun H1 locs1 h1 h2 h3 => ?_)
      rw [nI_clamp (by omega)] at h1 h2
      exact W.vret hx hb hr (fun t ht hW => ⟨⟨(), rfl, trivial, by rw [ht]; exact h1, h2⟩, h3.F ht⟩) h3.2.2 dX6_reset_46
    · refine lv_iload_n hx hb dX6_reset_2 rfl (lv_at hl 0 rfl) ?_
      refine lv_sipush (v := nI 238) hx hb dX6_reset_3 (by decide) ?_
      refine lv_icmp_ge (tgt := 39) hx hb dX6_reset_6 (by decide) (fun h => absurd ((nI_leI (by omega) (by omega)).mp h) (by omega)) (fun _ => ?_)
      refine lv_aload_n hx hb dX6_reset_9 rfl (lv_at hl 1 rfl) ?_
      refine va_get (v := .ref q) hx hb hts C_X6.2.1 hown hK hP 0 rfl C_X6.1 0 (by decide) (hts _ FL_X6_7) (fun _ h => h) hf0 dX6_reset_10 ?_
      refine lv_iload_n hx hb dX6_reset_13 rfl (lv_at hl 0 rfl) ?_
      refine lv_iload_n hx hb dX6_reset_14 rfl (lv_at hl 0 rfl) ?_
      refine lv_bipush (v := nI 10) hx hb dX6_reset_15 (by decide) ?_
      refine lv_icmp_lt (tgt := 31) hx hb dX6_reset_17 (by decide) (fun h10 => ?_) (fun h10 => ?_)
      · have h10 := (nI_ltI (by omega) (by omega)).mp h10
        refine lv_iconst (v := nI 0) hx hb dX6_reset_31 (by decide) ?_
        exact store k (nI 0) hk (if_neg (by omega)).symm ih H locs ls hP hD hS hl
      · have h10 : ¬ k < 10 := fun q => h10 ((nI_ltI (by omega) (by omega)).mpr q)
        refine lv_iload_n hx hb dX6_reset_20 rfl (lv_at hl 0 rfl) ?_
        refine lv_bipush (v := nI 70) hx hb dX6_reset_21 (by decide) ?_
        refine lv_icmp_ge (tgt := 31) hx hb dX6_reset_23 (by decide) (fun h70 => ?_) (fun h70 => ?_)
        · have h70 := (nI_leI (by omega) (by omega)).mp h70
          refine lv_iconst (v := nI 0) hx hb dX6_reset_31 (by decide) ?_
          exact store k (nI 0) hk (if_neg (by omega)).symm ih H locs ls hP hD hS hl
        · have h70 : ¬ 70 ≤ k := fun q => h70 ((nI_leI (by omega) (by omega)).mpr q)
          refine lv_bipush (v := -9) hx hb dX6_reset_26 (by decide) ?_
          refine lv_goto (tgt := 32) hx hb dX6_reset_28 (by decide) ?_
          exact store k (-9) hk (if_pos (by omega)).symm ih H locs ls hP hD hS hl
  refine lv_iconst (v := nI 0) hx hb dX6_reset_0 (by decide) ?_
  refine lv_istore_n (lv' := [(2, .int (nI 0)), (0, .ref h), (1, .int x)]) hx hb dX6_reset_1 rfl hl (by decide) rfl (fun ls hl => ?_)
  exact loop 0 (Nat.zero_le _) _ _ ls hP hD va_S.rf hl
