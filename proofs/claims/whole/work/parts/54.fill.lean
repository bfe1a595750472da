/-! ===== the constructors ===== -/
theorem O_I : Cond.instanceMethod Lib.objectInit ∈ wG := wG_of 62 (by decide +kernel) rfl
theorem O_C : Cond.code Lib.objectInit ⟨#[0xb1]⟩ 1 none ∈ wG := wG_of 63 (by decide +kernel) rfl
theorem O_X5 : Cond.methodLink RX5 3 Lib.objectInit ∈ wG := wG_of 61 (by decide +kernel) rfl
theorem O_X4 : Cond.methodLink RX4 3 Lib.objectInit ∈ wG := wG_of 69 (by decide +kernel) rfl
theorem O_X0 : Cond.methodLink RX0 3 Lib.objectInit ∈ wG := wG_of 115 (by decide +kernel) rfl
theorem O_X2 : Cond.methodLink RX2 3 Lib.objectInit ∈ wG := wG_of 135 (by decide +kernel) rfl
theorem O_X3 : Cond.methodLink RX3 3 Lib.objectInit ∈ wG := wG_of 150 (by decide +kernel) rfl
theorem O_X6 : Cond.methodLink RX6 1 Lib.objectInit ∈ wG := wG_of 700 (by decide +kernel) rfl
theorem A_int : Cond.arrayClass .int ∈ wG := wG_of 109 (by decide +kernel) rfl
theorem A_char : Cond.arrayClass .char ∈ wG := wG_of 144 (by decide +kernel) rfl
theorem I_X5 : Cond.instantiable RX5 4 ∈ wG := wG_of 57 (by decide +kernel) rfl
theorem N_X5 : Cond.initialized RX5 ∈ wG := wG_of 40 (by decide +kernel) rfl
theorem Z_X5 : ctY yX5_init cX5_init 1 := ⟨wG_of 60 (by decide +kernel) rfl, wG_of 40 (by decide +kernel) rfl, wG_of 59 (by decide +kernel) rfl, rfl, by decide +kernel⟩
theorem I_X4 : Cond.instantiable RX4 10 ∈ wG := wG_of 65 (by decide +kernel) rfl
theorem N_X4 : Cond.initialized RX4 ∈ wG := wG_of 41 (by decide +kernel) rfl
theorem Z_X4 : ctY yX4_init cX4_init 1 := ⟨wG_of 68 (by decide +kernel) rfl, wG_of 41 (by decide +kernel) rfl, wG_of 67 (by decide +kernel) rfl, rfl, by decide +kernel⟩
theorem I_X0 : Cond.instantiable RX0 3 ∈ wG := wG_of 111 (by decide +kernel) rfl
theorem N_X0 : Cond.initialized RX0 ∈ wG := wG_of 43 (by decide +kernel) rfl
theorem Z_X0 : ctY yX0_init cX0_init 2 := ⟨wG_of 114 (by decide +kernel) rfl, wG_of 43 (by decide +kernel) rfl, wG_of 113 (by decide +kernel) rfl, rfl, by decide +kernel⟩
theorem I_X2 : Cond.instantiable RX2 2 ∈ wG := wG_of 131 (by decide +kernel) rfl
theorem N_X2 : Cond.initialized RX2 ∈ wG := wG_of 44 (by decide +kernel) rfl
theorem Z_X2 : ctY yX2_init cX2_init 1 := ⟨wG_of 134 (by decide +kernel) rfl, wG_of 44 (by decide +kernel) rfl, wG_of 133 (by decide +kernel) rfl, rfl, by decide +kernel⟩
theorem I_X3 : Cond.instantiable RX3 5 ∈ wG := wG_of 146 (by decide +kernel) rfl
theorem N_X3 : Cond.initialized RX3 ∈ wG := wG_of 45 (by decide +kernel) rfl
theorem Z_X3 : ctY yX3_init cX3_init 1 := ⟨wG_of 149 (by decide +kernel) rfl, wG_of 45 (by decide +kernel) rfl, wG_of 148 (by decide +kernel) rfl, rfl, by decide +kernel⟩
theorem I_X6 : Cond.instantiable RX6 13 ∈ wG := wG_of 696 (by decide +kernel) rfl
theorem N_X6 : Cond.initialized RX6 ∈ wG := wG_of 46 (by decide +kernel) rfl
theorem Z_X6 : ctY yX6_init cX6_init 1 := ⟨wG_of 699 (by decide +kernel) rfl, wG_of 46 (by decide +kernel) rfl, wG_of 698 (by decide +kernel) rfl, rfl, by decide +kernel⟩
theorem CL_L_7 : Cond.classLink RL 7 RX5 ∈ wG := wG_of 56 (by decide +kernel) rfl
theorem CL_X5_9 : Cond.classLink RX5 9 RX4 ∈ wG := wG_of 64 (by decide +kernel) rfl
theorem CL_X5_16 : Cond.classLink RX5 16 RX0 ∈ wG := wG_of 110 (by decide +kernel) rfl
theorem CL_X5_23 : Cond.classLink RX5 23 RX2 ∈ wG := wG_of 130 (by decide +kernel) rfl
theorem CL_X5_30 : Cond.classLink RX5 30 RX3 ∈ wG := wG_of 145 (by decide +kernel) rfl
theorem CL_X0_9 : Cond.classLink RX0 9 RX4 ∈ wG := wG_of 116 (by decide +kernel) rfl
theorem CL_L_10 : Cond.classLink RL 10 RX6 ∈ wG := wG_of 695 (by decide +kernel) rfl
theorem CL_X3_9 : Cond.classLink RX3 9 "[[I" ∈ wG := wG_of 151 (by decide +kernel) rfl
theorem K_L_9 : ctLk RL 9 yX5_init := Or.inl (wG_of 58 (by decide +kernel) rfl)
theorem K_X5_11 : ctLk RX5 11 yX4_init := Or.inl (wG_of 66 (by decide +kernel) rfl)
theorem K_X5_18 : ctLk RX5 18 yX0_init := Or.inl (wG_of 112 (by decide +kernel) rfl)
theorem K_X0_24 : ctLk RX0 24 yX4_init := Or.inl (wG_of 118 (by decide +kernel) rfl)
theorem K_L_12 : ctLk RL 12 yX6_init := Or.inl (wG_of 697 (by decide +kernel) rfl)
theorem K_X5_25 : ctLk RX5 25 yX2_init := Or.inr ⟨RX5, wN_of 132 (by decide +kernel) rfl⟩
theorem K_X5_32 : ctLk RX5 32 yX3_init := Or.inr ⟨RX5, wN_of 147 (by decide +kernel) rfl⟩
theorem FL_X0_11 : Cond.fieldLink RX0 11 (TX0 0).1 (TX0 0).2.1 (TX0 0).2.2.1 ∈ wG := wG_of 119 (by decide +kernel) rfl
theorem FL_X0_17 : Cond.fieldLink RX0 17 (TX0 1).1 (TX0 1).2.1 (TX0 1).2.2.1 ∈ wG := wG_of 120 (by decide +kernel) rfl
theorem FL_X0_21 : Cond.fieldLink RX0 21 (TX0 2).1 (TX0 2).2.1 (TX0 2).2.2.1 ∈ wG := wG_of 121 (by decide +kernel) rfl
theorem FL_X2_9 : Cond.fieldLink RX2 9 (TX2 0).1 (TX2 0).2.1 (TX2 0).2.2.1 ∈ wG := wG_of 136 (by decide +kernel) rfl
theorem FL_X2_15 : Cond.fieldLink RX2 15 (TX2 1).1 (TX2 1).2.1 (TX2 1).2.2.1 ∈ wG := wG_of 137 (by decide +kernel) rfl
theorem FL_X3_11 : Cond.fieldLink RX3 11 (TX3 0).1 (TX3 0).2.1 (TX3 0).2.2.1 ∈ wG := wG_of 153 (by decide +kernel) rfl
theorem FL_X3_16 : Cond.fieldLink RX3 16 (TX3 1).1 (TX3 1).2.1 (TX3 1).2.2.1 ∈ wG := wG_of 154 (by decide +kernel) rfl
theorem FL_X3_20 : Cond.fieldLink RX3 20 (TX3 2).1 (TX3 2).2.1 (TX3 2).2.2.1 ∈ wG := wG_of 155 (by decide +kernel) rfl
theorem FL_X3_24 : Cond.fieldLink RX3 24 (TX3 3).1 (TX3 3).2.1 (TX3 3).2.2.1 ∈ wG := wG_of 156 (by decide +kernel) rfl
theorem FL_X3_27 : Cond.fieldLink RX3 27 (TX3 4).1 (TX3 4).2.1 (TX3 4).2.2.1 ∈ wG := wG_of 158 (by decide +kernel) rfl
theorem FL_X4_9 : Cond.fieldLink RX4 9 (TX4 0).1 (TX4 0).2.1 (TX4 0).2.2.1 ∈ wG := wG_of 73 (by decide +kernel) rfl
theorem FL_X4_15 : Cond.fieldLink RX4 15 (TX4 1).1 (TX4 1).2.1 (TX4 1).2.2.1 ∈ wG := wG_of 74 (by decide +kernel) rfl
theorem FL_X4_18 : Cond.fieldLink RX4 18 (TX4 2).1 (TX4 2).2.1 (TX4 2).2.2.1 ∈ wG := wG_of 76 (by decide +kernel) rfl
theorem FL_X4_21 : Cond.fieldLink RX4 21 (TX4 3).1 (TX4 3).2.1 (TX4 3).2.2.1 ∈ wG := wG_of 79 (by decide +kernel) rfl
theorem FL_X4_24 : Cond.fieldLink RX4 24 (TX4 4).1 (TX4 4).2.1 (TX4 4).2.2.1 ∈ wG := wG_of 82 (by decide +kernel) rfl
theorem FL_X4_28 : Cond.fieldLink RX4 28 (TX4 5).1 (TX4 5).2.1 (TX4 5).2.2.1 ∈ wG := wG_of 83 (by decide +kernel) rfl
theorem FL_X4_31 : Cond.fieldLink RX4 31 (TX4 6).1 (TX4 6).2.1 (TX4 6).2.2.1 ∈ wG := wG_of 84 (by decide +kernel) rfl
theorem FL_X4_34 : Cond.fieldLink RX4 34 (TX4 7).1 (TX4 7).2.1 (TX4 7).2.2.1 ∈ wG := wG_of 85 (by decide +kernel) rfl
theorem FL_X4_37 : Cond.fieldLink RX4 37 (TX4 8).1 (TX4 8).2.1 (TX4 8).2.2.1 ∈ wG := wG_of 86 (by decide +kernel) rfl
theorem FL_X4_40 : Cond.fieldLink RX4 40 (TX4 9).1 (TX4 9).2.1 (TX4 9).2.2.1 ∈ wG := wG_of 87 (by decide +kernel) rfl
theorem FL_X5_12 : Cond.fieldLink RX5 12 (TX5 0).1 (TX5 0).2.1 (TX5 0).2.2.1 ∈ wG := wG_of 171 (by decide +kernel) rfl
theorem FL_X5_19 : Cond.fieldLink RX5 19 (TX5 1).1 (TX5 1).2.1 (TX5 1).2.2.1 ∈ wG := wG_of 172 (by decide +kernel) rfl
theorem FL_X5_26 : Cond.fieldLink RX5 26 (TX5 2).1 (TX5 2).2.1 (TX5 2).2.2.1 ∈ wG := wG_of 173 (by decide +kernel) rfl
theorem FL_X5_33 : Cond.fieldLink RX5 33 (TX5 3).1 (TX5 3).2.1 (TX5 3).2.2.1 ∈ wG := wG_of 174 (by decide +kernel) rfl
theorem FL_X6_7 : Cond.fieldLink RX6 7 (TX6 0).1 (TX6 0).2.1 (TX6 0).2.2.1 ∈ wG := wG_of 705 (by decide +kernel) rfl
theorem FL_X6_13 : Cond.fieldLink RX6 13 (TX6 1).1 (TX6 1).2.1 (TX6 1).2.2.1 ∈ wG := wG_of 706 (by decide +kernel) rfl
theorem FL_X6_16 : Cond.fieldLink RX6 16 (TX6 3).1 (TX6 3).2.1 (TX6 3).2.2.1 ∈ wG := wG_of 708 (by decide +kernel) rfl
theorem FL_X6_19 : Cond.fieldLink RX6 19 (TX6 6).1 (TX6 6).2.1 (TX6 6).2.2.1 ∈ wG := wG_of 711 (by decide +kernel) rfl
theorem FL_X6_22 : Cond.fieldLink RX6 22 (TX6 7).1 (TX6 7).2.1 (TX6 7).2.2.1 ∈ wG := wG_of 712 (by decide +kernel) rfl
theorem FL_X6_25 : Cond.fieldLink RX6 25 (TX6 8).1 (TX6 8).2.1 (TX6 8).2.2.1 ∈ wG := wG_of 713 (by decide +kernel) rfl
theorem FL_X6_28 : Cond.fieldLink RX6 28 (TX6 9).1 (TX6 9).2.1 (TX6 9).2.2.1 ∈ wG := wG_of 714 (by decide +kernel) rfl
theorem FL_X6_31 : Cond.fieldLink RX6 31 (TX6 10).1 (TX6 10).2.1 (TX6 10).2.2.1 ∈ wG := wG_of 715 (by decide +kernel) rfl
section Fill
set_option maxHeartbeats 4000000 in
set_option maxRecDepth 100000 in
/-- Arrays.fill over one array -/
theorem c_fill (l : Launch) (D : va_G) (k4 : Nat → ClassId) (q n : Nat) (f : Nat → Int32) (v : Int32) (hn : n ≤ 2000) (sz : Nat) : Met l yJ7_fill_53178 (.code yJ7_fill_53178 cJ7_fill_53178 4 none :: wG) { frames := 0, cells := 0, slots := 0, locals := 0 } (va_Pc [.ref q, .int v] (ctP D k4 [(q, .inl (k4 0, n, .inl f))] sz)) (va_Qv (fun _ : Unit => True) (fun _ t => va_P D vwCl [(q, .inl (k4 0, n, .inl (fl f n v)))] t.heap ∧ va_D (va_A [(q, .inl (k4 0, n, .inl f))] sz) [(q, .inl (k4 0, n, .inl (fl f n v)))]) (va_A [(q, .inl (k4 0, n, .inl f))] sz)) 0 0 (va_A [(q, .inl (k4 0, n, .inl f))] sz) := by
  refine Met.ofW (cc := cJ7_fill_53178) (maxL := 4) (ret := none) (by decide) rfl ?_
  intro p e s m args below meth c s₁ B hml hv
  obtain ⟨rfl, hsz, hP, hK, hD0, hN⟩ := hv
  have hx := B.exec
  have hb := B.bytes
  have hr := B.returns
  have hlocks := B.notSynchronized
  subst hsz
  have hD := hD0.self (sz := s.heap.size)
  have hl := lv_entry ([.ref q, .int v]) (n := 4) (Nat.le_of_ble_eq_true rfl)
  rw [lg_entry_eq]
  generalize (lg_sl ([.ref q, .int v]) ++ List.replicate (4 - (lg_sl ([.ref q, .int v])).length) Slot.unset).toArray = ls at hl ⊢
  have hl : lv_has ls 4 [(0, .ref q), (1, .int v)] := hl
  generalize hA : va_A [(q, .inl (k4 0, n, .inl f))] s.heap.size = A at hD ⊢
  have loop : ∀ j, j ≤ n → ∀ (H : Heap) (locs : List Loc) (ls : Array Slot), va_P D vwCl [(q, .inl (k4 0, n, .inl (fl f j v)))] H → va_D A [(q, .inl (k4 0, n, .inl (fl f j v)))] → va_S A s.heap H locs → lv_has ls 4 [(3, .int (nI n)), (2, .int (nI j)), (0, .ref q), (1, .int v)] → W p l e { frames := 0, cells := 0, slots := 0, locals := 0 } s m #[Value.ref q, Value.int v] below meth c H locs 0 0 (MQ below (va_Qv (fun _ : Unit => True) (fun _ t => va_P D vwCl [(q, .inl (k4 0, n, .inl (fl f n v)))] t.heap ∧ va_D A [(q, .inl (k4 0, n, .inl (fl f n v)))]) A) #[Value.ref q, Value.int v] s 0 0 A) (F0 m 5 ls []) := by
    intro j hj
    refine loop_from (fun j => ∀ (H : Heap) (locs : List Loc) (ls : Array Slot), va_P D vwCl [(q, .inl (k4 0, n, .inl (fl f j v)))] H → va_D A [(q, .inl (k4 0, n, .inl (fl f j v)))] → va_S A s.heap H locs → lv_has ls 4 [(3, .int (nI n)), (2, .int (nI j)), (0, .ref q), (1, .int v)] → W p l e { frames := 0, cells := 0, slots := 0, locals := 0 } s m #[Value.ref q, Value.int v] below meth c H locs 0 0 (MQ below (va_Qv (fun _ : Unit => True) (fun _ t => va_P D vwCl [(q, .inl (k4 0, n, .inl (fl f n v)))] t.heap ∧ va_D A [(q, .inl (k4 0, n, .inl (fl f n v)))]) A) #[Value.ref q, Value.int v] s 0 0 A) (F0 m 5 ls [])) j n hj (fun H locs ls hP hD hS hl => ?_) (fun k _ hk ih H locs ls hP hD hS hl => ?_)
    · refine lv_iload_n hx hb dJ7_fill_53178_5 rfl (lv_at hl 1 rfl) ?_
      refine lv_iload_n hx hb dJ7_fill_53178_6 rfl (lv_at hl 0 rfl) ?_
      refine lv_icmp_ge (tgt := 20) hx hb dJ7_fill_53178_7 (by decide) (fun _ => ?_) (fun h => absurd (Int32.le_refl _) h)
      exact W.vret hx hb hr (fun t ht hW => ⟨⟨(), rfl, trivial, by rw [ht]; exact hP, hD⟩, hS.F ht⟩) hS.2.2 dJ7_fill_53178_20
    · refine lv_iload_n hx hb dJ7_fill_53178_5 rfl (lv_at hl 1 rfl) ?_
      refine lv_iload_n hx hb dJ7_fill_53178_6 rfl (lv_at hl 0 rfl) ?_
      refine lv_icmp_ge (tgt := 20) hx hb dJ7_fill_53178_7 (by decide) (fun h => absurd ((nI_leI (by omega) (by omega)).mp h) (by omega)) (fun _ => ?_)
      refine lv_aload_n hx hb dJ7_fill_53178_10 rfl (lv_at hl 2 rfl) ?_
      refine lv_iload_n hx hb dJ7_fill_53178_11 rfl (lv_at hl 1 rfl) ?_
      refine lv_iload_n hx hb dJ7_fill_53178_12 rfl (lv_at hl 3 rfl) ?_
      refine va_iast hx hb hK hP hD hS 0 0 rfl rfl (vp_in_nI hk (by omega)) dJ7_fill_53178_13 (fun H1 locs1 h1 h2 h3 => ?_)
      rw [nI_clamp (by omega)] at h1 h2
      refine lv_iinc (v := nI (k + 1)) (lv' := [(2, .int (nI (k + 1))), (3, .int (nI n)), (0, .ref q), (1, .int v)]) hx hb dJ7_fill_53178_14 hl (k := 1) rfl (nI_inc k) (by decide) rfl (fun ls hl => ?_)
      refine lv_goto (tgt := 5) hx hb dJ7_fill_53178_17 (by decide) ?_
      exact ih H1 locs1 ls h1 h2 h3 (lv_sub hl [1, 0, 2, 3] rfl)
  refine lv_iconst (v := nI 0) hx hb dJ7_fill_53178_0 (by decide) ?_
  refine lv_istore_n (lv' := [(2, .int (nI 0)), (0, .ref q), (1, .int v)]) hx hb dJ7_fill_53178_1 rfl hl (by decide) rfl (fun ls hl => ?_)
  refine lv_aload_n hx hb dJ7_fill_53178_2 rfl (lv_at hl 1 rfl) ?_
  refine va_alen hx hb hK hP 0 0 rfl (ty := .int) rfl (v := nI n) rfl dJ7_fill_53178_3 ?_
  refine lv_istore_n (lv' := [(3, .int (nI n)), (2, .int (nI 0)), (0, .ref q), (1, .int v)]) hx hb dJ7_fill_53178_4 rfl hl (by decide) rfl (fun ls hl => ?_)
  exact loop 0 (Nat.zero_le n) _ _ ls hP hD va_S.rf hl
end Fill
