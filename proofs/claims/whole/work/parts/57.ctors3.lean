/-! ===== RelayNetwork() ===== -/
def netW (k4 : Nat → ClassId) (h : Nat) (u : Nat → Nat → Nat) : va_W := (h, .inr (4, [.ref (u 36 0), .ref (u 36 1), .ref (u 36 2), .ref (u 36 3)])) :: (((stW k4 (u 36 0) (u 0) ++ hiW k4 (u 36 1) (fun i => u (4 * i + 1))) ++ txW k4 (u 36 2) (u 2)) ++ plW k4 (u 36 3) (fun i => u (4 * i + 3)))
def pkU (qs : List Nat) (u0 u1 u2 u3 : Nat → Nat → Nat) : Nat → Nat → Nat := fun a => if a = 36 then (fun k => qs.getD k 0) else if a % 4 = 0 then u0 (a / 4) else if a % 4 = 1 then u1 (a / 4) else if a % 4 = 2 then u2 (a / 4) else u3 (a / 4)
theorem pkU_1 {qs : List Nat} {u0 u1 u2 u3 : Nat → Nat → Nat} : (fun i => pkU qs u0 u1 u2 u3 (4 * i + 1)) = u1 := by
  funext i
  unfold pkU
  rw [if_neg (by omega), if_neg (by omega), if_pos (by omega), show (4 * i + 1) / 4 = i by omega]
theorem pkU_3 {qs : List Nat} {u0 u1 u2 u3 : Nat → Nat → Nat} : (fun i => pkU qs u0 u1 u2 u3 (4 * i + 3)) = u3 := by
  funext i
  unfold pkU
  rw [if_neg (by omega), if_neg (by omega), if_neg (by omega), if_neg (by omega), show (4 * i + 3) / 4 = i by omega]
theorem netW_pk {k4 : Nat → ClassId} {h q0 q1 q2 q3 : Nat} {u0 u1 u2 u3 : Nat → Nat → Nat} : netW k4 h (pkU [q0, q1, q2, q3] u0 u1 u2 u3) = (h, .inr (4, [.ref q0, .ref q1, .ref q2, .ref q3])) :: (((stW k4 q0 (u0 0) ++ hiW k4 q1 u1) ++ txW k4 q2 (u2 0)) ++ plW k4 q3 u3) := by
  unfold netW
  rw [pkU_1, pkU_3]
  rfl
set_option maxHeartbeats 4000000 in
set_option maxRecDepth 100000 in
/-- RelayNetwork(): a state, a history, a text, a search -/
theorem c_X5_init (l : Launch) (D : va_G) (k4 : Nat → ClassId) : ctM l yX5_init cX5_init 1 D k4 4 [.null, .null, .null, .null] { frames := 6, cells := 76, slots := 1978, locals := 256 } 76 1978 (fun h u => netW k4 h u) := by
  refine ct_met (by decide) rfl (Nat.le_of_ble_eq_true rfl) rfl rfl (fun h0 => ?_)
  refine ct_aload_n dX5_init_0 rfl 0 rfl ?_
  refine ct_obj dX5_init_1 O_X5 O_I O_C (Nat.le_of_ble_eq_true rfl) (Nat.le_of_ble_eq_true rfl) ?_
  refine ct_aload_n dX5_init_4 rfl 0 rfl ?_
  refine ct_new dX5_init_5 dX5_init_8 dX5_init_9 C_X4 CL_X5_9 I_X4 N_X4 DV_X4 (c_X4_init l D k4) Z_X4 rfl rfl K_X5_11 (Nat.le_of_ble_eq_true rfl) ⟨(Nat.le_of_ble_eq_true rfl), (Nat.le_of_ble_eq_true rfl)⟩ (Nat.le_of_ble_eq_true rfl) (Nat.le_of_ble_eq_true rfl) (fun q0 u0 => ?_)
  refine ct_ws List.cons_append ?_
  refine ct_put (ty := .object "RelayNetwork$State") dX5_init_12 C_X5 FL_X5_12 (by decide) rfl rfl rfl (Nat.le_of_ble_eq_true rfl) rfl ?_
  refine ct_aload_n dX5_init_15 rfl 0 rfl ?_
  refine ct_new dX5_init_16 dX5_init_19 dX5_init_20 C_X0 CL_X5_16 I_X0 N_X0 DV_X0 (c_X0_init l D k4) Z_X0 rfl rfl K_X5_18 (Nat.le_of_ble_eq_true rfl) ⟨(Nat.le_of_ble_eq_true rfl), (Nat.le_of_ble_eq_true rfl)⟩ (Nat.le_of_ble_eq_true rfl) (Nat.le_of_ble_eq_true rfl) (fun q1 u1 => ?_)
  refine ct_ws List.cons_append ?_
  refine ct_put (ty := .object "RelayNetwork$History") dX5_init_23 C_X5 FL_X5_19 (by decide) rfl rfl rfl (Nat.le_of_ble_eq_true rfl) rfl ?_
  refine ct_aload_n dX5_init_26 rfl 0 rfl ?_
  refine ct_new dX5_init_27 dX5_init_30 dX5_init_31 C_X2 CL_X5_23 I_X2 N_X2 DV_X2 (c_X2_init l D k4) Z_X2 rfl rfl K_X5_25 (Nat.le_of_ble_eq_true rfl) ⟨(Nat.le_of_ble_eq_true rfl), (Nat.le_of_ble_eq_true rfl)⟩ (Nat.le_of_ble_eq_true rfl) (Nat.le_of_ble_eq_true rfl) (fun q2 u2 => ?_)
  refine ct_ws List.cons_append ?_
  refine ct_put (ty := .object "RelayNetwork$ModeText") dX5_init_34 C_X5 FL_X5_26 (by decide) rfl rfl rfl (Nat.le_of_ble_eq_true rfl) rfl ?_
  refine ct_aload_n dX5_init_37 rfl 0 rfl ?_
  refine ct_new dX5_init_38 dX5_init_41 dX5_init_42 C_X3 CL_X5_30 I_X3 N_X3 DV_X3 (c_X3_init l D k4) Z_X3 rfl rfl K_X5_32 (Nat.le_of_ble_eq_true rfl) ⟨(Nat.le_of_ble_eq_true rfl), (Nat.le_of_ble_eq_true rfl)⟩ (Nat.le_of_ble_eq_true rfl) (Nat.le_of_ble_eq_true rfl) (fun q3 u3 => ?_)
  refine ct_ws List.cons_append ?_
  refine ct_put (ty := .object "RelayNetwork$PlanSearch") dX5_init_45 C_X5 FL_X5_33 (by decide) rfl rfl rfl (Nat.le_of_ble_eq_true rfl) rfl ?_
  exact ct_return dX5_init_48 ⟨⟨pkU [q0, q1, q2, q3] u0 u1 u2 u3, netW_pk.symm⟩, (Nat.le_of_ble_eq_true rfl), (Nat.le_of_ble_eq_true rfl)⟩
