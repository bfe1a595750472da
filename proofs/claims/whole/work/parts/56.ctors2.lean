/-! ===== PlanSearch(), History(), RelayNetwork() ===== -/
section CtMna
variable {l : Launch} {own : String} {cc : ByteArray} {nL : Nat} {D : va_G} {k4 : Nat → ClassId} {R : Room} {pc : Nat} {lv : List (Nat × Value)} {st : List Value} {ws : va_W} {cells slots : Nat} {Q : va_W → Nat → Nat → Prop}
theorem ct_mna {N M index : Nat} (hd : decode cc pc = .ok (.multianewarray index 2, 4)) (hcl : Cond.classLink own index "[[I" ∈ wG) (hN : N ≤ 2000) (hM : M ≤ 2000) (hc : cells + (1 + N) ≤ R.cells) (hs : slots + (N + N * M) ≤ R.slots)
    (k : ∀ q (r : Nat → Nat), ctEv l own cc nL D k4 R (pc + 4) lv (.ref q :: st) ((ws ++ [(q, .inl (k4 3, N, .inr (.inr (.inr (.inr (fun i => if i < N then some (r i) else none))))))]) ++ (List.range N).map (fun i => (r i, .inl (k4 0, M, .inl (fun _ => 0))))) (cells + 1 + N) (slots + N + N * M) Q) : ctEv l own cc nL D k4 R pc lv (.int (nI M) :: .int (nI N) :: st) ws cells slots Q := by
  intro p e s m args below meth c A Z F K H locs ls hP hD hS hl
  have hcy : s.vm.findClass (FieldType.array .int).toString = some (k4 0) := (F.2.2.2.2.2.2.2.1.2 0 _ rfl).2
  have e0 : ws ++ va_pl [] (fun _ => (.inl (k4 0, M, .inl (fun _ => 0)) : va_E)) = ws := List.append_nil ws
  refine va_mna (X := ws) (L := []) (f := fun _ => .inl (k4 0, M, .inl (fun _ => 0))) (ty := .int) (cy := k4 0) (z := (M, .inl (fun _ => 0))) F.1 F.2.1 F.2.2.2.1 (F.2.2.2.2.1 _ hcl) F.2.2.2.2.2.1.2.2 (F.2.2.2.2.1 _ A_int) hcy F.2.2.2.2.2.2.2.1 (by rw [e0]; exact hP) (by rw [e0]; exact hD) hS F.2.2.2.2.2.2.2.2 (nI_pos (by omega)) (nI_pos (by omega)) (nI_clamp (by omega)) (nI_clamp (by omega)) (by omega) (by show M * 4 ≤ _; omega) (by omega) rfl rfl hc hs (fun c => ?_) hd (fun q r cA H1 _ _ hK1 h1 h2 h3 => ?_)
  · show ({ cls := c, slots := Array.replicate M _, vm := .none } : Cell) = _
    rw [arrV_new]
    rfl
  · have ec : cA = k4 3 := ct_same hK1 (i := 4) (j := 3) (ty := .array .int) rfl rfl (Or.inr (Or.inr (Or.inl rfl)))
    have ep : va_pl ([] ++ (List.range N).map r) (vr_up (fun _ => (.inl (k4 0, M, .inl (fun _ => 0)) : va_E)) ((List.range N).map r) (.inl (k4 0, (M, .inl (fun _ => 0))))) = (List.range N).map (fun i => (r i, .inl (k4 0, M, .inl (fun _ => 0)))) := by
      unfold va_pl
      rw [List.nil_append, List.map_map]
      apply List.map_congr_left
      intro i hi
      show (r i, vr_up _ _ _ (r i)) = _
      rw [vr_up_in (List.mem_map.mpr ⟨i, hi, rfl⟩)]
    rw [ec, ep] at h1 h2
    exact k q r p e s m args below meth c A Z F K H1 locs ls h1 h2 h3 hl
theorem ct_astq {x0 : Nat × va_E} {tl : va_W} {a v n j qk : Nat} {f : Nat → Option Nat} {vs : List Value} (hd : decode cc pc = .ok (.aastore, 1)) (hj : j < n) (hn : n ≤ 2000) (hv : tl[qk]? = some (v, .inr (3, vs)))
    (k : ctEv l own cc nL D k4 R (pc + 1) lv st (x0 :: (a, .inl (k4 2, n, .inr (.inr (.inr (.inr (va_up f j (some v))))))) :: tl) cells slots Q) : ctEv l own cc nL D k4 R pc lv (.ref v :: .int (nI j) :: .ref a :: st) (x0 :: (a, .inl (k4 2, n, .inr (.inr (.inr (.inr f))))) :: tl) cells slots Q := by
  intro p e s m args below meth c A Z F K H locs ls hP hD hS hl
  refine va_astq (r := (RX4, TX4, 10)) F.1 F.2.1 F.2.2.2.2.2.2.2.1 hP hD hS 1 2 (qk + 2) 3 rfl rfl (by show tl[qk]? = _; exact hv) rfl (vp_in_nI hj (by omega)) hd (fun H1 locs1 h1 h2 h3 => ?_)
  rw [nI_clamp (by omega)] at h1 h2
  exact k p e s m args below meth c A Z F K H1 locs1 ls h1 h2 h3 hl
end CtMna
def plW (k4 : Nat → ClassId) (h : Nat) (u : Nat → Nat → Nat) : va_W := [(h, .inr (2, [.ref (u 0 0), .ref (u 0 1), .int (-9), .int (-9), .int 0])), (u 0 0, .inl (k4 3, 6, .inr (.inr (.inr (.inr (fun i => if i < 6 then some (u 1 i) else none))))))] ++ ((List.range 6).map (fun i => (u 1 i, .inl (k4 0, 60, .inl (fun _ => 0)))) ++ [(u 0 1, .inl (k4 0, 6, .inl (fun _ => 0)))])
/-- the first j states of the ring -/
def hsT (k4 : Nat → ClassId) : Nat → (Nat → Nat → Nat) → va_W
  | 0, _ => []
  | j + 1, u => hsT k4 j u ++ stW k4 (u j 0) (u j)
def hiW (k4 : Nat → ClassId) (h : Nat) (u : Nat → Nat → Nat) : va_W := (h, .inr (0, [.ref (u 8 0), .int 0, .int 0])) :: (u 8 0, .inl (k4 2, 8, .inr (.inr (.inr (.inr (fun i => if i < 8 then some (u i 0) else none)))))) :: hsT k4 8 u
theorem hsT_congr {k4 : Nat → ClassId} {u u' : Nat → Nat → Nat} : ∀ {j : Nat}, (∀ i, i < j → u' i = u i) → hsT k4 j u' = hsT k4 j u
  | 0, _ => rfl
  | j + 1, h => by unfold hsT; rw [hsT_congr (fun i hi => h i (by omega)), h j (by omega)]
theorem DV_X0 : ∀ j, j < 3 → defaultValue (tyX0 j) = vp_V [.null, .int 0, .int 0] j := fun j hj => by
  match j, hj with
  | 0, _ => rfl
  | 1, _ => rfl
  | 2, _ => rfl
  | j + 3, h => exact absurd h (by omega)
theorem DV_X2 : ∀ j, j < 2 → defaultValue (tyX2 j) = vp_V [.null, .int 0] j := fun j hj => by
  match j, hj with
  | 0, _ => rfl
  | 1, _ => rfl
  | j + 2, h => exact absurd h (by omega)
theorem DV_X3 : ∀ j, j < 5 → defaultValue (tyX3 j) = vp_V [.null, .null, .int 0, .int 0, .int 0] j := fun j hj => by
  match j, hj with
  | 0, _ => rfl
  | 1, _ => rfl
  | 2, _ => rfl
  | 3, _ => rfl
  | 4, _ => rfl
  | j + 5, h => exact absurd h (by omega)
theorem DV_X4 : ∀ j, j < 10 → defaultValue (tyX4 j) = vp_V [.int 0, .int 0, .int 0, .int 0, .null, .null, .null, .null, .null, .null] j := fun j hj => by
  match j, hj with
  | 0, _ => rfl
  | 1, _ => rfl
  | 2, _ => rfl
  | 3, _ => rfl
  | 4, _ => rfl
  | 5, _ => rfl
  | 6, _ => rfl
  | 7, _ => rfl
  | 8, _ => rfl
  | 9, _ => rfl
  | j + 10, h => exact absurd h (by omega)
set_option maxHeartbeats 4000000 in
set_option maxRecDepth 100000 in
/-- PlanSearch(): its rows and representatives -/
theorem c_X3_init (l : Launch) (D : va_G) (k4 : Nat → ClassId) : ctM l yX3_init cX3_init 1 D k4 2 [.null, .null, .int 0, .int 0, .int 0] { frames := 2, cells := 8, slots := 372, locals := 64 } 8 372 (fun h u => plW k4 h u) := by
  refine ct_met (by decide) rfl (Nat.le_of_ble_eq_true rfl) rfl rfl (fun h0 => ?_)
  refine ct_aload_n dX3_init_0 rfl 0 rfl ?_
  refine ct_obj dX3_init_1 O_X3 O_I O_C (Nat.le_of_ble_eq_true rfl) (Nat.le_of_ble_eq_true rfl) ?_
  refine ct_aload_n dX3_init_4 rfl 0 rfl ?_
  refine ct_bipush (v := nI 6) dX3_init_5 (by decide) ?_
  refine ct_bipush (v := nI 60) dX3_init_7 (by decide) ?_
  refine ct_mna (N := 6) (M := 60) dX3_init_9 CL_X3_9 (by decide) (by decide) (Nat.le_of_ble_eq_true rfl) (Nat.le_of_ble_eq_true rfl) (fun q r => ?_)
  refine ct_ws (List.append_assoc _ _ _) ?_
  refine ct_ws List.cons_append ?_
  refine ct_put (ty := .array (.array .int)) dX3_init_13 C_X3 FL_X3_11 (by decide) rfl rfl rfl (Nat.le_of_ble_eq_true rfl) rfl ?_
  refine ct_aload_n dX3_init_16 rfl 0 rfl ?_
  refine ct_bipush (v := nI 6) dX3_init_17 (by decide) ?_
  refine ct_newI (N := 6) dX3_init_19 A_int (by decide) (Nat.le_of_ble_eq_true rfl) (Nat.le_of_ble_eq_true rfl) (fun q1 => ?_)
  refine ct_ws List.cons_append ?_
  refine ct_put (ty := .array .int) dX3_init_21 C_X3 FL_X3_16 (by decide) rfl rfl rfl (Nat.le_of_ble_eq_true rfl) rfl ?_
  refine ct_aload_n dX3_init_24 rfl 0 rfl ?_
  refine ct_bipush (v := (-9)) dX3_init_25 (by decide) ?_
  refine ct_put (ty := .int) dX3_init_27 C_X3 FL_X3_20 (by decide) rfl rfl rfl (Nat.le_of_ble_eq_true rfl) rfl ?_
  refine ct_aload_n dX3_init_30 rfl 0 rfl ?_
  refine ct_bipush (v := (-9)) dX3_init_31 (by decide) ?_
  refine ct_put (ty := .int) dX3_init_33 C_X3 FL_X3_24 (by decide) rfl rfl rfl (Nat.le_of_ble_eq_true rfl) rfl ?_
  refine ct_aload_n dX3_init_36 rfl 0 rfl ?_
  refine ct_iconst (v := (0)) dX3_init_37 (by decide) ?_
  refine ct_put (ty := .int) dX3_init_38 C_X3 FL_X3_27 (by decide) rfl rfl rfl (Nat.le_of_ble_eq_true rfl) rfl ?_
  exact ct_return dX3_init_41 ⟨⟨fun a k => match a with | 0 => [q, q1].getD k 0 | _ => r k, rfl⟩, (Nat.le_of_ble_eq_true rfl), (Nat.le_of_ble_eq_true rfl)⟩
set_option maxHeartbeats 4000000 in
set_option maxRecDepth 100000 in
/-- History(): eight states -/
theorem c_X0_init (l : Launch) (D : va_G) (k4 : Nat → ClassId) : ctM l yX0_init cX0_init 2 D k4 0 [.null, .int 0, .int 0] { frames := 4, cells := 57, slots := 1384, locals := 128 } 57 1384 (fun h u => hiW k4 h u) := by
  refine ct_met (by decide) rfl (Nat.le_of_ble_eq_true rfl) rfl rfl (fun h0 => ?_)
  refine ct_aload_n dX0_init_0 rfl 0 rfl ?_
  refine ct_obj dX0_init_1 O_X0 O_I O_C (Nat.le_of_ble_eq_true rfl) (Nat.le_of_ble_eq_true rfl) ?_
  refine ct_aload_n dX0_init_4 rfl 0 rfl ?_
  refine ct_bipush (v := nI 8) dX0_init_5 (by decide) ?_
  refine ct_newQ (N := 8) dX0_init_7 CL_X0_9 (by decide) (Nat.le_of_ble_eq_true rfl) (Nat.le_of_ble_eq_true rfl) (fun h1 => ?_)
  refine ct_ws List.cons_append ?_
  refine ct_put (ty := .array (.object "RelayNetwork$State")) dX0_init_10 C_X0 FL_X0_11 (by decide) rfl rfl rfl (Nat.le_of_ble_eq_true rfl) rfl ?_
  refine ct_aload_n dX0_init_13 rfl 0 rfl ?_
  refine ct_iconst (v := (0)) dX0_init_14 (by decide) ?_
  refine ct_put (ty := .int) dX0_init_15 C_X0 FL_X0_17 (by decide) rfl rfl rfl (Nat.le_of_ble_eq_true rfl) rfl ?_
  refine ct_aload_n dX0_init_18 rfl 0 rfl ?_
  refine ct_iconst (v := (0)) dX0_init_19 (by decide) ?_
  refine ct_put (ty := .int) dX0_init_20 C_X0 FL_X0_21 (by decide) rfl rfl rfl (Nat.le_of_ble_eq_true rfl) rfl ?_
  refine ct_iconst (v := nI 0) dX0_init_23 (by decide) ?_
  refine ct_istore_n dX0_init_24 rfl (by decide) rfl ?_
  have loop : ∀ j, j ≤ 8 → ∀ u, ctEv l RX0 cX0_init 2 D k4 { frames := 4, cells := 57, slots := 1384, locals := 128 } 25 [(1, .int (nI j)), (0, .ref h0)] [] ((h0, .inr (0, [.ref h1, .int 0, .int 0])) :: (h1, .inl (k4 2, 8, .inr (.inr (.inr (.inr (fun i => if i < j then some (u i 0) else none)))))) :: hsT k4 j u) (1 + 7 * j) (8 + 172 * j) (fun ws' n k => (∃ u, ws' = hiW k4 h0 u) ∧ n ≤ 57 ∧ k ≤ 1384) := by
    intro j hj
    refine loop_from (fun j => ∀ u, ctEv l RX0 cX0_init 2 D k4 { frames := 4, cells := 57, slots := 1384, locals := 128 } 25 [(1, .int (nI j)), (0, .ref h0)] [] ((h0, .inr (0, [.ref h1, .int 0, .int 0])) :: (h1, .inl (k4 2, 8, .inr (.inr (.inr (.inr (fun i => if i < j then some (u i 0) else none)))))) :: hsT k4 j u) (1 + 7 * j) (8 + 172 * j) (fun ws' n k => (∃ u, ws' = hiW k4 h0 u) ∧ n ≤ 57 ∧ k ≤ 1384)) j 8 hj (fun u => ?_) (fun k _ hk ih u => ?_)
    · refine ct_iload_n dX0_init_25 rfl 0 rfl ?_
      refine ct_bipush (v := nI 8) dX0_init_26 (by decide) ?_
      refine ct_icmp_ge (tgt := 50) dX0_init_28 (by decide) (fun _ => ?_) (fun h => absurd (Int32.le_refl _) h)
      refine ct_return dX0_init_50 ⟨⟨fun i => if i = 8 then fun _ => h1 else u i, ?_⟩, by omega, by omega⟩
      have e1 : hsT k4 8 (fun i => if i = 8 then fun _ => h1 else u i) = hsT k4 8 u := hsT_congr (fun i hi => if_neg (by omega))
      have e2 : (fun i => if i < 8 then some ((fun i => if i = 8 then fun _ => h1 else u i) i 0) else none) = fun i => if i < 8 then some (u i 0) else none := by
        funext i
        by_cases h : i < 8
        · rw [if_pos h, if_pos h]; dsimp only; rw [if_neg (by omega)]
        · rw [if_neg h, if_neg h]
      unfold hiW
      rw [e1, e2]
      rfl
    · refine ct_iload_n dX0_init_25 rfl 0 rfl ?_
      refine ct_bipush (v := nI 8) dX0_init_26 (by decide) ?_
      refine ct_icmp_ge (tgt := 50) dX0_init_28 (by decide) (fun h => absurd ((nI_leI (by omega) (by omega)).mp h) (by omega)) (fun _ => ?_)
      refine ct_aload_n dX0_init_31 rfl 1 rfl ?_
      refine ct_get dX0_init_32 C_X0 FL_X0_11 (by decide) rfl ?_
      refine ct_iload_n dX0_init_35 rfl 0 rfl ?_
      refine ct_new dX0_init_36 dX0_init_39 dX0_init_40 C_X4 CL_X0_9 I_X4 N_X4 DV_X4 (c_X4_init l D k4) Z_X4 rfl rfl K_X0_24 (Nat.le_of_ble_eq_true rfl) ⟨(Nat.le_of_ble_eq_true rfl), (Nat.le_of_ble_eq_true rfl)⟩ (by show 1 + 7 * k + 1 + 6 ≤ 57; omega) (by show 8 + 172 * k + 10 + 162 ≤ 1384; omega) (fun q u2 => ?_)
      refine ct_ws List.cons_append ?_
      refine ct_ws (congrArg (List.cons _) List.cons_append) ?_
      refine ct_astq (qk := (hsT k4 k u).length) dX0_init_43 hk (by decide) (by rw [List.getElem?_append_right (Nat.le_refl _), Nat.sub_self]; rfl) ?_
      refine ct_iinc dX0_init_44 0 rfl (v := nI (k + 1)) (nI_inc k) (by decide) rfl ?_
      refine ct_goto (tgt := 25) dX0_init_47 (by decide) ?_
      refine ct_num (n := 1 + 7 * (k + 1)) (k := 8 + 172 * (k + 1)) (by omega) (by omega) ?_
      refine ct_ws ?_ (ih (fun i => if i = k then (fun z => if z = 0 then q else u2 0 z) else u i))
      have e1 : hsT k4 (k + 1) (fun i => if i = k then (fun z => if z = 0 then q else u2 0 z) else u i) = hsT k4 k u ++ stW k4 q (u2 0) := by
        show hsT k4 k _ ++ stW k4 ((if k = k then (fun z => if z = 0 then q else u2 0 z) else u k) 0) (if k = k then (fun z => if z = 0 then q else u2 0 z) else u k) = _
        rw [if_pos rfl, hsT_congr (u := u) (fun i hi => if_neg (by omega))]
        rfl
      have e2 : va_up (fun i => if i < k then some (u i 0) else none) k (some q) = fun i => if i < k + 1 then some ((fun i => if i = k then (fun z => if z = 0 then q else u2 0 z) else u i) i 0) else none := by
        funext i
        unfold va_up
        by_cases h : i = k
        · rw [if_pos h, if_pos (by omega)]; dsimp only; rw [if_pos h, if_pos rfl]
        · rw [if_neg h]
          dsimp only
          rw [if_neg h]
          by_cases h2 : i < k
          · rw [if_pos h2, if_pos (by omega)]
          · rw [if_neg h2, if_neg (by omega)]
      rw [e1, e2]
  exact loop 0 (Nat.zero_le _) (fun _ _ => 0)
