/-! ===== RelayNetworkModel() ===== -/
section CtReset
variable {l : Launch} {own : String} {cc : ByteArray} {nL : Nat} {D : va_G} {k4 : Nat → ClassId} {R : Room} {pc : Nat} {lv : List (Nat × Value)} {st : List Value} {cells slots : Nat} {Q : va_W → Nat → Nat → Prop}
theorem ct_reset {tl : va_W} {h q index : Nat} {fs : List Value} {f : Nat → Int32} {x : Int32} (hd : decode cc pc = .ok (.invokevirtual index, 3)) (hL : av_ml own index yX6_reset) (hf0 : fs[0]? = some (.ref q)) (hrm : (st.map fun v => v.category).sum ≤ 8) (hR : 1 ≤ R.frames ∧ 22 ≤ R.locals) (hc : cells ≤ R.cells ∧ slots ≤ R.slots)
    (k : ctEv l own cc nL D k4 R (pc + 3) lv st ((h, .inr (5, fs)) :: (q, .inl (k4 0, 238, .inl (mrs f x))) :: tl) cells slots Q) : ctEv l own cc nL D k4 R pc lv (.int x :: .ref h :: st) ((h, .inr (5, fs)) :: (q, .inl (k4 0, 238, .inl f)) :: tl) cells slots Q := by
  intro p e s m args below meth c A Z F K H locs ls hP hD hS hl
  have hat : ∀ (k : Nat) (x : Nat × va_E), [((h, .inr (5, fs)) : Nat × va_E), (q, .inl (k4 0, 238, .inl f))][k]? = some x → ((h, .inr (5, fs)) :: (q, .inl (k4 0, 238, .inl f)) :: tl)[k]? = some x := fun k x hx => by
    match k, hx with
    | 0, hx => exact hx
    | 1, hx => exact hx
    | k + 2, hx => cases hx
  have hPc : va_P D vwCl [(h, .inr (5, fs)), (q, .inl (k4 0, 238, .inl f))] H := fun k x hx => hP _ x (hat k x hx)
  have hFc : ∀ z, va_A [(h, .inr (5, fs)), (q, .inl (k4 0, 238, .inl f))] H.size z → A z := by
    intro z hz
    rcases hz with ⟨k, x, hx⟩ | hz
    · exact hD.2 _ (z, x) (hat k (z, x) hx)
    · exact F.2.2.2.2.2.2.2.2 z (Nat.le_trans hS.1 hz)
  have hDc : va_D (fun _ => True) [((h, .inr (5, fs)) : Nat × va_E), (q, .inl (k4 0, 238, .inl f))] := ⟨fun i j a b hi hj hab => hD.1 i j a b (hat i a hi) (hat j b hj) hab, fun _ _ _ => trivial⟩
  have hpre : PreV s H RX6 h (va_Pc [.ref h, .int x] (ctP D k4 [(h, .inr (5, fs)), (q, .inl (k4 0, 238, .inl f))] H.size)) [.int x] := ⟨ct_blind, va_recv F.2.2.2.2.2.2.2.1 hP C_X6.1 (q0 := 0) rfl, fun U hU hW => ⟨rfl, by rw [hU], by rw [hU]; exact hPc, va_K.moved hW.alike F.2.2.2.2.2.2.2.1, hDc, F.2.2.2.2.2.1.warm hW⟩⟩
  have hY := Y_X6_reset
  refine va_callv (va_runV (As := [.int x]) (rest := st) (n := 1) (C := RX6) (bytes := cX6_reset) (maxL := 3) (ret := none) (nL := nL) (own := own) (index := index) (Ts := wG) ⟨F.1, F.2.1, F.2.2.1, F.2.2.2.1, F.2.2.2.2.1⟩ (c_resetS l D k4 h q fs f x hf0 H.size) ⟨callB_of 1 F.2.2.2.2.1 (av_Y_good hY.1) rfl rfl rfl (F.2.2.2.2.1 _ hY.1.2.1) (F.2.2.2.2.1 _ hL) hY.1.2.2.1 ⟨hR.1, hR.2⟩, F.2.2.2.2.1 _ hY.2.1, F.2.2.2.2.1 _ hY.2.2⟩ hpre rfl rfl hl.1 rfl (lv_room hrm) hd hc) hS (fun z _ h => hFc z h) hFc (fun u t H1 locs1 ht hvm hw hB hz1 hk1 hS1 => ?_)
  rw [ht] at hB
  obtain ⟨g1, g2⟩ := va_joinQ (X := [(h, .inr (5, fs)), (q, .inl (k4 0, 238, .inl f))]) (cx := [(h, .inr (5, fs)), (q, .inl (k4 0, 238, .inl f))]) (wr := []) (pl := tl) hP hD [0, 1] [] rfl rfl rfl (fun i hi => by cases hi) hk1 hFc hB.1 hB.2
  exact k p e s m args below meth c A Z F K H1 locs1 ls g1 g2 hS1 hl
end CtReset
/-- the cells of a RelayNetworkModel as it is made -/
def moW (k4 : Nat → ClassId) (h : Nat) (b : Nat → Nat) : va_W := [(h, .inr (5, [.ref (b 1), .ref (b 2), .int 0, .ref (b 3), .int 0, .int 0, .ref (b 4), .ref (b 5), .ref (b 6), .ref (b 7), .ref (b 8), .int 0, .int 0])), (b 1, .inl (k4 0, 238, .inl (mrs (fun _ => 0) 1))), (b 2, .inl (k4 0, 1904, .inl (fun _ => 0))), (b 3, .inl (k4 0, 40, .inl (fun _ => 0))), (b 4, .inl (k4 0, 360, .inl (fun _ => 0))), (b 5, .inl (k4 0, 6, .inl (fun _ => 0))), (b 6, .inl (k4 0, 6, .inl (fun _ => 0))), (b 7, .inl (k4 0, 6, .inl (fun _ => 0))), (b 8, .inl (k4 0, 6, .inl (fun _ => 0)))]
theorem DV_X5 : ∀ j, j < 4 → defaultValue (tyX5 j) = vp_V [.null, .null, .null, .null] j := fun j hj => by
  match j, hj with
  | 0, _ => rfl
  | 1, _ => rfl
  | 2, _ => rfl
  | 3, _ => rfl
  | j + 4, h => exact absurd h (by omega)
theorem DV_X6 : ∀ j, j < 13 → defaultValue (tyX6 j) = vp_V [.null, .null, .int 0, .null, .int 0, .int 0, .null, .null, .null, .null, .null, .int 0, .int 0] j := fun j hj => by
  match j, hj with
  | 0, _ => rfl
  | 1, _ => rfl
  | 2, _ => rfl
  | 3, _ => rfl
  | 4, _ => rfl
  | 5, _ => rfl
  | 6, _ => rfl
  | 7, _ => rfl
  | 8, _ => rfl
  | 9, _ => rfl
  | 10, _ => rfl
  | 11, _ => rfl
  | 12, _ => rfl
  | j + 13, h => exact absurd h (by omega)
set_option maxHeartbeats 4000000 in
set_option maxRecDepth 100000 in
/-- RelayNetworkModel(): eight arrays, and reset(1) -/
theorem c_X6_init (l : Launch) (D : va_G) (k4 : Nat → ClassId) : ctM l yX6_init cX6_init 1 D k4 5 [.null, .null, .int 0, .null, .int 0, .int 0, .null, .null, .null, .null, .null, .int 0, .int 0] { frames := 4, cells := 8, slots := 2566, locals := 128 } 8 2566 (fun h u => moW k4 h (u 0)) := by
  refine ct_met (by decide) rfl (Nat.le_of_ble_eq_true rfl) rfl rfl (fun h0 => ?_)
  refine ct_aload_n dX6_init_0 rfl 0 rfl ?_
  refine ct_obj dX6_init_1 O_X6 O_I O_C (Nat.le_of_ble_eq_true rfl) (Nat.le_of_ble_eq_true rfl) ?_
  refine ct_aload_n dX6_init_4 rfl 0 rfl ?_
  refine ct_sipush (v := nI 238) dX6_init_5 (by decide) ?_
  refine ct_newI (N := 238) dX6_init_8 A_int (by decide) (Nat.le_of_ble_eq_true rfl) (Nat.le_of_ble_eq_true rfl) (fun q1 => ?_)
  refine ct_ws List.cons_append ?_
  refine ct_put (ty := .array .int) dX6_init_10 C_X6 FL_X6_7 (by decide) rfl rfl rfl (Nat.le_of_ble_eq_true rfl) rfl ?_
  refine ct_aload_n dX6_init_13 rfl 0 rfl ?_
  refine ct_sipush (v := nI 1904) dX6_init_14 (by decide) ?_
  refine ct_newI (N := 1904) dX6_init_17 A_int (by decide) (Nat.le_of_ble_eq_true rfl) (Nat.le_of_ble_eq_true rfl) (fun q2 => ?_)
  refine ct_ws List.cons_append ?_
  refine ct_put (ty := .array .int) dX6_init_19 C_X6 FL_X6_13 (by decide) rfl rfl rfl (Nat.le_of_ble_eq_true rfl) rfl ?_
  refine ct_aload_n dX6_init_22 rfl 0 rfl ?_
  refine ct_bipush (v := nI 40) dX6_init_23 (by decide) ?_
  refine ct_newI (N := 40) dX6_init_25 A_int (by decide) (Nat.le_of_ble_eq_true rfl) (Nat.le_of_ble_eq_true rfl) (fun q3 => ?_)
  refine ct_ws List.cons_append ?_
  refine ct_put (ty := .array .int) dX6_init_27 C_X6 FL_X6_16 (by decide) rfl rfl rfl (Nat.le_of_ble_eq_true rfl) rfl ?_
  refine ct_aload_n dX6_init_30 rfl 0 rfl ?_
  refine ct_sipush (v := nI 360) dX6_init_31 (by decide) ?_
  refine ct_newI (N := 360) dX6_init_34 A_int (by decide) (Nat.le_of_ble_eq_true rfl) (Nat.le_of_ble_eq_true rfl) (fun q4 => ?_)
  refine ct_ws List.cons_append ?_
  refine ct_put (ty := .array .int) dX6_init_36 C_X6 FL_X6_19 (by decide) rfl rfl rfl (Nat.le_of_ble_eq_true rfl) rfl ?_
  refine ct_aload_n dX6_init_39 rfl 0 rfl ?_
  refine ct_bipush (v := nI 6) dX6_init_40 (by decide) ?_
  refine ct_newI (N := 6) dX6_init_42 A_int (by decide) (Nat.le_of_ble_eq_true rfl) (Nat.le_of_ble_eq_true rfl) (fun q5 => ?_)
  refine ct_ws List.cons_append ?_
  refine ct_put (ty := .array .int) dX6_init_44 C_X6 FL_X6_22 (by decide) rfl rfl rfl (Nat.le_of_ble_eq_true rfl) rfl ?_
  refine ct_aload_n dX6_init_47 rfl 0 rfl ?_
  refine ct_bipush (v := nI 6) dX6_init_48 (by decide) ?_
  refine ct_newI (N := 6) dX6_init_50 A_int (by decide) (Nat.le_of_ble_eq_true rfl) (Nat.le_of_ble_eq_true rfl) (fun q6 => ?_)
  refine ct_ws List.cons_append ?_
  refine ct_put (ty := .array .int) dX6_init_52 C_X6 FL_X6_25 (by decide) rfl rfl rfl (Nat.le_of_ble_eq_true rfl) rfl ?_
  refine ct_aload_n dX6_init_55 rfl 0 rfl ?_
  refine ct_bipush (v := nI 6) dX6_init_56 (by decide) ?_
  refine ct_newI (N := 6) dX6_init_58 A_int (by decide) (Nat.le_of_ble_eq_true rfl) (Nat.le_of_ble_eq_true rfl) (fun q7 => ?_)
  refine ct_ws List.cons_append ?_
  refine ct_put (ty := .array .int) dX6_init_60 C_X6 FL_X6_28 (by decide) rfl rfl rfl (Nat.le_of_ble_eq_true rfl) rfl ?_
  refine ct_aload_n dX6_init_63 rfl 0 rfl ?_
  refine ct_bipush (v := nI 6) dX6_init_64 (by decide) ?_
  refine ct_newI (N := 6) dX6_init_66 A_int (by decide) (Nat.le_of_ble_eq_true rfl) (Nat.le_of_ble_eq_true rfl) (fun q8 => ?_)
  refine ct_ws List.cons_append ?_
  refine ct_put (ty := .array .int) dX6_init_68 C_X6 FL_X6_31 (by decide) rfl rfl rfl (Nat.le_of_ble_eq_true rfl) rfl ?_
  refine ct_aload_n dX6_init_71 rfl 0 rfl ?_
  refine ct_iconst (v := (1)) dX6_init_72 (by decide) ?_
  refine ct_reset (q := q1) dX6_init_73 M_X6_34 rfl (Nat.le_of_ble_eq_true rfl) ⟨(Nat.le_of_ble_eq_true rfl), (Nat.le_of_ble_eq_true rfl)⟩ ⟨(Nat.le_of_ble_eq_true rfl), (Nat.le_of_ble_eq_true rfl)⟩ ?_
  exact ct_return dX6_init_76 ⟨⟨fun _ k => [0, q1, q2, q3, q4, q5, q6, q7, q8].getD k 0, rfl⟩, (Nat.le_of_ble_eq_true rfl), (Nat.le_of_ble_eq_true rfl)⟩
