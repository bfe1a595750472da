/-! ===== State(), ModeText(), PlanSearch() ===== -/
section CtFill
variable {l : Launch} {own : String} {cc : ByteArray} {nL : Nat} {D : va_G} {k4 : Nat → ClassId} {R : Room} {pc : Nat} {lv : List (Nat × Value)} {st : List Value} {cells slots : Nat} {Q : va_W → Nat → Nat → Prop}
theorem ct_fill {pre post : va_W} {q n index : Nat} {f : Nat → Int32} {v : Int32} (hd : decode cc pc = .ok (.invokestatic index, 3)) (hL : av_ml own index yJ7_fill_53178) (hn : n ≤ 2000) (hrm : (st.map fun v => v.category).sum ≤ 8) (hR : 1 ≤ R.frames ∧ 23 ≤ R.locals) (hc : cells ≤ R.cells ∧ slots ≤ R.slots)
    (k : ctEv l own cc nL D k4 R (pc + 3) lv st (pre ++ (q, .inl (k4 0, n, .inl (fl f n v))) :: post) cells slots Q) : ctEv l own cc nL D k4 R pc lv (.int v :: .ref q :: st) (pre ++ (q, .inl (k4 0, n, .inl f)) :: post) cells slots Q := by
  intro p e s m args below meth c A Z F K H locs ls hP hD hS hl
  have e1 : ∀ x : Nat × va_E, pre ++ x :: post = (pre ++ [x]) ++ post := fun x => by rw [List.append_assoc]; rfl
  have hP2 : va_P D vwCl ((pre ++ post) ++ [(q, .inl (k4 0, n, .inl f))]) H := va_P.swap (by rw [← e1]; exact hP)
  have hD2 : va_D A ((pre ++ post) ++ [(q, .inl (k4 0, n, .inl f))]) := va_D.swap (by rw [← e1]; exact hD)
  have hat : ∀ (k : Nat) (x : Nat × va_E), [((q, .inl (k4 0, n, .inl f)) : Nat × va_E)][k]? = some x → ((pre ++ post) ++ [(q, .inl (k4 0, n, .inl f))])[(pre ++ post).length + k]? = some x := fun k x hx => by rw [List.getElem?_append_right (by omega), show (pre ++ post).length + k - (pre ++ post).length = k by omega]; exact hx
  have hPc : va_P D vwCl [(q, .inl (k4 0, n, .inl f))] H := fun k x hx => hP2 _ x (hat k x hx)
  have hFc : ∀ z, va_A [(q, .inl (k4 0, n, .inl f))] H.size z → A z := by
    intro z hz
    rcases hz with ⟨k, x, hx⟩ | hz
    · exact hD2.2 _ (z, x) (hat k (z, x) hx)
    · exact F.2.2.2.2.2.2.2.2 z (Nat.le_trans hS.1 hz)
  have hDc : va_D (fun _ => True) [((q, .inl (k4 0, n, .inl f)) : Nat × va_E)] := ⟨fun i j a b hi hj _ => by
    have h1 : i < 1 := (List.getElem?_eq_some_iff.mp hi).1
    have h2 : j < 1 := (List.getElem?_eq_some_iff.mp hj).1
    omega, fun _ _ _ => trivial⟩
  have hpre : PreS s H (va_Pc [.ref q, .int v] (ctP D k4 [(q, .inl (k4 0, n, .inl f))] H.size)) [.ref q, .int v] := ⟨ct_blind, fun U hU hW => ⟨rfl, by rw [hU], by rw [hU]; exact hPc, va_K.moved hW.alike F.2.2.2.2.2.2.2.1, hDc, F.2.2.2.2.2.1.warm hW⟩⟩
  have hY := Y_J7_fill_53178
  refine va_callv (va_runS (As := [.ref q, .int v]) (rest := st) (n := 2) (bytes := cJ7_fill_53178) (maxL := 4) (ret := none) (nL := nL) (own := own) (index := index) (Ts := wG) ⟨F.1, F.2.1, F.2.2.1, F.2.2.2.1, F.2.2.2.2.1⟩ (c_fill l D k4 q n f v hn H.size) ⟨callB_of 2 F.2.2.2.2.1 (av_Y_good hY.1) rfl rfl rfl (F.2.2.2.2.1 _ hY.1.2.1) (F.2.2.2.2.1 _ hL) hY.1.2.2.1 ⟨hR.1, hR.2⟩, F.2.2.2.2.1 _ hY.2⟩ hpre rfl rfl hl.1 rfl (lv_room hrm) hd hc) hS (fun z _ h => hFc z h) hFc (fun u t H1 locs1 ht hvm hw hB hz1 hk1 hS1 => ?_)
  rw [ht] at hB
  obtain ⟨g1, g2⟩ := ct_join hP2 hD2 hk1 hFc hB.1 hB.2
  exact k p e s m args below meth c A Z F K H1 locs1 ls (by rw [e1]; exact va_P.swap g1) (by rw [e1]; exact va_D.swap g2) hS1 hl
end CtFill
/-- the cells of a State as it is made -/
def stW (k4 : Nat → ClassId) (h : Nat) (b : Nat → Nat) : va_W := [(h, .inr (3, [.int 1, .int 0, .int 0, .int 0, .ref (b 1), .ref (b 2), .ref (b 3), .ref (b 4), .ref (b 5), .ref (b 6)])), (b 1, .inl (k4 0, 6, .inl (fun _ => 0))), (b 2, .inl (k4 0, 60, .inl (fl (fun _ => 0) 60 (-1)))), (b 3, .inl (k4 0, 24, .inl (fun _ => 0))), (b 4, .inl (k4 0, 24, .inl (fun _ => 0))), (b 5, .inl (k4 0, 24, .inl (fun _ => 0))), (b 6, .inl (k4 0, 24, .inl (fun _ => 0)))]
def txW (k4 : Nat → ClassId) (h : Nat) (b : Nat → Nat) : va_W := [(h, .inr (1, [.ref (b 1), .int 0])), (b 1, .inl (k4 1, 40, .inl (fun _ => 0)))]
set_option maxHeartbeats 4000000 in
set_option maxRecDepth 100000 in
/-- State(): six arrays; the times are -1 -/
theorem c_X4_init (l : Launch) (D : va_G) (k4 : Nat → ClassId) : ctM l yX4_init cX4_init 1 D k4 3 [.int 0, .int 0, .int 0, .int 0, .null, .null, .null, .null, .null, .null] { frames := 2, cells := 6, slots := 162, locals := 64 } 6 162 (fun h u => stW k4 h (u 0)) := by
  refine ct_met (by decide) rfl (Nat.le_of_ble_eq_true rfl) rfl rfl (fun h0 => ?_)
  refine ct_aload_n dX4_init_0 rfl 0 rfl ?_
  refine ct_obj dX4_init_1 O_X4 O_I O_C (Nat.le_of_ble_eq_true rfl) (Nat.le_of_ble_eq_true rfl) ?_
  refine ct_aload_n dX4_init_4 rfl 0 rfl ?_
  refine ct_iconst (v := (1)) dX4_init_5 (by decide) ?_
  refine ct_put (ty := .int) dX4_init_6 C_X4 FL_X4_9 (by decide) rfl rfl rfl (Nat.le_of_ble_eq_true rfl) rfl ?_
  refine ct_aload_n dX4_init_9 rfl 0 rfl ?_
  refine ct_iconst (v := (0)) dX4_init_10 (by decide) ?_
  refine ct_put (ty := .int) dX4_init_11 C_X4 FL_X4_15 (by decide) rfl rfl rfl (Nat.le_of_ble_eq_true rfl) rfl ?_
  refine ct_aload_n dX4_init_14 rfl 0 rfl ?_
  refine ct_iconst (v := (0)) dX4_init_15 (by decide) ?_
  refine ct_put (ty := .int) dX4_init_16 C_X4 FL_X4_18 (by decide) rfl rfl rfl (Nat.le_of_ble_eq_true rfl) rfl ?_
  refine ct_aload_n dX4_init_19 rfl 0 rfl ?_
  refine ct_iconst (v := (0)) dX4_init_20 (by decide) ?_
  refine ct_put (ty := .int) dX4_init_21 C_X4 FL_X4_21 (by decide) rfl rfl rfl (Nat.le_of_ble_eq_true rfl) rfl ?_
  refine ct_aload_n dX4_init_24 rfl 0 rfl ?_
  refine ct_bipush (v := nI 6) dX4_init_25 (by decide) ?_
  refine ct_newI (N := 6) dX4_init_27 A_int (by decide) (Nat.le_of_ble_eq_true rfl) (Nat.le_of_ble_eq_true rfl) (fun q1 => ?_)
  refine ct_ws List.cons_append ?_
  refine ct_put (ty := .array .int) dX4_init_29 C_X4 FL_X4_24 (by decide) rfl rfl rfl (Nat.le_of_ble_eq_true rfl) rfl ?_
  refine ct_aload_n dX4_init_32 rfl 0 rfl ?_
  refine ct_bipush (v := nI 60) dX4_init_33 (by decide) ?_
  refine ct_newI (N := 60) dX4_init_35 A_int (by decide) (Nat.le_of_ble_eq_true rfl) (Nat.le_of_ble_eq_true rfl) (fun q2 => ?_)
  refine ct_ws List.cons_append ?_
  refine ct_put (ty := .array .int) dX4_init_37 C_X4 FL_X4_28 (by decide) rfl rfl rfl (Nat.le_of_ble_eq_true rfl) rfl ?_
  refine ct_aload_n dX4_init_40 rfl 0 rfl ?_
  refine ct_bipush (v := nI 24) dX4_init_41 (by decide) ?_
  refine ct_newI (N := 24) dX4_init_43 A_int (by decide) (Nat.le_of_ble_eq_true rfl) (Nat.le_of_ble_eq_true rfl) (fun q3 => ?_)
  refine ct_ws List.cons_append ?_
  refine ct_put (ty := .array .int) dX4_init_45 C_X4 FL_X4_31 (by decide) rfl rfl rfl (Nat.le_of_ble_eq_true rfl) rfl ?_
  refine ct_aload_n dX4_init_48 rfl 0 rfl ?_
  refine ct_bipush (v := nI 24) dX4_init_49 (by decide) ?_
  refine ct_newI (N := 24) dX4_init_51 A_int (by decide) (Nat.le_of_ble_eq_true rfl) (Nat.le_of_ble_eq_true rfl) (fun q4 => ?_)
  refine ct_ws List.cons_append ?_
  refine ct_put (ty := .array .int) dX4_init_53 C_X4 FL_X4_34 (by decide) rfl rfl rfl (Nat.le_of_ble_eq_true rfl) rfl ?_
  refine ct_aload_n dX4_init_56 rfl 0 rfl ?_
  refine ct_bipush (v := nI 24) dX4_init_57 (by decide) ?_
  refine ct_newI (N := 24) dX4_init_59 A_int (by decide) (Nat.le_of_ble_eq_true rfl) (Nat.le_of_ble_eq_true rfl) (fun q5 => ?_)
  refine ct_ws List.cons_append ?_
  refine ct_put (ty := .array .int) dX4_init_61 C_X4 FL_X4_37 (by decide) rfl rfl rfl (Nat.le_of_ble_eq_true rfl) rfl ?_
  refine ct_aload_n dX4_init_64 rfl 0 rfl ?_
  refine ct_bipush (v := nI 24) dX4_init_65 (by decide) ?_
  refine ct_newI (N := 24) dX4_init_67 A_int (by decide) (Nat.le_of_ble_eq_true rfl) (Nat.le_of_ble_eq_true rfl) (fun q6 => ?_)
  refine ct_ws List.cons_append ?_
  refine ct_put (ty := .array .int) dX4_init_69 C_X4 FL_X4_40 (by decide) rfl rfl rfl (Nat.le_of_ble_eq_true rfl) rfl ?_
  refine ct_aload_n dX4_init_72 rfl 0 rfl ?_
  refine ct_get dX4_init_73 C_X4 FL_X4_28 (by decide) rfl ?_
  refine ct_iconst (v := (-1)) dX4_init_76 (by decide) ?_
  refine ct_fill (pre := [_, _]) (n := 60) dX4_init_77 M_X4_43 (by decide) (Nat.le_of_ble_eq_true rfl) ⟨(Nat.le_of_ble_eq_true rfl), (Nat.le_of_ble_eq_true rfl)⟩ ⟨(Nat.le_of_ble_eq_true rfl), (Nat.le_of_ble_eq_true rfl)⟩ ?_
  exact ct_return dX4_init_80 ⟨⟨fun _ k => [0, q1, q2, q3, q4, q5, q6].getD k 0, rfl⟩, (Nat.le_of_ble_eq_true rfl), (Nat.le_of_ble_eq_true rfl)⟩
set_option maxHeartbeats 4000000 in
set_option maxRecDepth 100000 in
/-- ModeText(): its characters -/
theorem c_X2_init (l : Launch) (D : va_G) (k4 : Nat → ClassId) : ctM l yX2_init cX2_init 1 D k4 1 [.null, .int 0] { frames := 2, cells := 1, slots := 40, locals := 64 } 1 40 (fun h u => txW k4 h (u 0)) := by
  refine ct_met (by decide) rfl (Nat.le_of_ble_eq_true rfl) rfl rfl (fun h0 => ?_)
  refine ct_aload_n dX2_init_0 rfl 0 rfl ?_
  refine ct_obj dX2_init_1 O_X2 O_I O_C (Nat.le_of_ble_eq_true rfl) (Nat.le_of_ble_eq_true rfl) ?_
  refine ct_aload_n dX2_init_4 rfl 0 rfl ?_
  refine ct_bipush (v := nI 40) dX2_init_5 (by decide) ?_
  refine ct_newC (N := 40) dX2_init_7 A_char (by decide) (Nat.le_of_ble_eq_true rfl) (Nat.le_of_ble_eq_true rfl) (fun q1 => ?_)
  refine ct_ws List.cons_append ?_
  refine ct_put (ty := .array .char) dX2_init_9 C_X2 FL_X2_9 (by decide) rfl rfl rfl (Nat.le_of_ble_eq_true rfl) rfl ?_
  refine ct_aload_n dX2_init_12 rfl 0 rfl ?_
  refine ct_iconst (v := (0)) dX2_init_13 (by decide) ?_
  refine ct_put (ty := .int) dX2_init_14 C_X2 FL_X2_15 (by decide) rfl rfl rfl (Nat.le_of_ble_eq_true rfl) rfl ?_
  exact ct_return dX2_init_17 ⟨⟨fun _ k => [0, q1].getD k 0, rfl⟩, (Nat.le_of_ble_eq_true rfl), (Nat.le_of_ble_eq_true rfl)⟩
