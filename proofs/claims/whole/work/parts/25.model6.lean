/-! ===== the reference: contracts, the last ===== -/
set_option maxRecDepth 100000 in
set_option maxHeartbeats 1000000 in
theorem c_X6_searchPlans {l : Launch} {σ : av_S} (c : Nat) (hcn : σ 78 0 = nI c) (hc1 : 1 ≤ c) (hc6 : c ≤ 6) : av_M l RX6 cX6_searchPlans 4 none 8 [.ref 77] σ none (spS σ c) := by
  intro Q hQ
  show av_Ev l RX6 cX6_searchPlans 4 none av_E0 8 0 [(0, .ref 77)] [] σ Q
  refine ev_aload_n dX6_searchPlans_0 rfl 0 rfl ?_
  refine ev_callVi (x := nI ((rd (σ 78) c (σ 81) (σ 82) c).1)) (σ' := av_set (av_set σ 81 ((rd (σ 78) c (σ 81) (σ 82) c).2.2.1)) 82 ((rd (σ 78) c (σ 81) (σ 82) c).2.2.2)) dX6_searchPlans_1 M_X6_176 Y_X6_readGroups [] (c_X6_readGroups c (by first | exact hcn | omega) (by first | exact hc1 | omega) (by first | exact hc6 | omega)) (by decide) (Nat.le_of_ble_eq_true rfl) (by decide) sh_77 rfl rfl rfl (Nat.le_of_ble_eq_true rfl) ?_
  refine ev_istore_n (lv' := [(1, .int (nI ((rd (σ 78) c (σ 81) (σ 82) c).1))), (0, .ref 77)]) dX6_searchPlans_4 rfl (by decide) rfl ?_
  have hle := rd_le (σ 78) c (σ 81) (σ 82) c
  refine ev_aload_n dX6_searchPlans_5 rfl 1 rfl ?_
  refine ev_iload_n dX6_searchPlans_6 rfl 0 rfl ?_
  refine ev_iconst dX6_searchPlans_7 (v := nI 1) (by decide) ?_
  refine ev_ncmp_ne (tgt := 15) dX6_searchPlans_8 (by decide) (by omega) (by omega) (fun h8 => ?_) (fun h8 => ?_)
  · refine ev_sipush dX6_searchPlans_15 (v := nI 1000) (by decide) ?_
    refine ev_putI dX6_searchPlans_18 C_X6 L_X6_180 (by decide) (by decide) sh_77 rfl rfl rfl ?_
    refine ev_st (σ' := av_set (av_set (av_set σ 77 (upd (σ 77) 11 (nI 1000))) 81 ((rd (σ 78) c (σ 81) (σ 82) c).2.2.1)) 82 ((rd (σ 78) c (σ 81) (σ 82) c).2.2.2)) (by first | rfl | (funext a; by_cases q77 : a = 77; (next => subst q77; rfl); by_cases q81 : a = 81; (next => subst q81; rfl); by_cases q82 : a = 82; (next => subst q82; rfl); simp only [av_set, q77, q81, q82, if_false]) | exact av_set_set _ _ _ _ | (funext a; unfold av_set; (repeat' split) <;> first | rfl | (exfalso; omega)) | (funext a; simp only [av_set, cpS]; (repeat' split) <;> first | rfl | (exfalso; omega))) ?_
    refine ev_aload_n dX6_searchPlans_21 rfl 1 rfl ?_
    refine ev_bipush dX6_searchPlans_22 (v := (-9)) (by decide) ?_
    refine ev_putI dX6_searchPlans_24 C_X6 L_X6_183 (by decide) (by decide) sh_77 rfl rfl rfl ?_
    refine ev_st (σ' := av_set (av_set (av_set σ 77 (upd (upd (σ 77) 11 (nI 1000)) 12 (-9))) 81 ((rd (σ 78) c (σ 81) (σ 82) c).2.2.1)) 82 ((rd (σ 78) c (σ 81) (σ 82) c).2.2.2)) (by first | rfl | (funext a; by_cases q77 : a = 77; (next => subst q77; rfl); by_cases q81 : a = 81; (next => subst q81; rfl); by_cases q82 : a = 82; (next => subst q82; rfl); simp only [av_set, q77, q81, q82, if_false]) | exact av_set_set _ _ _ _ | (funext a; unfold av_set; (repeat' split) <;> first | rfl | (exfalso; omega)) | (funext a; simp only [av_set, cpS]; (repeat' split) <;> first | rfl | (exfalso; omega))) ?_
    refine ev_iconst dX6_searchPlans_27 (v := nI 0) (by decide) ?_
    refine ev_istore_n (lv' := [(2, .int (nI 0)), (1, .int (nI ((rd (σ 78) c (σ 81) (σ 82) c).1))), (0, .ref 77)]) dX6_searchPlans_28 rfl (by decide) rfl ?_
    refine ev_aload_n dX6_searchPlans_29 rfl 2 rfl ?_
    refine ev_getR dX6_searchPlans_30 C_X6 L_X6_25 (by decide) (by decide) sh_77 rfl ?_
    refine ev_iconst dX6_searchPlans_33 (v := nI 0) (by decide) ?_
    refine ev_iconst dX6_searchPlans_34 (v := nI 0) (by decide) ?_
    refine ev_iast (e := 0) dX6_searchPlans_35 (by decide) sh_83 (by omega) (by decide) ?_
    refine ev_st (σ' := av_set (av_set (av_set (av_set σ 77 (upd (upd (σ 77) 11 (nI 1000)) 12 (-9))) 81 ((rd (σ 78) c (σ 81) (σ 82) c).2.2.1)) 82 ((rd (σ 78) c (σ 81) (σ 82) c).2.2.2)) 83 (upd (σ 83) 0 (nI 0))) (by first | rfl | (funext a; by_cases q77 : a = 77; (next => subst q77; rfl); by_cases q81 : a = 81; (next => subst q81; rfl); by_cases q82 : a = 82; (next => subst q82; rfl); by_cases q83 : a = 83; (next => subst q83; rfl); simp only [av_set, q77, q81, q82, q83, if_false]) | exact av_set_set _ _ _ _ | (funext a; unfold av_set; (repeat' split) <;> first | rfl | (exfalso; omega)) | (funext a; simp only [av_set, cpS]; (repeat' split) <;> first | rfl | (exfalso; omega))) ?_
    refine ev_aload_n dX6_searchPlans_36 rfl 2 rfl ?_
    refine ev_getR dX6_searchPlans_37 C_X6 L_X6_28 (by decide) (by decide) sh_77 rfl ?_
    refine ev_iconst dX6_searchPlans_40 (v := nI 0) (by decide) ?_
    refine ev_iconst dX6_searchPlans_41 (v := nI 0) (by decide) ?_
    refine ev_iast (e := 0) dX6_searchPlans_42 (by decide) sh_84 (by omega) (by decide) ?_
    refine ev_st (σ' := av_set (av_set (av_set (av_set (av_set σ 77 (upd (upd (σ 77) 11 (nI 1000)) 12 (-9))) 81 ((rd (σ 78) c (σ 81) (σ 82) c).2.2.1)) 82 ((rd (σ 78) c (σ 81) (σ 82) c).2.2.2)) 83 (upd (σ 83) 0 (nI 0))) 84 (upd (σ 84) 0 (nI 0))) (by first | rfl | (funext a; by_cases q77 : a = 77; (next => subst q77; rfl); by_cases q81 : a = 81; (next => subst q81; rfl); by_cases q82 : a = 82; (next => subst q82; rfl); by_cases q83 : a = 83; (next => subst q83; rfl); by_cases q84 : a = 84; (next => subst q84; rfl); simp only [av_set, q77, q81, q82, q83, q84, if_false]) | exact av_set_set _ _ _ _ | (funext a; unfold av_set; (repeat' split) <;> first | rfl | (exfalso; omega)) | (funext a; simp only [av_set, cpS]; (repeat' split) <;> first | rfl | (exfalso; omega))) ?_
    refine ev_aload_n dX6_searchPlans_43 rfl 2 rfl ?_
    refine ev_getR dX6_searchPlans_44 C_X6 L_X6_31 (by decide) (by decide) sh_77 rfl ?_
    refine ev_iconst dX6_searchPlans_47 (v := nI 0) (by decide) ?_
    refine ev_iconst dX6_searchPlans_48 (v := nI 0) (by decide) ?_
    refine ev_iast (e := 0) dX6_searchPlans_49 (by decide) sh_85 (by omega) (by decide) ?_
    refine ev_st (σ' := av_set (av_set (av_set (av_set (av_set (av_set σ 77 (upd (upd (σ 77) 11 (nI 1000)) 12 (-9))) 81 ((rd (σ 78) c (σ 81) (σ 82) c).2.2.1)) 82 ((rd (σ 78) c (σ 81) (σ 82) c).2.2.2)) 83 (upd (σ 83) 0 (nI 0))) 84 (upd (σ 84) 0 (nI 0))) 85 (upd (σ 85) 0 (nI 0))) (by first | rfl | (funext a; by_cases q77 : a = 77; (next => subst q77; rfl); by_cases q81 : a = 81; (next => subst q81; rfl); by_cases q82 : a = 82; (next => subst q82; rfl); by_cases q83 : a = 83; (next => subst q83; rfl); by_cases q84 : a = 84; (next => subst q84; rfl); by_cases q85 : a = 85; (next => subst q85; rfl); simp only [av_set, q77, q81, q82, q83, q84, q85, if_false]) | exact av_set_set _ _ _ _ | (funext a; unfold av_set; (repeat' split) <;> first | rfl | (exfalso; omega)) | (funext a; simp only [av_set, cpS]; (repeat' split) <;> first | rfl | (exfalso; omega))) ?_
    refine ev_lv (lv' := [(0, .ref 77), (1, .int (nI ((rd (σ 78) c (σ 81) (σ 82) c).1))), (2, .int (nI 0))]) [2, 1, 0] rfl ?_
    refine ev_st (σ' := sp0 σ c) (by unfold sp0; first | rw [if_pos h8] | rw [if_neg h8]) ?_
    have hle := rd_le (σ 78) c (σ 81) (σ 82) c
    refine sp_run (by omega) rfl rfl rfl ?_
    exact hQ
  · refine ev_iconst dX6_searchPlans_11 (v := nI 0) (by decide) ?_
    refine ev_goto (tgt := 18) dX6_searchPlans_12 (by decide) ?_
    refine ev_putI dX6_searchPlans_18 C_X6 L_X6_180 (by decide) (by decide) sh_77 rfl rfl rfl ?_
    refine ev_st (σ' := av_set (av_set (av_set σ 77 (upd (σ 77) 11 (nI 0))) 81 ((rd (σ 78) c (σ 81) (σ 82) c).2.2.1)) 82 ((rd (σ 78) c (σ 81) (σ 82) c).2.2.2)) (by first | rfl | (funext a; by_cases q77 : a = 77; (next => subst q77; rfl); by_cases q81 : a = 81; (next => subst q81; rfl); by_cases q82 : a = 82; (next => subst q82; rfl); simp only [av_set, q77, q81, q82, if_false]) | exact av_set_set _ _ _ _ | (funext a; unfold av_set; (repeat' split) <;> first | rfl | (exfalso; omega)) | (funext a; simp only [av_set, cpS]; (repeat' split) <;> first | rfl | (exfalso; omega))) ?_
    refine ev_aload_n dX6_searchPlans_21 rfl 1 rfl ?_
    refine ev_bipush dX6_searchPlans_22 (v := (-9)) (by decide) ?_
    refine ev_putI dX6_searchPlans_24 C_X6 L_X6_183 (by decide) (by decide) sh_77 rfl rfl rfl ?_
    refine ev_st (σ' := av_set (av_set (av_set σ 77 (upd (upd (σ 77) 11 (nI 0)) 12 (-9))) 81 ((rd (σ 78) c (σ 81) (σ 82) c).2.2.1)) 82 ((rd (σ 78) c (σ 81) (σ 82) c).2.2.2)) (by first | rfl | (funext a; by_cases q77 : a = 77; (next => subst q77; rfl); by_cases q81 : a = 81; (next => subst q81; rfl); by_cases q82 : a = 82; (next => subst q82; rfl); simp only [av_set, q77, q81, q82, if_false]) | exact av_set_set _ _ _ _ | (funext a; unfold av_set; (repeat' split) <;> first | rfl | (exfalso; omega)) | (funext a; simp only [av_set, cpS]; (repeat' split) <;> first | rfl | (exfalso; omega))) ?_
    refine ev_iconst dX6_searchPlans_27 (v := nI 0) (by decide) ?_
    refine ev_istore_n (lv' := [(2, .int (nI 0)), (1, .int (nI ((rd (σ 78) c (σ 81) (σ 82) c).1))), (0, .ref 77)]) dX6_searchPlans_28 rfl (by decide) rfl ?_
    refine ev_aload_n dX6_searchPlans_29 rfl 2 rfl ?_
    refine ev_getR dX6_searchPlans_30 C_X6 L_X6_25 (by decide) (by decide) sh_77 rfl ?_
    refine ev_iconst dX6_searchPlans_33 (v := nI 0) (by decide) ?_
    refine ev_iconst dX6_searchPlans_34 (v := nI 0) (by decide) ?_
    refine ev_iast (e := 0) dX6_searchPlans_35 (by decide) sh_83 (by omega) (by decide) ?_
    refine ev_st (σ' := av_set (av_set (av_set (av_set σ 77 (upd (upd (σ 77) 11 (nI 0)) 12 (-9))) 81 ((rd (σ 78) c (σ 81) (σ 82) c).2.2.1)) 82 ((rd (σ 78) c (σ 81) (σ 82) c).2.2.2)) 83 (upd (σ 83) 0 (nI 0))) (by first | rfl | (funext a; by_cases q77 : a = 77; (next => subst q77; rfl); by_cases q81 : a = 81; (next => subst q81; rfl); by_cases q82 : a = 82; (next => subst q82; rfl); by_cases q83 : a = 83; (next => subst q83; rfl); simp only [av_set, q77, q81, q82, q83, if_false]) | exact av_set_set _ _ _ _ | (funext a; unfold av_set; (repeat' split) <;> first | rfl | (exfalso; omega)) | (funext a; simp only [av_set, cpS]; (repeat' split) <;> first | rfl | (exfalso; omega))) ?_
    refine ev_aload_n dX6_searchPlans_36 rfl 2 rfl ?_
    refine ev_getR dX6_searchPlans_37 C_X6 L_X6_28 (by decide) (by decide) sh_77 rfl ?_
    refine ev_iconst dX6_searchPlans_40 (v := nI 0) (by decide) ?_
    refine ev_iconst dX6_searchPlans_41 (v := nI 0) (by decide) ?_
    refine ev_iast (e := 0) dX6_searchPlans_42 (by decide) sh_84 (by omega) (by decide) ?_
    refine ev_st (σ' := av_set (av_set (av_set (av_set (av_set σ 77 (upd (upd (σ 77) 11 (nI 0)) 12 (-9))) 81 ((rd (σ 78) c (σ 81) (σ 82) c).2.2.1)) 82 ((rd (σ 78) c (σ 81) (σ 82) c).2.2.2)) 83 (upd (σ 83) 0 (nI 0))) 84 (upd (σ 84) 0 (nI 0))) (by first | rfl | (funext a; by_cases q77 : a = 77; (next => subst q77; rfl); by_cases q81 : a = 81; (next => subst q81; rfl); by_cases q82 : a = 82; (next => subst q82; rfl); by_cases q83 : a = 83; (next => subst q83; rfl); by_cases q84 : a = 84; (next => subst q84; rfl); simp only [av_set, q77, q81, q82, q83, q84, if_false]) | exact av_set_set _ _ _ _ | (funext a; unfold av_set; (repeat' split) <;> first | rfl | (exfalso; omega)) | (funext a; simp only [av_set, cpS]; (repeat' split) <;> first | rfl | (exfalso; omega))) ?_
    refine ev_aload_n dX6_searchPlans_43 rfl 2 rfl ?_
    refine ev_getR dX6_searchPlans_44 C_X6 L_X6_31 (by decide) (by decide) sh_77 rfl ?_
    refine ev_iconst dX6_searchPlans_47 (v := nI 0) (by decide) ?_
    refine ev_iconst dX6_searchPlans_48 (v := nI 0) (by decide) ?_
    refine ev_iast (e := 0) dX6_searchPlans_49 (by decide) sh_85 (by omega) (by decide) ?_
    refine ev_st (σ' := av_set (av_set (av_set (av_set (av_set (av_set σ 77 (upd (upd (σ 77) 11 (nI 0)) 12 (-9))) 81 ((rd (σ 78) c (σ 81) (σ 82) c).2.2.1)) 82 ((rd (σ 78) c (σ 81) (σ 82) c).2.2.2)) 83 (upd (σ 83) 0 (nI 0))) 84 (upd (σ 84) 0 (nI 0))) 85 (upd (σ 85) 0 (nI 0))) (by first | rfl | (funext a; by_cases q77 : a = 77; (next => subst q77; rfl); by_cases q81 : a = 81; (next => subst q81; rfl); by_cases q82 : a = 82; (next => subst q82; rfl); by_cases q83 : a = 83; (next => subst q83; rfl); by_cases q84 : a = 84; (next => subst q84; rfl); by_cases q85 : a = 85; (next => subst q85; rfl); simp only [av_set, q77, q81, q82, q83, q84, q85, if_false]) | exact av_set_set _ _ _ _ | (funext a; unfold av_set; (repeat' split) <;> first | rfl | (exfalso; omega)) | (funext a; simp only [av_set, cpS]; (repeat' split) <;> first | rfl | (exfalso; omega))) ?_
    refine ev_lv (lv' := [(0, .ref 77), (1, .int (nI ((rd (σ 78) c (σ 81) (σ 82) c).1))), (2, .int (nI 0))]) [2, 1, 0] rfl ?_
    refine ev_st (σ' := sp0 σ c) (by unfold sp0; first | rw [if_pos h8] | rw [if_neg h8]) ?_
    have hle := rd_le (σ 78) c (σ 81) (σ 82) c
    refine sp_run (by omega) rfl rfl rfl ?_
    exact hQ

set_option maxRecDepth 100000 in
set_option maxHeartbeats 1000000 in
theorem c_X6_fewestKills {l : Launch} {σ : av_S} (c : Nat) (hcn : σ 78 0 = nI c) (hc1 : 1 ≤ c) (hc6 : c ≤ 6) : av_M l RX6 cX6_fewestKills 1 (some .int) 9 [.ref 77] σ (some (.int (spS σ c 77 11))) (spS σ c) := by
  intro Q hQ
  show av_Ev l RX6 cX6_fewestKills 1 (some .int) av_E0 9 0 [(0, .ref 77)] [] σ Q
  refine ev_aload_n dX6_fewestKills_0 rfl 0 rfl ?_
  refine ev_callVv (σ' := spS σ c) dX6_fewestKills_1 M_X6_192 Y_X6_searchPlans [] (c_X6_searchPlans c (by first | exact hcn | omega) (by first | exact hc1 | omega) (by first | exact hc6 | omega)) (by decide) (Nat.le_of_ble_eq_true rfl) (by decide) sh_77 rfl rfl rfl (Nat.le_of_ble_eq_true rfl) ?_
  refine ev_aload_n dX6_fewestKills_4 rfl 0 rfl ?_
  refine ev_getI dX6_fewestKills_5 C_X6 L_X6_180 (by decide) (by decide) sh_77 rfl ?_
  refine ev_top (v := ((spS σ c) 77) 11) (by first | rfl | (simp only [av_set, cpS]; (repeat' split) <;> first | rfl | (exfalso; omega))) ?_
  exact ev_ireturn dX6_fewestKills_8 rfl rfl (leafI hQ (by first | rfl | (simp []; done)) rfl)

set_option maxRecDepth 100000 in
set_option maxHeartbeats 1000000 in
theorem c_X6_bestFirstLink {l : Launch} {σ : av_S} (c : Nat) (hcn : σ 78 0 = nI c) (hc1 : 1 ≤ c) (hc6 : c ≤ 6) : av_M l RX6 cX6_bestFirstLink 1 (some .int) 9 [.ref 77] σ (some (.int (spS σ c 77 12))) (spS σ c) := by
  intro Q hQ
  show av_Ev l RX6 cX6_bestFirstLink 1 (some .int) av_E0 9 0 [(0, .ref 77)] [] σ Q
  refine ev_aload_n dX6_bestFirstLink_0 rfl 0 rfl ?_
  refine ev_callVv (σ' := spS σ c) dX6_bestFirstLink_1 M_X6_192 Y_X6_searchPlans [] (c_X6_searchPlans c (by first | exact hcn | omega) (by first | exact hc1 | omega) (by first | exact hc6 | omega)) (by decide) (Nat.le_of_ble_eq_true rfl) (by decide) sh_77 rfl rfl rfl (Nat.le_of_ble_eq_true rfl) ?_
  refine ev_aload_n dX6_bestFirstLink_4 rfl 0 rfl ?_
  refine ev_getI dX6_bestFirstLink_5 C_X6 L_X6_183 (by decide) (by decide) sh_77 rfl ?_
  refine ev_top (v := ((spS σ c) 77) 12) (by first | rfl | (simp only [av_set, cpS]; (repeat' split) <;> first | rfl | (exfalso; omega))) ?_
  exact ev_ireturn dX6_bestFirstLink_8 rfl rfl (leafI hQ (by first | rfl | (simp []; done)) rfl)

