/-! ===== the reference: contracts, fifth part ===== -/
set_option maxRecDepth 100000 in
set_option maxHeartbeats 1000000 in
theorem c_X6_readGroups {l : Launch} {σ : av_S} (c : Nat) (hcn : σ 78 0 = nI c) (hc1 : 1 ≤ c) (hc6 : c ≤ 6) : av_M l RX6 cX6_readGroups 4 (some .int) 4 [.ref 77] σ (some (.int (nI ((rd (σ 78) c (σ 81) (σ 82) c).1)))) (av_set (av_set σ 81 ((rd (σ 78) c (σ 81) (σ 82) c).2.2.1)) 82 ((rd (σ 78) c (σ 81) (σ 82) c).2.2.2)) := by
  intro Q hQ
  show av_Ev l RX6 cX6_readGroups 4 (some .int) av_E0 4 0 [(0, .ref 77)] [] σ Q
  refine ev_iconst dX6_readGroups_0 (v := nI 0) (by decide) ?_
  refine ev_istore_n (lv' := [(1, .int (nI 0)), (0, .ref 77)]) dX6_readGroups_1 rfl (by decide) rfl ?_
  refine ev_iconst dX6_readGroups_2 (v := nI 0) (by decide) ?_
  refine ev_istore_n (lv' := [(2, .int (nI 0)), (1, .int (nI 0)), (0, .ref 77)]) dX6_readGroups_3 rfl (by decide) rfl ?_
  refine ev_iconst dX6_readGroups_4 (v := nI 0) (by decide) ?_
  refine ev_istore_n (lv' := [(3, .int (nI 0)), (2, .int (nI 0)), (1, .int (nI 0)), (0, .ref 77)]) dX6_readGroups_5 rfl (by decide) rfl ?_
  refine ev_lv (lv' := [(0, .ref 77), (1, .int (nI 0)), (2, .int (nI 0)), (3, .int (nI 0))]) [3, 2, 1, 0] rfl ?_
  refine ev_st (σ' := av_set (av_set σ 81 ((rd (σ 78) c (σ 81) (σ 82) 0).2.2.1)) 82 ((rd (σ 78) c (σ 81) (σ 82) 0).2.2.2)) (by show σ = av_set (av_set σ 81 (σ 81)) 82 (σ 82); rw [av_set_self, av_set_self]) ?_
  refine loop_up (fun k => av_Ev l RX6 cX6_readGroups 4 (some .int) av_E0 4 6 [(0, .ref 77), (1, .int (nI ((rd (σ 78) c (σ 81) (σ 82) k).1))), (2, .int ((rd (σ 78) c (σ 81) (σ 82) k).2.1)), (3, .int (nI k))] [] (av_set (av_set σ 81 ((rd (σ 78) c (σ 81) (σ 82) k).2.2.1)) 82 ((rd (σ 78) c (σ 81) (σ 82) k).2.2.2)) Q) c ?_ ?_
  · show av_Ev l RX6 cX6_readGroups 4 (some .int) av_E0 4 6 [(0, .ref 77), (1, .int (nI ((rd (σ 78) c (σ 81) (σ 82) c).1))), (2, .int ((rd (σ 78) c (σ 81) (σ 82) c).2.1)), (3, .int (nI c))] [] (av_set (av_set σ 81 ((rd (σ 78) c (σ 81) (σ 82) c).2.2.1)) 82 ((rd (σ 78) c (σ 81) (σ 82) c).2.2.2)) Q
    refine ev_iload_n dX6_readGroups_6 rfl 3 rfl ?_
    refine ev_aload_n dX6_readGroups_7 rfl 0 rfl ?_
    refine ev_getR dX6_readGroups_8 C_X6 L_X6_7 (by decide) (by decide) sh_77 rfl ?_
    refine ev_iconst dX6_readGroups_11 (v := nI 0) (by decide) ?_
    refine ev_iald (e := 0) (v := σ 78 0) dX6_readGroups_12 (by decide) sh_78 (by omega) (by decide) (by first | rfl | (simp only [av_set, cpS]; (repeat' split) <;> first | rfl | (exfalso; omega))) ?_
    refine ev_top (v := nI c) hcn ?_
    refine ev_ncmp_ge (tgt := 58) dX6_readGroups_13 (by decide) (by omega) (by omega) (fun h13 => ?_) (fun h13 => ?_)
    · refine ev_iload_n dX6_readGroups_58 rfl 1 rfl ?_
      exact ev_ireturn dX6_readGroups_59 rfl rfl (leafI hQ rfl rfl)
    · exact absurd h13 (by omega)
  · intro k hk ihk
    show av_Ev l RX6 cX6_readGroups 4 (some .int) av_E0 4 6 [(0, .ref 77), (1, .int (nI ((rd (σ 78) c (σ 81) (σ 82) k).1))), (2, .int ((rd (σ 78) c (σ 81) (σ 82) k).2.1)), (3, .int (nI k))] [] (av_set (av_set σ 81 ((rd (σ 78) c (σ 81) (σ 82) k).2.2.1)) 82 ((rd (σ 78) c (σ 81) (σ 82) k).2.2.2)) Q
    have hle := rd_le (σ 78) c (σ 81) (σ 82) k
    refine ev_iload_n dX6_readGroups_6 rfl 3 rfl ?_
    refine ev_aload_n dX6_readGroups_7 rfl 0 rfl ?_
    refine ev_getR dX6_readGroups_8 C_X6 L_X6_7 (by decide) (by decide) sh_77 rfl ?_
    refine ev_iconst dX6_readGroups_11 (v := nI 0) (by decide) ?_
    refine ev_iald (e := 0) (v := σ 78 0) dX6_readGroups_12 (by decide) sh_78 (by omega) (by decide) (by first | rfl | (simp only [av_set, cpS]; (repeat' split) <;> first | rfl | (exfalso; omega))) ?_
    refine ev_top (v := nI c) hcn ?_
    refine ev_ncmp_ge (tgt := 58) dX6_readGroups_13 (by decide) (by omega) (by omega) (fun h13 => ?_) (fun h13 => ?_)
    · exact absurd h13 (by omega)
    · refine ev_iload_n dX6_readGroups_16 rfl 2 rfl ?_
      refine ev_iload_n dX6_readGroups_17 rfl 3 rfl ?_
      refine ev_callSi (x := b2i (tb ((rd (σ 78) c (σ 81) (σ 82) k).2.1) k)) dX6_readGroups_18 (Or.inl M_X6_50) Y_X6_has [.int ((rd (σ 78) c (σ 81) (σ 82) k).2.1), .int (nI k)] (c_X6_has ((rd (σ 78) c (σ 81) (σ 82) k).2.1) k (by omega)) (by decide) (Nat.le_of_ble_eq_true rfl) rfl rfl (Nat.le_of_ble_eq_true rfl) ?_
      refine ev_ifb_ne (tgt := 52) dX6_readGroups_21 (by decide) (fun h21 => ?_) (fun h21 => ?_)
      · refine ev_iinc (lv' := [(3, .int (nI (k + 1))), (0, .ref 77), (1, .int (nI ((rd (σ 78) c (σ 81) (σ 82) k).1))), (2, .int ((rd (σ 78) c (σ 81) (σ 82) k).2.1))]) dX6_readGroups_52 3 rfl (nI_inc k) (by decide) rfl ?_
        refine ev_goto (tgt := 6) dX6_readGroups_55 (by decide) ?_
        refine ev_lv (lv' := [(0, .ref 77), (1, .int (nI ((rd (σ 78) c (σ 81) (σ 82) k).1))), (2, .int ((rd (σ 78) c (σ 81) (σ 82) k).2.1)), (3, .int (nI (k + 1)))]) [1, 2, 3, 0] rfl ?_
        have ih9 : av_Ev l RX6 cX6_readGroups 4 (some .int) av_E0 4 6 [(0, .ref 77), (1, .int (nI ((rd (σ 78) c (σ 81) (σ 82) (k + 1)).1))), (2, .int ((rd (σ 78) c (σ 81) (σ 82) (k + 1)).2.1)), (3, .int (nI (k + 1)))] [] (av_set (av_set σ 81 ((rd (σ 78) c (σ 81) (σ 82) (k + 1)).2.2.1)) 82 ((rd (σ 78) c (σ 81) (σ 82) (k + 1)).2.2.2)) Q := ihk
        rw [show nI ((rd (σ 78) c (σ 81) (σ 82) (k + 1)).1) = nI ((rd (σ 78) c (σ 81) (σ 82) k).1) from (by show nI (rdF (σ 78) c k (rd (σ 78) c (σ 81) (σ 82) k)).1 = _; unfold rdF; rw [h21]; rfl)] at ih9
        rw [show (rd (σ 78) c (σ 81) (σ 82) (k + 1)).2.1 = (rd (σ 78) c (σ 81) (σ 82) k).2.1 from (by show (rdF (σ 78) c k (rd (σ 78) c (σ 81) (σ 82) k)).2.1 = _; unfold rdF; rw [h21]; rfl)] at ih9
        rw [show av_set (av_set σ 81 ((rd (σ 78) c (σ 81) (σ 82) (k + 1)).2.2.1)) 82 ((rd (σ 78) c (σ 81) (σ 82) (k + 1)).2.2.2) = av_set (av_set σ 81 ((rd (σ 78) c (σ 81) (σ 82) k).2.2.1)) 82 ((rd (σ 78) c (σ 81) (σ 82) k).2.2.2) from (by show av_set (av_set σ 81 (rdF (σ 78) c k (rd (σ 78) c (σ 81) (σ 82) k)).2.2.1) 82 (rdF (σ 78) c k (rd (σ 78) c (σ 81) (σ 82) k)).2.2.2 = _; unfold rdF; rw [h21]; rfl)] at ih9
        exact ih9
      · refine ev_iload_n dX6_readGroups_24 rfl 2 rfl ?_
        refine ev_aload_n dX6_readGroups_25 rfl 0 rfl ?_
        refine ev_iload_n dX6_readGroups_26 rfl 3 rfl ?_
        refine ev_callVi (x := mnet (σ 78) c k) dX6_readGroups_27 M_X6_54 Y_X6_network [.int (nI k)] (c_X6_network k c (by omega) (by first | exact hcn | omega) (by first | exact hc1 | omega) (by first | exact hc6 | omega)) (by decide) (Nat.le_of_ble_eq_true rfl) (by decide) sh_77 rfl rfl rfl (Nat.le_of_ble_eq_true rfl) ?_
        refine ev_ior dX6_readGroups_30 ?_
        refine ev_istore_n (lv' := [(2, .int (((rd (σ 78) c (σ 81) (σ 82) k).2.1) ||| (mnet (σ 78) c k))), (0, .ref 77), (1, .int (nI ((rd (σ 78) c (σ 81) (σ 82) k).1))), (3, .int (nI k))]) dX6_readGroups_31 rfl (by decide) rfl ?_
        refine ev_aload_n dX6_readGroups_32 rfl 1 rfl ?_
        refine ev_getR dX6_readGroups_33 C_X6 L_X6_22 (by decide) (by decide) sh_77 rfl ?_
        refine ev_iload_n dX6_readGroups_36 rfl 2 rfl ?_
        refine ev_iload_n dX6_readGroups_37 rfl 3 rfl ?_
        refine ev_iast (e := (rd (σ 78) c (σ 81) (σ 82) k).1) dX6_readGroups_38 (by decide) sh_82 (by omega) (by decide) ?_
        refine ev_st (σ' := av_set (av_set σ 81 ((rd (σ 78) c (σ 81) (σ 82) k).2.2.1)) 82 (upd ((rd (σ 78) c (σ 81) (σ 82) k).2.2.2) ((rd (σ 78) c (σ 81) (σ 82) k).1) (nI k))) (by first | rfl | (funext a; by_cases q81 : a = 81; (next => subst q81; rfl); by_cases q82 : a = 82; (next => subst q82; rfl); simp only [av_set, q81, q82, if_false]) | exact av_set_set _ _ _ _ | (funext a; unfold av_set; (repeat' split) <;> first | rfl | (exfalso; omega)) | (funext a; simp only [av_set, cpS]; (repeat' split) <;> first | rfl | (exfalso; omega))) ?_
        refine ev_aload_n dX6_readGroups_39 rfl 1 rfl ?_
        refine ev_iload_n dX6_readGroups_40 rfl 2 rfl ?_
        refine ev_aload_n dX6_readGroups_41 rfl 1 rfl ?_
        refine ev_iload_n dX6_readGroups_42 rfl 3 rfl ?_
        refine ev_callVi (x := mnet (σ 78) c k) dX6_readGroups_43 M_X6_54 Y_X6_network [.int (nI k)] (c_X6_network k c (by omega) (by first | exact hcn | omega) (by first | exact hc1 | omega) (by first | exact hc6 | omega)) (by decide) (Nat.le_of_ble_eq_true rfl) (by decide) sh_77 rfl rfl rfl (Nat.le_of_ble_eq_true rfl) ?_
        refine ev_callVv dX6_readGroups_46 M_X6_164 Y_X6_readGroup [.int (nI ((rd (σ 78) c (σ 81) (σ 82) k).1)), .int (mnet (σ 78) c k)] (c_X6_readGroup ((rd (σ 78) c (σ 81) (σ 82) k).1) (mnet (σ 78) c k) c (by omega) (by first | exact hcn | omega) (by first | exact hc1 | omega) (by first | exact hc6 | omega)) (by decide) (Nat.le_of_ble_eq_true rfl) (by decide) sh_77 rfl rfl rfl (Nat.le_of_ble_eq_true rfl) ?_
        refine ev_st (σ' := av_set (av_set σ 81 (rgp (σ 78) c ((rd (σ 78) c (σ 81) (σ 82) k).1) (mnet (σ 78) c k) ((rd (σ 78) c (σ 81) (σ 82) k).2.2.1))) 82 (upd ((rd (σ 78) c (σ 81) (σ 82) k).2.2.2) ((rd (σ 78) c (σ 81) (σ 82) k).1) (nI k))) (by first | rfl | (funext a; by_cases q81 : a = 81; (next => subst q81; rfl); by_cases q82 : a = 82; (next => subst q82; rfl); simp only [av_set, q81, q82, if_false]) | exact av_set_set _ _ _ _ | (funext a; unfold av_set; (repeat' split) <;> first | rfl | (exfalso; omega)) | (funext a; simp only [av_set, cpS]; (repeat' split) <;> first | rfl | (exfalso; omega))) ?_
        refine ev_iinc (lv' := [(1, .int (nI ((rd (σ 78) c (σ 81) (σ 82) k).1 + 1))), (2, .int (((rd (σ 78) c (σ 81) (σ 82) k).2.1) ||| (mnet (σ 78) c k))), (0, .ref 77), (3, .int (nI k))]) dX6_readGroups_49 2 rfl (nI_inc ((rd (σ 78) c (σ 81) (σ 82) k).1)) (by decide) rfl ?_
        refine ev_iinc (lv' := [(3, .int (nI (k + 1))), (1, .int (nI ((rd (σ 78) c (σ 81) (σ 82) k).1 + 1))), (2, .int (((rd (σ 78) c (σ 81) (σ 82) k).2.1) ||| (mnet (σ 78) c k))), (0, .ref 77)]) dX6_readGroups_52 3 rfl (nI_inc k) (by decide) rfl ?_
        refine ev_goto (tgt := 6) dX6_readGroups_55 (by decide) ?_
        refine ev_lv (lv' := [(0, .ref 77), (1, .int (nI ((rd (σ 78) c (σ 81) (σ 82) k).1 + 1))), (2, .int (((rd (σ 78) c (σ 81) (σ 82) k).2.1) ||| (mnet (σ 78) c k))), (3, .int (nI (k + 1)))]) [3, 1, 2, 0] rfl ?_
        have ih9 : av_Ev l RX6 cX6_readGroups 4 (some .int) av_E0 4 6 [(0, .ref 77), (1, .int (nI ((rd (σ 78) c (σ 81) (σ 82) (k + 1)).1))), (2, .int ((rd (σ 78) c (σ 81) (σ 82) (k + 1)).2.1)), (3, .int (nI (k + 1)))] [] (av_set (av_set σ 81 ((rd (σ 78) c (σ 81) (σ 82) (k + 1)).2.2.1)) 82 ((rd (σ 78) c (σ 81) (σ 82) (k + 1)).2.2.2)) Q := ihk
        rw [show nI ((rd (σ 78) c (σ 81) (σ 82) (k + 1)).1) = nI ((rd (σ 78) c (σ 81) (σ 82) k).1 + 1) from (by show nI (rdF (σ 78) c k (rd (σ 78) c (σ 81) (σ 82) k)).1 = _; unfold rdF; rw [h21]; rfl)] at ih9
        rw [show (rd (σ 78) c (σ 81) (σ 82) (k + 1)).2.1 = ((rd (σ 78) c (σ 81) (σ 82) k).2.1) ||| (mnet (σ 78) c k) from (by show (rdF (σ 78) c k (rd (σ 78) c (σ 81) (σ 82) k)).2.1 = _; unfold rdF; rw [h21]; rfl)] at ih9
        rw [show av_set (av_set σ 81 ((rd (σ 78) c (σ 81) (σ 82) (k + 1)).2.2.1)) 82 ((rd (σ 78) c (σ 81) (σ 82) (k + 1)).2.2.2) = av_set (av_set σ 81 (rgp (σ 78) c ((rd (σ 78) c (σ 81) (σ 82) k).1) (mnet (σ 78) c k) ((rd (σ 78) c (σ 81) (σ 82) k).2.2.1))) 82 (upd ((rd (σ 78) c (σ 81) (σ 82) k).2.2.2) ((rd (σ 78) c (σ 81) (σ 82) k).1) (nI k)) from (by show av_set (av_set σ 81 (rdF (σ 78) c k (rd (σ 78) c (σ 81) (σ 82) k)).2.2.1) 82 (rdF (σ 78) c k (rd (σ 78) c (σ 81) (σ 82) k)).2.2.2 = _; unfold rdF; rw [h21]; rfl)] at ih9
        exact ih9

set_option maxRecDepth 100000 in
set_option maxHeartbeats 1000000 in
theorem c_X6_nextPair {l : Launch} {σ : av_S} (v : Nat) (w : Nat) (p : Nat) (q : Nat) (hv : v < 6) (hw : w ≤ 6) (hp : σ 83 v = nI p) (hq : σ 84 v = nI q) (hp6 : p ≤ 6) (hq6 : q ≤ 6) : av_M l RX6 cX6_nextPair 3 (some .boolean) 0 [.ref 77, .int (nI v), .int (nI w)] σ (some (.int (b2i (decide (npQ p q w < w))))) (av_set (av_set σ 83 (upd (σ 83) v (nI (npP p q w)))) 84 (upd (σ 84) v (nI (npQ p q w)))) := by
  intro Q hQ
  show av_Ev l RX6 cX6_nextPair 3 (some .boolean) av_E0 0 0 [(0, .ref 77), (1, .int (nI v)), (2, .int (nI w))] [] σ Q
  refine ev_aload_n dX6_nextPair_0 rfl 0 rfl ?_
  refine ev_getR dX6_nextPair_1 C_X6 L_X6_28 (by decide) (by decide) sh_77 rfl ?_
  refine ev_iload_n dX6_nextPair_4 rfl 1 rfl ?_
  refine ev_dup2_ia dX6_nextPair_5 ?_
  refine ev_iald (e := v) (v := σ 84 v) dX6_nextPair_6 (by decide) sh_84 (by omega) (by decide) rfl ?_
  refine ev_top (v := nI q) hq ?_
  refine ev_iconst dX6_nextPair_7 (v := nI 1) (by decide) ?_
  refine ev_iadd dX6_nextPair_8 ?_
  refine ev_top (v := nI (q + 1)) (nI_add _ _) ?_
  refine ev_iast (e := v) dX6_nextPair_9 (by decide) sh_84 (by omega) (by decide) ?_
  refine ev_aload_n dX6_nextPair_10 rfl 0 rfl ?_
  refine ev_getR dX6_nextPair_11 C_X6 L_X6_28 (by decide) (by decide) sh_77 rfl ?_
  refine ev_iload_n dX6_nextPair_14 rfl 1 rfl ?_
  refine ev_iald (e := v) (v := (upd (σ 84) v (nI (q + 1))) v) dX6_nextPair_15 (by decide) sh_84 (by omega) (by decide) (by first | rfl | (simp only [av_set, cpS]; (repeat' split) <;> first | rfl | (exfalso; omega))) ?_
  refine ev_top (v := nI (q + 1)) upd_eq ?_
  refine ev_iload_n dX6_nextPair_16 rfl 2 rfl ?_
  refine ev_ncmp_ne (tgt := 44) dX6_nextPair_17 (by decide) (by omega) (by omega) (fun h17 => ?_) (fun h17 => ?_)
  · refine ev_aload_n dX6_nextPair_44 rfl 0 rfl ?_
    refine ev_getR dX6_nextPair_45 C_X6 L_X6_28 (by decide) (by decide) sh_77 rfl ?_
    refine ev_iload_n dX6_nextPair_48 rfl 1 rfl ?_
    refine ev_iald (e := v) (v := (upd (σ 84) v (nI (q + 1))) v) dX6_nextPair_49 (by decide) sh_84 (by omega) (by decide) (by first | rfl | (simp only [av_set, cpS]; (repeat' split) <;> first | rfl | (exfalso; omega))) ?_
    refine ev_top (v := nI (q + 1)) upd_eq ?_
    refine ev_iload_n dX6_nextPair_50 rfl 2 rfl ?_
    refine ev_ncmp_ge (tgt := 58) dX6_nextPair_51 (by decide) (by omega) (by omega) (fun h51 => ?_) (fun h51 => ?_)
    · refine ev_iconst dX6_nextPair_58 (v := nI 0) (by decide) ?_
      exact ev_ireturn dX6_nextPair_59 rfl (by decide) (leafI hQ (by first | (rw [show npQ p q w = p + 1 + 1 from if_pos h17]; first | (rw [decide_eq_true (by omega)]; rfl) | (rw [decide_eq_false (by omega)]; rfl)) | (rw [show npQ p q w = q + 1 from if_neg h17]; first | (rw [decide_eq_true (by omega)]; rfl) | (rw [decide_eq_false (by omega)]; rfl))) (by first | (rw [show npQ p q w = p + 1 + 1 from if_pos h17, show npP p q w = p + 1 from if_pos h17, upd_upd]) | (rw [show npQ p q w = q + 1 from if_neg h17, show npP p q w = p from if_neg h17, upd_self hp, av_set_self])))
    · refine ev_iconst dX6_nextPair_54 (v := nI 1) (by decide) ?_
      refine ev_goto (tgt := 59) dX6_nextPair_55 (by decide) ?_
      exact ev_ireturn dX6_nextPair_59 rfl (by decide) (leafI hQ (by first | (rw [show npQ p q w = p + 1 + 1 from if_pos h17]; first | (rw [decide_eq_true (by omega)]; rfl) | (rw [decide_eq_false (by omega)]; rfl)) | (rw [show npQ p q w = q + 1 from if_neg h17]; first | (rw [decide_eq_true (by omega)]; rfl) | (rw [decide_eq_false (by omega)]; rfl))) (by first | (rw [show npQ p q w = p + 1 + 1 from if_pos h17, show npP p q w = p + 1 from if_pos h17, upd_upd]) | (rw [show npQ p q w = q + 1 from if_neg h17, show npP p q w = p from if_neg h17, upd_self hp, av_set_self])))
  · refine ev_aload_n dX6_nextPair_20 rfl 0 rfl ?_
    refine ev_getR dX6_nextPair_21 C_X6 L_X6_25 (by decide) (by decide) sh_77 rfl ?_
    refine ev_iload_n dX6_nextPair_24 rfl 1 rfl ?_
    refine ev_dup2_ia dX6_nextPair_25 ?_
    refine ev_iald (e := v) (v := σ 83 v) dX6_nextPair_26 (by decide) sh_83 (by omega) (by decide) (by first | rfl | (simp only [av_set, cpS]; (repeat' split) <;> first | rfl | (exfalso; omega))) ?_
    refine ev_top (v := nI p) hp ?_
    refine ev_iconst dX6_nextPair_27 (v := nI 1) (by decide) ?_
    refine ev_iadd dX6_nextPair_28 ?_
    refine ev_top (v := nI (p + 1)) (nI_add _ _) ?_
    refine ev_iast (e := v) dX6_nextPair_29 (by decide) sh_83 (by omega) (by decide) ?_
    refine ev_st (σ' := av_set (av_set σ 83 (upd (σ 83) v (nI (p + 1)))) 84 (upd (σ 84) v (nI (q + 1)))) (by first | rfl | (funext a; by_cases q83 : a = 83; (next => subst q83; rfl); by_cases q84 : a = 84; (next => subst q84; rfl); simp only [av_set, q83, q84, if_false]) | exact av_set_set _ _ _ _ | (funext a; unfold av_set; (repeat' split) <;> first | rfl | (exfalso; omega)) | (funext a; simp only [av_set, cpS]; (repeat' split) <;> first | rfl | (exfalso; omega))) ?_
    refine ev_aload_n dX6_nextPair_30 rfl 0 rfl ?_
    refine ev_getR dX6_nextPair_31 C_X6 L_X6_28 (by decide) (by decide) sh_77 rfl ?_
    refine ev_iload_n dX6_nextPair_34 rfl 1 rfl ?_
    refine ev_aload_n dX6_nextPair_35 rfl 0 rfl ?_
    refine ev_getR dX6_nextPair_36 C_X6 L_X6_25 (by decide) (by decide) sh_77 rfl ?_
    refine ev_iload_n dX6_nextPair_39 rfl 1 rfl ?_
    refine ev_iald (e := v) (v := (upd (σ 83) v (nI (p + 1))) v) dX6_nextPair_40 (by decide) sh_83 (by omega) (by decide) (by first | rfl | (simp only [av_set, cpS]; (repeat' split) <;> first | rfl | (exfalso; omega))) ?_
    refine ev_top (v := nI (p + 1)) upd_eq ?_
    refine ev_iconst dX6_nextPair_41 (v := nI 1) (by decide) ?_
    refine ev_iadd dX6_nextPair_42 ?_
    refine ev_top (v := nI (p + 1 + 1)) (nI_add _ _) ?_
    refine ev_iast (e := v) dX6_nextPair_43 (by decide) sh_84 (by omega) (by decide) ?_
    refine ev_st (σ' := av_set (av_set σ 83 (upd (σ 83) v (nI (p + 1)))) 84 (upd (upd (σ 84) v (nI (q + 1))) v (nI (p + 1 + 1)))) (by first | rfl | (funext a; by_cases q83 : a = 83; (next => subst q83; rfl); by_cases q84 : a = 84; (next => subst q84; rfl); simp only [av_set, q83, q84, if_false]) | exact av_set_set _ _ _ _ | (funext a; unfold av_set; (repeat' split) <;> first | rfl | (exfalso; omega)) | (funext a; simp only [av_set, cpS]; (repeat' split) <;> first | rfl | (exfalso; omega))) ?_
    refine ev_aload_n dX6_nextPair_44 rfl 0 rfl ?_
    refine ev_getR dX6_nextPair_45 C_X6 L_X6_28 (by decide) (by decide) sh_77 rfl ?_
    refine ev_iload_n dX6_nextPair_48 rfl 1 rfl ?_
    refine ev_iald (e := v) (v := (upd (upd (σ 84) v (nI (q + 1))) v (nI (p + 1 + 1))) v) dX6_nextPair_49 (by decide) sh_84 (by omega) (by decide) (by first | rfl | (simp only [av_set, cpS]; (repeat' split) <;> first | rfl | (exfalso; omega))) ?_
    refine ev_top (v := nI (p + 1 + 1)) upd_eq ?_
    refine ev_iload_n dX6_nextPair_50 rfl 2 rfl ?_
    refine ev_ncmp_ge (tgt := 58) dX6_nextPair_51 (by decide) (by omega) (by omega) (fun h51 => ?_) (fun h51 => ?_)
    · refine ev_iconst dX6_nextPair_58 (v := nI 0) (by decide) ?_
      exact ev_ireturn dX6_nextPair_59 rfl (by decide) (leafI hQ (by first | (rw [show npQ p q w = p + 1 + 1 from if_pos h17]; first | (rw [decide_eq_true (by omega)]; rfl) | (rw [decide_eq_false (by omega)]; rfl)) | (rw [show npQ p q w = q + 1 from if_neg h17]; first | (rw [decide_eq_true (by omega)]; rfl) | (rw [decide_eq_false (by omega)]; rfl))) (by first | (rw [show npQ p q w = p + 1 + 1 from if_pos h17, show npP p q w = p + 1 from if_pos h17, upd_upd]) | (rw [show npQ p q w = q + 1 from if_neg h17, show npP p q w = p from if_neg h17, upd_self hp, av_set_self])))
    · refine ev_iconst dX6_nextPair_54 (v := nI 1) (by decide) ?_
      refine ev_goto (tgt := 59) dX6_nextPair_55 (by decide) ?_
      exact ev_ireturn dX6_nextPair_59 rfl (by decide) (leafI hQ (by first | (rw [show npQ p q w = p + 1 + 1 from if_pos h17]; first | (rw [decide_eq_true (by omega)]; rfl) | (rw [decide_eq_false (by omega)]; rfl)) | (rw [show npQ p q w = q + 1 from if_neg h17]; first | (rw [decide_eq_true (by omega)]; rfl) | (rw [decide_eq_false (by omega)]; rfl))) (by first | (rw [show npQ p q w = p + 1 + 1 from if_pos h17, show npP p q w = p + 1 from if_pos h17, upd_upd]) | (rw [show npQ p q w = q + 1 from if_neg h17, show npP p q w = p from if_neg h17, upd_self hp, av_set_self])))

set_option maxRecDepth 100000 in
set_option maxHeartbeats 1000000 in
theorem c_X6_descend {l : Launch} {σ : av_S} (v : Nat) (w : Nat) (p : Nat) (q : Nat) (K : Nat) (hv : v < 5) (hw : w ≤ 6) (hw1 : 1 ≤ w) (hp : σ 83 v = nI p) (hq : σ 84 v = nI q) (hK : σ 85 v = nI K) (hp6 : p < 6) (hq6 : q < 6) : av_M l RX6 cX6_descend 4 none 2 [.ref 77, .int (nI v), .int (nI w)] σ none (av_set (av_set (av_set (av_set σ 81 (dcA (σ 81) v p q w)) 83 (upd (σ 83) (v + 1) (nI 0))) 84 (upd (σ 84) (v + 1) (nI 0))) 85 (upd (σ 85) (v + 1) (nI (K + dcK (σ 81) v p q)))) := by
  intro Q hQ
  show av_Ev l RX6 cX6_descend 4 none av_E0 2 0 [(0, .ref 77), (1, .int (nI v)), (2, .int (nI w))] [] σ Q
  refine ev_iconst dX6_descend_0 (v := nI 0) (by decide) ?_
  refine ev_istore_n (lv' := [(3, .int (nI 0)), (0, .ref 77), (1, .int (nI v)), (2, .int (nI w))]) dX6_descend_1 rfl (by decide) rfl ?_
  refine ev_lv (lv' := [(0, .ref 77), (1, .int (nI v)), (2, .int (nI w)), (3, .int (nI 0))]) [1, 2, 3, 0] rfl ?_
  refine ev_st (σ' := av_set σ 81 (fo 0 (fun k G => upd G (60 * v + 60 + k) (G (60 * v + k))) (σ 81))) (by simp only [fo_0] <;> first | rfl | (funext a; unfold av_set; (repeat' split) <;> first | rfl | (subst_vars; rfl) | (exfalso; omega))) ?_
  refine loop_up (fun k => av_Ev l RX6 cX6_descend 4 none av_E0 2 2 [(0, .ref 77), (1, .int (nI v)), (2, .int (nI w)), (3, .int (nI k))] [] (av_set σ 81 (fo k (fun k G => upd G (60 * v + 60 + k) (G (60 * v + k))) (σ 81))) Q) 60 ?_ ?_
  · show av_Ev l RX6 cX6_descend 4 none av_E0 2 2 [(0, .ref 77), (1, .int (nI v)), (2, .int (nI w)), (3, .int (nI 60))] [] (av_set σ 81 (fo 60 (fun k G => upd G (60 * v + 60 + k) (G (60 * v + k))) (σ 81))) Q
    refine ev_iload_n dX6_descend_2 rfl 3 rfl ?_
    refine ev_bipush dX6_descend_3 (v := nI 60) (by decide) ?_
    refine ev_ncmp_ge (tgt := 39) dX6_descend_5 (by decide) (by omega) (by omega) (fun h5 => ?_) (fun h5 => ?_)
    · refine ev_aload_n dX6_descend_39 rfl 0 rfl ?_
      refine ev_getR dX6_descend_40 C_X6 L_X6_31 (by decide) (by decide) sh_77 rfl ?_
      refine ev_iload_n dX6_descend_43 rfl 1 rfl ?_
      refine ev_iconst dX6_descend_44 (v := nI 1) (by decide) ?_
      refine ev_iadd dX6_descend_45 ?_
      refine ev_top (v := nI (v + 1)) (nI_add _ _) ?_
      refine ev_aload_n dX6_descend_46 rfl 0 rfl ?_
      refine ev_getR dX6_descend_47 C_X6 L_X6_31 (by decide) (by decide) sh_77 rfl ?_
      refine ev_iload_n dX6_descend_50 rfl 1 rfl ?_
      refine ev_iald (e := v) (v := σ 85 v) dX6_descend_51 (by decide) sh_85 (by omega) (by decide) (by first | rfl | (simp only [av_set, cpS]; (repeat' split) <;> first | rfl | (exfalso; omega))) ?_
      refine ev_top (v := nI K) hK ?_
      refine ev_aload_n dX6_descend_52 rfl 0 rfl ?_
      refine ev_iload_n dX6_descend_53 rfl 1 rfl ?_
      refine ev_iconst dX6_descend_54 (v := nI 1) (by decide) ?_
      refine ev_iadd dX6_descend_55 ?_
      refine ev_top (v := nI (v + 1)) (nI_add _ _) ?_
      refine ev_aload_n dX6_descend_56 rfl 0 rfl ?_
      refine ev_getR dX6_descend_57 C_X6 L_X6_25 (by decide) (by decide) sh_77 rfl ?_
      refine ev_iload_n dX6_descend_60 rfl 1 rfl ?_
      refine ev_iald (e := v) (v := σ 83 v) dX6_descend_61 (by decide) sh_83 (by omega) (by decide) (by first | rfl | (simp only [av_set, cpS]; (repeat' split) <;> first | rfl | (exfalso; omega))) ?_
      refine ev_top (v := nI p) hp ?_
      refine ev_aload_n dX6_descend_62 rfl 0 rfl ?_
      refine ev_getR dX6_descend_63 C_X6 L_X6_28 (by decide) (by decide) sh_77 rfl ?_
      refine ev_iload_n dX6_descend_66 rfl 1 rfl ?_
      refine ev_iald (e := v) (v := σ 84 v) dX6_descend_67 (by decide) sh_84 (by omega) (by decide) (by first | rfl | (simp only [av_set, cpS]; (repeat' split) <;> first | rfl | (exfalso; omega))) ?_
      refine ev_top (v := nI q) hq ?_
      refine ev_callVi (x := nI ((mgg (fo 60 (fun k G => upd G (60 * v + 60 + k) (G (60 * v + k))) (σ 81)) (v + 1) p q 10).1)) dX6_descend_68 M_X6_167 Y_X6_mergeGroups [.int (nI (v + 1)), .int (nI p), .int (nI q)] (c_X6_mergeGroups (v + 1) p q (by omega) (by omega) (by omega)) (by decide) (Nat.le_of_ble_eq_true rfl) (by decide) sh_77 rfl rfl rfl (Nat.le_of_ble_eq_true rfl) ?_
      refine ev_st (σ' := av_set σ 81 ((mgg (fo 60 (fun k G => upd G (60 * v + 60 + k) (G (60 * v + k))) (σ 81)) (v + 1) p q 10).2)) (by first | rfl | (funext a; by_cases q81 : a = 81; (next => subst q81; rfl); simp only [av_set, q81, if_false]) | exact av_set_set _ _ _ _ | (funext a; unfold av_set; (repeat' split) <;> first | rfl | (exfalso; omega)) | (funext a; simp only [av_set, cpS]; (repeat' split) <;> first | rfl | (exfalso; omega))) ?_
      refine ev_iadd dX6_descend_71 ?_
      refine ev_top (v := nI (K + ((mgg (fo 60 (fun k G => upd G (60 * v + 60 + k) (G (60 * v + k))) (σ 81)) (v + 1) p q 10).1))) (nI_add _ _) ?_
      refine ev_iast (e := v + 1) dX6_descend_72 (by decide) sh_85 (by omega) (by decide) ?_
      refine ev_st (σ' := av_set (av_set σ 81 ((mgg (fo 60 (fun k G => upd G (60 * v + 60 + k) (G (60 * v + k))) (σ 81)) (v + 1) p q 10).2)) 85 (upd (σ 85) (v + 1) (nI (K + ((mgg (fo 60 (fun k G => upd G (60 * v + 60 + k) (G (60 * v + k))) (σ 81)) (v + 1) p q 10).1))))) (by first | rfl | (funext a; by_cases q81 : a = 81; (next => subst q81; rfl); by_cases q85 : a = 85; (next => subst q85; rfl); simp only [av_set, q81, q85, if_false]) | exact av_set_set _ _ _ _ | (funext a; unfold av_set; (repeat' split) <;> first | rfl | (exfalso; omega)) | (funext a; simp only [av_set, cpS]; (repeat' split) <;> first | rfl | (exfalso; omega))) ?_
      refine ev_iconst dX6_descend_73 (v := nI 0) (by decide) ?_
      refine ev_istore_n (lv' := [(3, .int (nI 0)), (0, .ref 77), (1, .int (nI v)), (2, .int (nI w))]) dX6_descend_74 rfl (by decide) rfl ?_
      refine ev_lv (lv' := [(0, .ref 77), (1, .int (nI v)), (2, .int (nI w)), (3, .int (nI 0))]) [1, 2, 3, 0] rfl ?_
      refine ev_st (σ' := av_set (av_set σ 81 (fo 0 (fun n G => upd G (60 * (v + 1) + 10 * q + n) (G (60 * (v + 1) + 10 * (w - 1) + n))) (mgg (dcG (σ 81) v) (v + 1) p q 10).2)) 85 (upd (σ 85) (v + 1) (nI (K + ((mgg (fo 60 (fun k G => upd G (60 * v + 60 + k) (G (60 * v + k))) (σ 81)) (v + 1) p q 10).1))))) rfl ?_
      refine loop_up (fun n => av_Ev l RX6 cX6_descend 4 none av_E0 2 75 [(0, .ref 77), (1, .int (nI v)), (2, .int (nI w)), (3, .int (nI n))] [] (av_set (av_set σ 81 (fo n (fun n G => upd G (60 * (v + 1) + 10 * q + n) (G (60 * (v + 1) + 10 * (w - 1) + n))) (mgg (dcG (σ 81) v) (v + 1) p q 10).2)) 85 (upd (σ 85) (v + 1) (nI (K + ((mgg (fo 60 (fun k G => upd G (60 * v + 60 + k) (G (60 * v + k))) (σ 81)) (v + 1) p q 10).1))))) Q) 10 ?_ ?_
      · show av_Ev l RX6 cX6_descend 4 none av_E0 2 75 [(0, .ref 77), (1, .int (nI v)), (2, .int (nI w)), (3, .int (nI 10))] [] (av_set (av_set σ 81 (fo 10 (fun n G => upd G (60 * (v + 1) + 10 * q + n) (G (60 * (v + 1) + 10 * (w - 1) + n))) (mgg (dcG (σ 81) v) (v + 1) p q 10).2)) 85 (upd (σ 85) (v + 1) (nI (K + ((mgg (fo 60 (fun k G => upd G (60 * v + 60 + k) (G (60 * v + k))) (σ 81)) (v + 1) p q 10).1))))) Q
        refine ev_iload_n dX6_descend_75 rfl 3 rfl ?_
        refine ev_bipush dX6_descend_76 (v := nI 10) (by decide) ?_
        refine ev_ncmp_ge (tgt := 122) dX6_descend_78 (by decide) (by omega) (by omega) (fun h78 => ?_) (fun h78 => ?_)
        · refine ev_aload_n dX6_descend_122 rfl 0 rfl ?_
          refine ev_getR dX6_descend_123 C_X6 L_X6_25 (by decide) (by decide) sh_77 rfl ?_
          refine ev_iload_n dX6_descend_126 rfl 1 rfl ?_
          refine ev_iconst dX6_descend_127 (v := nI 1) (by decide) ?_
          refine ev_iadd dX6_descend_128 ?_
          refine ev_top (v := nI (v + 1)) (nI_add _ _) ?_
          refine ev_iconst dX6_descend_129 (v := nI 0) (by decide) ?_
          refine ev_iast (e := v + 1) dX6_descend_130 (by decide) sh_83 (by omega) (by decide) ?_
          refine ev_st (σ' := av_set (av_set (av_set σ 81 (fo 10 (fun n G => upd G (60 * (v + 1) + 10 * q + n) (G (60 * (v + 1) + 10 * (w - 1) + n))) (mgg (dcG (σ 81) v) (v + 1) p q 10).2)) 83 (upd (σ 83) (v + 1) (nI 0))) 85 (upd (σ 85) (v + 1) (nI (K + ((mgg (fo 60 (fun k G => upd G (60 * v + 60 + k) (G (60 * v + k))) (σ 81)) (v + 1) p q 10).1))))) (by first | rfl | (funext a; by_cases q81 : a = 81; (next => subst q81; rfl); by_cases q83 : a = 83; (next => subst q83; rfl); by_cases q85 : a = 85; (next => subst q85; rfl); simp only [av_set, q81, q83, q85, if_false]) | exact av_set_set _ _ _ _ | (funext a; unfold av_set; (repeat' split) <;> first | rfl | (exfalso; omega)) | (funext a; simp only [av_set, cpS]; (repeat' split) <;> first | rfl | (exfalso; omega))) ?_
          refine ev_aload_n dX6_descend_131 rfl 0 rfl ?_
          refine ev_getR dX6_descend_132 C_X6 L_X6_28 (by decide) (by decide) sh_77 rfl ?_
          refine ev_iload_n dX6_descend_135 rfl 1 rfl ?_
          refine ev_iconst dX6_descend_136 (v := nI 1) (by decide) ?_
          refine ev_iadd dX6_descend_137 ?_
          refine ev_top (v := nI (v + 1)) (nI_add _ _) ?_
          refine ev_iconst dX6_descend_138 (v := nI 0) (by decide) ?_
          refine ev_iast (e := v + 1) dX6_descend_139 (by decide) sh_84 (by omega) (by decide) ?_
          refine ev_st (σ' := av_set (av_set (av_set (av_set σ 81 (fo 10 (fun n G => upd G (60 * (v + 1) + 10 * q + n) (G (60 * (v + 1) + 10 * (w - 1) + n))) (mgg (dcG (σ 81) v) (v + 1) p q 10).2)) 83 (upd (σ 83) (v + 1) (nI 0))) 84 (upd (σ 84) (v + 1) (nI 0))) 85 (upd (σ 85) (v + 1) (nI (K + ((mgg (fo 60 (fun k G => upd G (60 * v + 60 + k) (G (60 * v + k))) (σ 81)) (v + 1) p q 10).1))))) (by first | rfl | (funext a; by_cases q81 : a = 81; (next => subst q81; rfl); by_cases q83 : a = 83; (next => subst q83; rfl); by_cases q84 : a = 84; (next => subst q84; rfl); by_cases q85 : a = 85; (next => subst q85; rfl); simp only [av_set, q81, q83, q84, q85, if_false]) | exact av_set_set _ _ _ _ | (funext a; unfold av_set; (repeat' split) <;> first | rfl | (exfalso; omega)) | (funext a; simp only [av_set, cpS]; (repeat' split) <;> first | rfl | (exfalso; omega))) ?_
          exact ev_return dX6_descend_140 rfl (leafV hQ rfl)
        · exact absurd h78 (by omega)
      · intro n hn ihn
        show av_Ev l RX6 cX6_descend 4 none av_E0 2 75 [(0, .ref 77), (1, .int (nI v)), (2, .int (nI w)), (3, .int (nI n))] [] (av_set (av_set σ 81 (fo n (fun n G => upd G (60 * (v + 1) + 10 * q + n) (G (60 * (v + 1) + 10 * (w - 1) + n))) (mgg (dcG (σ 81) v) (v + 1) p q 10).2)) 85 (upd (σ 85) (v + 1) (nI (K + ((mgg (fo 60 (fun k G => upd G (60 * v + 60 + k) (G (60 * v + k))) (σ 81)) (v + 1) p q 10).1))))) Q
        refine ev_iload_n dX6_descend_75 rfl 3 rfl ?_
        refine ev_bipush dX6_descend_76 (v := nI 10) (by decide) ?_
        refine ev_ncmp_ge (tgt := 122) dX6_descend_78 (by decide) (by omega) (by omega) (fun h78 => ?_) (fun h78 => ?_)
        · exact absurd h78 (by omega)
        · refine ev_aload_n dX6_descend_81 rfl 0 rfl ?_
          refine ev_getR dX6_descend_82 C_X6 L_X6_19 (by decide) (by decide) sh_77 rfl ?_
          refine ev_iload_n dX6_descend_85 rfl 1 rfl ?_
          refine ev_iconst dX6_descend_86 (v := nI 1) (by decide) ?_
          refine ev_iadd dX6_descend_87 ?_
          refine ev_top (v := nI (v + 1)) (nI_add _ _) ?_
          refine ev_aload_n dX6_descend_88 rfl 0 rfl ?_
          refine ev_getR dX6_descend_89 C_X6 L_X6_28 (by decide) (by decide) sh_77 rfl ?_
          refine ev_iload_n dX6_descend_92 rfl 1 rfl ?_
          refine ev_iald (e := v) (v := σ 84 v) dX6_descend_93 (by decide) sh_84 (by omega) (by decide) (by first | rfl | (simp only [av_set, cpS]; (repeat' split) <;> first | rfl | (exfalso; omega))) ?_
          refine ev_top (v := nI q) hq ?_
          refine ev_callSi (x := nI (60 * (v + 1) + 10 * q)) dX6_descend_94 (Or.inl M_X6_173) Y_X6_groupCell [.int (nI (v + 1)), .int (nI q)] (c_X6_groupCell (v + 1) q ) (by decide) (Nat.le_of_ble_eq_true rfl) rfl rfl (Nat.le_of_ble_eq_true rfl) ?_
          refine ev_iload_n dX6_descend_97 rfl 3 rfl ?_
          refine ev_iadd dX6_descend_98 ?_
          refine ev_top (v := nI (60 * (v + 1) + 10 * q + n)) (nI_add _ _) ?_
          refine ev_aload_n dX6_descend_99 rfl 0 rfl ?_
          refine ev_getR dX6_descend_100 C_X6 L_X6_19 (by decide) (by decide) sh_77 rfl ?_
          refine ev_iload_n dX6_descend_103 rfl 1 rfl ?_
          refine ev_iconst dX6_descend_104 (v := nI 1) (by decide) ?_
          refine ev_iadd dX6_descend_105 ?_
          refine ev_top (v := nI (v + 1)) (nI_add _ _) ?_
          refine ev_iload_n dX6_descend_106 rfl 2 rfl ?_
          refine ev_iconst dX6_descend_107 (v := nI 1) (by decide) ?_
          refine ev_isub dX6_descend_108 ?_
          refine ev_top (v := nI (w - 1)) (pk_sub (by omega)) ?_
          refine ev_callSi (x := nI (60 * (v + 1) + 10 * (w - 1))) dX6_descend_109 (Or.inl M_X6_173) Y_X6_groupCell [.int (nI (v + 1)), .int (nI (w - 1))] (c_X6_groupCell (v + 1) (w - 1) ) (by decide) (Nat.le_of_ble_eq_true rfl) rfl rfl (Nat.le_of_ble_eq_true rfl) ?_
          refine ev_iload_n dX6_descend_112 rfl 3 rfl ?_
          refine ev_iadd dX6_descend_113 ?_
          refine ev_top (v := nI (60 * (v + 1) + 10 * (w - 1) + n)) (nI_add _ _) ?_
          refine ev_iald (e := 60 * (v + 1) + 10 * (w - 1) + n) (v := (fo n (fun n G => upd G (60 * (v + 1) + 10 * q + n) (G (60 * (v + 1) + 10 * (w - 1) + n))) (mgg (dcG (σ 81) v) (v + 1) p q 10).2) (60 * (v + 1) + 10 * (w - 1) + n)) dX6_descend_114 (by decide) sh_81 (by omega) (by decide) (by first | rfl | (simp only [av_set, cpS]; (repeat' split) <;> first | rfl | (exfalso; omega))) ?_
          refine ev_iast (e := 60 * (v + 1) + 10 * q + n) dX6_descend_115 (by decide) sh_81 (by omega) (by decide) ?_
          refine ev_st (σ' := av_set (av_set σ 81 (upd (fo n (fun n G => upd G (60 * (v + 1) + 10 * q + n) (G (60 * (v + 1) + 10 * (w - 1) + n))) (mgg (dcG (σ 81) v) (v + 1) p q 10).2) (60 * (v + 1) + 10 * q + n) ((fo n (fun n G => upd G (60 * (v + 1) + 10 * q + n) (G (60 * (v + 1) + 10 * (w - 1) + n))) (mgg (dcG (σ 81) v) (v + 1) p q 10).2) (60 * (v + 1) + 10 * (w - 1) + n)))) 85 (upd (σ 85) (v + 1) (nI (K + ((mgg (fo 60 (fun k G => upd G (60 * v + 60 + k) (G (60 * v + k))) (σ 81)) (v + 1) p q 10).1))))) (by first | rfl | (funext a; by_cases q81 : a = 81; (next => subst q81; rfl); by_cases q85 : a = 85; (next => subst q85; rfl); simp only [av_set, q81, q85, if_false]) | exact av_set_set _ _ _ _ | (funext a; unfold av_set; (repeat' split) <;> first | rfl | (exfalso; omega)) | (funext a; simp only [av_set, cpS]; (repeat' split) <;> first | rfl | (exfalso; omega))) ?_
          refine ev_iinc (lv' := [(3, .int (nI (n + 1))), (0, .ref 77), (1, .int (nI v)), (2, .int (nI w))]) dX6_descend_116 3 rfl (nI_inc n) (by decide) rfl ?_
          refine ev_goto (tgt := 75) dX6_descend_119 (by decide) ?_
          refine ev_lv (lv' := [(0, .ref 77), (1, .int (nI v)), (2, .int (nI w)), (3, .int (nI (n + 1)))]) [1, 2, 3, 0] rfl ?_
          have ih9 : av_Ev l RX6 cX6_descend 4 none av_E0 2 75 [(0, .ref 77), (1, .int (nI v)), (2, .int (nI w)), (3, .int (nI (n + 1)))] [] (av_set (av_set σ 81 (fo (n + 1) (fun n G => upd G (60 * (v + 1) + 10 * q + n) (G (60 * (v + 1) + 10 * (w - 1) + n))) (mgg (dcG (σ 81) v) (v + 1) p q 10).2)) 85 (upd (σ 85) (v + 1) (nI (K + ((mgg (fo 60 (fun k G => upd G (60 * v + 60 + k) (G (60 * v + k))) (σ 81)) (v + 1) p q 10).1))))) Q := ihn
          rw [show av_set (av_set σ 81 (fo (n + 1) (fun n G => upd G (60 * (v + 1) + 10 * q + n) (G (60 * (v + 1) + 10 * (w - 1) + n))) (mgg (dcG (σ 81) v) (v + 1) p q 10).2)) 85 (upd (σ 85) (v + 1) (nI (K + ((mgg (fo 60 (fun k G => upd G (60 * v + 60 + k) (G (60 * v + k))) (σ 81)) (v + 1) p q 10).1)))) = av_set (av_set σ 81 (upd (fo n (fun n G => upd G (60 * (v + 1) + 10 * q + n) (G (60 * (v + 1) + 10 * (w - 1) + n))) (mgg (dcG (σ 81) v) (v + 1) p q 10).2) (60 * (v + 1) + 10 * q + n) ((fo n (fun n G => upd G (60 * (v + 1) + 10 * q + n) (G (60 * (v + 1) + 10 * (w - 1) + n))) (mgg (dcG (σ 81) v) (v + 1) p q 10).2) (60 * (v + 1) + 10 * (w - 1) + n)))) 85 (upd (σ 85) (v + 1) (nI (K + ((mgg (fo 60 (fun k G => upd G (60 * v + 60 + k) (G (60 * v + k))) (σ 81)) (v + 1) p q 10).1)))) from rfl] at ih9
          exact ih9
    · exact absurd h5 (by omega)
  · intro k hk ihk
    show av_Ev l RX6 cX6_descend 4 none av_E0 2 2 [(0, .ref 77), (1, .int (nI v)), (2, .int (nI w)), (3, .int (nI k))] [] (av_set σ 81 (fo k (fun k G => upd G (60 * v + 60 + k) (G (60 * v + k))) (σ 81))) Q
    refine ev_iload_n dX6_descend_2 rfl 3 rfl ?_
    refine ev_bipush dX6_descend_3 (v := nI 60) (by decide) ?_
    refine ev_ncmp_ge (tgt := 39) dX6_descend_5 (by decide) (by omega) (by omega) (fun h5 => ?_) (fun h5 => ?_)
    · exact absurd h5 (by omega)
    · refine ev_aload_n dX6_descend_8 rfl 0 rfl ?_
      refine ev_getR dX6_descend_9 C_X6 L_X6_19 (by decide) (by decide) sh_77 rfl ?_
      refine ev_bipush dX6_descend_12 (v := nI 60) (by decide) ?_
      refine ev_iload_n dX6_descend_14 rfl 1 rfl ?_
      refine ev_imul dX6_descend_15 ?_
      refine ev_top (v := nI (60 * v)) (pk_mul _ _) ?_
      refine ev_bipush dX6_descend_16 (v := nI 60) (by decide) ?_
      refine ev_iadd dX6_descend_18 ?_
      refine ev_top (v := nI (60 * v + 60)) (nI_add _ _) ?_
      refine ev_iload_n dX6_descend_19 rfl 3 rfl ?_
      refine ev_iadd dX6_descend_20 ?_
      refine ev_top (v := nI (60 * v + 60 + k)) (nI_add _ _) ?_
      refine ev_aload_n dX6_descend_21 rfl 0 rfl ?_
      refine ev_getR dX6_descend_22 C_X6 L_X6_19 (by decide) (by decide) sh_77 rfl ?_
      refine ev_bipush dX6_descend_25 (v := nI 60) (by decide) ?_
      refine ev_iload_n dX6_descend_27 rfl 1 rfl ?_
      refine ev_imul dX6_descend_28 ?_
      refine ev_top (v := nI (60 * v)) (pk_mul _ _) ?_
      refine ev_iload_n dX6_descend_29 rfl 3 rfl ?_
      refine ev_iadd dX6_descend_30 ?_
      refine ev_top (v := nI (60 * v + k)) (nI_add _ _) ?_
      refine ev_iald (e := 60 * v + k) (v := (fo k (fun k G => upd G (60 * v + 60 + k) (G (60 * v + k))) (σ 81)) (60 * v + k)) dX6_descend_31 (by decide) sh_81 (by omega) (by decide) (by first | rfl | (simp only [av_set, cpS]; (repeat' split) <;> first | rfl | (exfalso; omega))) ?_
      refine ev_iast (e := 60 * v + 60 + k) dX6_descend_32 (by decide) sh_81 (by omega) (by decide) ?_
      refine ev_st (σ' := av_set σ 81 (upd (fo k (fun k G => upd G (60 * v + 60 + k) (G (60 * v + k))) (σ 81)) (60 * v + 60 + k) ((fo k (fun k G => upd G (60 * v + 60 + k) (G (60 * v + k))) (σ 81)) (60 * v + k)))) (by first | rfl | (funext a; by_cases q81 : a = 81; (next => subst q81; rfl); simp only [av_set, q81, if_false]) | exact av_set_set _ _ _ _ | (funext a; unfold av_set; (repeat' split) <;> first | rfl | (exfalso; omega)) | (funext a; simp only [av_set, cpS]; (repeat' split) <;> first | rfl | (exfalso; omega))) ?_
      refine ev_iinc (lv' := [(3, .int (nI (k + 1))), (0, .ref 77), (1, .int (nI v)), (2, .int (nI w))]) dX6_descend_33 3 rfl (nI_inc k) (by decide) rfl ?_
      refine ev_goto (tgt := 2) dX6_descend_36 (by decide) ?_
      refine ev_lv (lv' := [(0, .ref 77), (1, .int (nI v)), (2, .int (nI w)), (3, .int (nI (k + 1)))]) [1, 2, 3, 0] rfl ?_
      have ih9 : av_Ev l RX6 cX6_descend 4 none av_E0 2 2 [(0, .ref 77), (1, .int (nI v)), (2, .int (nI w)), (3, .int (nI (k + 1)))] [] (av_set σ 81 (fo (k + 1) (fun k G => upd G (60 * v + 60 + k) (G (60 * v + k))) (σ 81))) Q := ihk
      rw [show av_set σ 81 (fo (k + 1) (fun k G => upd G (60 * v + 60 + k) (G (60 * v + k))) (σ 81)) = av_set σ 81 (upd (fo k (fun k G => upd G (60 * v + 60 + k) (G (60 * v + k))) (σ 81)) (60 * v + 60 + k) ((fo k (fun k G => upd G (60 * v + 60 + k) (G (60 * v + k))) (σ 81)) (60 * v + k))) from rfl] at ih9
      exact ih9

set_option maxRecDepth 100000 in
set_option maxHeartbeats 1000000 in
theorem sp_up {l : Launch} {σ : av_S} {Q : Option Value → av_S → Prop} (W v w p q : Nat) (hW : W ≤ 6) (hw : v + w = W) (hw2 : 2 ≤ w) (hp : σ 83 v = nI p) (hq : σ 84 v = nI q) (hp6 : p ≤ 5) (hq6 : q ≤ 5) (hx : ¬ npQ p q w < w) (hv1 : 1 ≤ v) (kk : av_Ev l RX6 cX6_searchPlans 4 none av_E0 8 50 [(0, .ref 77), (1, .int (nI W)), (2, .int (nI (v - 1)))] [] (nps σ v p q w) Q) : av_Ev l RX6 cX6_searchPlans 4 none av_E0 8 50 [(0, .ref 77), (1, .int (nI W)), (2, .int (nI v))] [] σ Q := by
  show av_Ev l RX6 cX6_searchPlans 4 none av_E0 8 50 [(0, .ref 77), (1, .int (nI W)), (2, .int (nI v))] [] σ Q
  refine ev_iload_n dX6_searchPlans_50 rfl 2 rfl ?_
  refine ev_nif_lt (tgt := 173) dX6_searchPlans_51 (by decide) (by omega) ?_
  refine ev_iload_n dX6_searchPlans_54 rfl 1 rfl ?_
  refine ev_iconst dX6_searchPlans_55 (v := nI 1) (by decide) ?_
  refine ev_ncmp_le (tgt := 173) dX6_searchPlans_56 (by decide) (by omega) (by omega) (fun h56 => ?_) (fun h56 => ?_)
  · exact absurd h56 (by omega)
  · refine ev_aload_n dX6_searchPlans_59 rfl 0 rfl ?_
    refine ev_iload_n dX6_searchPlans_60 rfl 2 rfl ?_
    refine ev_iload_n dX6_searchPlans_61 rfl 1 rfl ?_
    refine ev_iload_n dX6_searchPlans_62 rfl 2 rfl ?_
    refine ev_isub dX6_searchPlans_63 ?_
    refine ev_top (v := nI (W - v)) (pk_sub (by omega)) ?_
    refine ev_callVi (x := b2i (decide (npQ p q (W - v) < (W - v)))) (σ' := av_set (av_set σ 83 (upd (σ 83) v (nI (npP p q (W - v))))) 84 (upd (σ 84) v (nI (npQ p q (W - v))))) dX6_searchPlans_64 M_X6_186 Y_X6_nextPair [.int (nI v), .int (nI (W - v))] (c_X6_nextPair v (W - v) p q (by omega) (by omega) hp hq (by omega) (by omega)) (by decide) (Nat.le_of_ble_eq_true rfl) (by decide) sh_77 rfl rfl rfl (Nat.le_of_ble_eq_true rfl) ?_
    refine ev_ifb_ne (tgt := 76) dX6_searchPlans_67 (by decide) (fun h67 => ?_) (fun h67 => ?_)
    · exact absurd (of_decide_eq_true h67) (by rw [show W - v = w by omega]; exact hx)
    · refine ev_iinc (lv' := [(2, .int (nI (v - 1))), (0, .ref 77), (1, .int (nI W))]) dX6_searchPlans_70 2 rfl (nI_dec (by omega)) (by decide) rfl ?_
      refine ev_goto (tgt := 50) dX6_searchPlans_73 (by decide) ?_
      refine ev_lv (lv' := [(0, .ref 77), (1, .int (nI W)), (2, .int (nI (v - 1)))]) [1, 2, 0] rfl ?_
      rw [show W - v = w by omega]
      exact kk

set_option maxRecDepth 100000 in
set_option maxHeartbeats 1000000 in
theorem sp_end {l : Launch} {σ : av_S} {Q : Option Value → av_S → Prop} (W w p q : Nat) (hW : W ≤ 6) (hw : w = W) (hw2 : 2 ≤ w) (hp : σ 83 0 = nI p) (hq : σ 84 0 = nI q) (hp6 : p ≤ 5) (hq6 : q ≤ 5) (hx : ¬ npQ p q w < w) (kk : av_Ev l RX6 cX6_searchPlans 4 none av_E0 8 50 [(0, .ref 77), (1, .int (nI W)), (2, .int (-1))] [] (nps σ 0 p q w) Q) : av_Ev l RX6 cX6_searchPlans 4 none av_E0 8 50 [(0, .ref 77), (1, .int (nI W)), (2, .int (nI 0))] [] σ Q := by
  show av_Ev l RX6 cX6_searchPlans 4 none av_E0 8 50 [(0, .ref 77), (1, .int (nI W)), (2, .int (nI 0))] [] σ Q
  refine ev_iload_n dX6_searchPlans_50 rfl 2 rfl ?_
  refine ev_nif_lt (tgt := 173) dX6_searchPlans_51 (by decide) (by omega) ?_
  refine ev_iload_n dX6_searchPlans_54 rfl 1 rfl ?_
  refine ev_iconst dX6_searchPlans_55 (v := nI 1) (by decide) ?_
  refine ev_ncmp_le (tgt := 173) dX6_searchPlans_56 (by decide) (by omega) (by omega) (fun h56 => ?_) (fun h56 => ?_)
  · exact absurd h56 (by omega)
  · refine ev_aload_n dX6_searchPlans_59 rfl 0 rfl ?_
    refine ev_iload_n dX6_searchPlans_60 rfl 2 rfl ?_
    refine ev_iload_n dX6_searchPlans_61 rfl 1 rfl ?_
    refine ev_iload_n dX6_searchPlans_62 rfl 2 rfl ?_
    refine ev_isub dX6_searchPlans_63 ?_
    refine ev_top (v := nI (W - 0)) (pk_sub (by omega)) ?_
    refine ev_callVi (x := b2i (decide (npQ p q (W - 0) < (W - 0)))) (σ' := av_set (av_set σ 83 (upd (σ 83) 0 (nI (npP p q (W - 0))))) 84 (upd (σ 84) 0 (nI (npQ p q (W - 0))))) dX6_searchPlans_64 M_X6_186 Y_X6_nextPair [.int (nI 0), .int (nI (W - 0))] (c_X6_nextPair 0 (W - 0) p q (by omega) (by omega) hp hq (by omega) (by omega)) (by decide) (Nat.le_of_ble_eq_true rfl) (by decide) sh_77 rfl rfl rfl (Nat.le_of_ble_eq_true rfl) ?_
    refine ev_ifb_ne (tgt := 76) dX6_searchPlans_67 (by decide) (fun h67 => ?_) (fun h67 => ?_)
    · exact absurd (of_decide_eq_true h67) (by rw [show W - 0 = w by omega]; exact hx)
    · refine ev_iinc (lv' := [(2, .int (-1)), (0, .ref 77), (1, .int (nI W))]) dX6_searchPlans_70 2 rfl (by decide) (by decide) rfl ?_
      refine ev_goto (tgt := 50) dX6_searchPlans_73 (by decide) ?_
      refine ev_lv (lv' := [(0, .ref 77), (1, .int (nI W)), (2, .int (-1))]) [1, 2, 0] rfl ?_
      rw [show W - 0 = w by omega]
      exact kk

set_option maxRecDepth 100000 in
set_option maxHeartbeats 1000000 in
theorem sp_down {l : Launch} {σ : av_S} {Q : Option Value → av_S → Prop} (W v w p q K : Nat) (hW : W ≤ 6) (hw : v + w = W) (hw2 : 2 ≤ w) (hp : σ 83 v = nI p) (hq : σ 84 v = nI q) (hp6 : p ≤ 5) (hq6 : q ≤ 5) (hK : σ 85 v = nI K) (hK9 : K ≤ 1000) (hx : npQ p q w < w) (hpw : npP p q w < 6) (hw3 : 2 < w) (kk : av_Ev l RX6 cX6_searchPlans 4 none av_E0 8 50 [(0, .ref 77), (1, .int (nI W)), (2, .int (nI (v + 1)))] [] (dsc (nps σ v p q w) v (npP p q w) (npQ p q w) w K) Q) : av_Ev l RX6 cX6_searchPlans 4 none av_E0 8 50 [(0, .ref 77), (1, .int (nI W)), (2, .int (nI v))] [] σ Q := by
  show av_Ev l RX6 cX6_searchPlans 4 none av_E0 8 50 [(0, .ref 77), (1, .int (nI W)), (2, .int (nI v))] [] σ Q
  refine ev_iload_n dX6_searchPlans_50 rfl 2 rfl ?_
  refine ev_nif_lt (tgt := 173) dX6_searchPlans_51 (by decide) (by omega) ?_
  refine ev_iload_n dX6_searchPlans_54 rfl 1 rfl ?_
  refine ev_iconst dX6_searchPlans_55 (v := nI 1) (by decide) ?_
  refine ev_ncmp_le (tgt := 173) dX6_searchPlans_56 (by decide) (by omega) (by omega) (fun h56 => ?_) (fun h56 => ?_)
  · exact absurd h56 (by omega)
  · refine ev_aload_n dX6_searchPlans_59 rfl 0 rfl ?_
    refine ev_iload_n dX6_searchPlans_60 rfl 2 rfl ?_
    refine ev_iload_n dX6_searchPlans_61 rfl 1 rfl ?_
    refine ev_iload_n dX6_searchPlans_62 rfl 2 rfl ?_
    refine ev_isub dX6_searchPlans_63 ?_
    refine ev_top (v := nI (W - v)) (pk_sub (by omega)) ?_
    refine ev_callVi (x := b2i (decide (npQ p q (W - v) < (W - v)))) (σ' := av_set (av_set σ 83 (upd (σ 83) v (nI (npP p q (W - v))))) 84 (upd (σ 84) v (nI (npQ p q (W - v))))) dX6_searchPlans_64 M_X6_186 Y_X6_nextPair [.int (nI v), .int (nI (W - v))] (c_X6_nextPair v (W - v) p q (by omega) (by omega) hp hq (by omega) (by omega)) (by decide) (Nat.le_of_ble_eq_true rfl) (by decide) sh_77 rfl rfl rfl (Nat.le_of_ble_eq_true rfl) ?_
    refine ev_ifb_ne (tgt := 76) dX6_searchPlans_67 (by decide) (fun h67 => ?_) (fun h67 => ?_)
    · refine ev_aload_n dX6_searchPlans_76 rfl 0 rfl ?_
      refine ev_iload_n dX6_searchPlans_77 rfl 2 rfl ?_
      refine ev_iload_n dX6_searchPlans_78 rfl 1 rfl ?_
      refine ev_iload_n dX6_searchPlans_79 rfl 2 rfl ?_
      refine ev_isub dX6_searchPlans_80 ?_
      refine ev_top (v := nI (W - v)) (pk_sub (by omega)) ?_
      refine ev_callVv dX6_searchPlans_81 M_X6_189 Y_X6_descend [.int (nI v), .int (nI (W - v))] (c_X6_descend v (W - v) (npP p q (W - v)) (npQ p q (W - v)) K (by omega) (by omega) (by omega) (show upd (σ 83) v (nI (npP p q (W - v))) v = _ from upd_eq) (show upd (σ 84) v (nI (npQ p q (W - v))) v = _ from upd_eq) hK (by rw [show W - v = w by omega]; omega) (by rw [show W - v = w by omega]; omega)) (by decide) (Nat.le_of_ble_eq_true rfl) (by decide) sh_77 rfl rfl rfl (Nat.le_of_ble_eq_true rfl) ?_
      refine ev_st (σ' := av_set (av_set (av_set (av_set σ 81 (dcA (σ 81) v (npP p q (W - v)) (npQ p q (W - v)) (W - v))) 83 (upd (upd (σ 83) v (nI (npP p q (W - v)))) (v + 1) (nI 0))) 84 (upd (upd (σ 84) v (nI (npQ p q (W - v)))) (v + 1) (nI 0))) 85 (upd (σ 85) (v + 1) (nI (K + dcK (σ 81) v (npP p q (W - v)) (npQ p q (W - v)))))) (by first | rfl | (funext a; by_cases q81 : a = 81; (next => subst q81; rfl); by_cases q83 : a = 83; (next => subst q83; rfl); by_cases q84 : a = 84; (next => subst q84; rfl); by_cases q85 : a = 85; (next => subst q85; rfl); simp only [av_set, q81, q83, q84, q85, if_false]) | exact av_set_set _ _ _ _ | (funext a; unfold av_set; (repeat' split) <;> first | rfl | (exfalso; omega)) | (funext a; simp only [av_set, cpS]; (repeat' split) <;> first | rfl | (exfalso; omega))) ?_
      refine ev_iload_n dX6_searchPlans_84 rfl 1 rfl ?_
      refine ev_iload_n dX6_searchPlans_85 rfl 2 rfl ?_
      refine ev_isub dX6_searchPlans_86 ?_
      refine ev_top (v := nI (W - v)) (pk_sub (by omega)) ?_
      refine ev_iconst dX6_searchPlans_87 (v := nI 2) (by decide) ?_
      refine ev_ncmp_ne (tgt := 95) dX6_searchPlans_88 (by decide) (by omega) (by omega) (fun h88 => ?_) (fun h88 => ?_)
      · refine ev_iconst dX6_searchPlans_95 (v := nI 0) (by decide) ?_
        refine ev_istore_n (lv' := [(3, .int (nI 0)), (0, .ref 77), (1, .int (nI W)), (2, .int (nI v))]) dX6_searchPlans_96 rfl (by decide) rfl ?_
        refine ev_iload_n dX6_searchPlans_97 rfl 0 rfl ?_
        refine ev_nif_eq (tgt := 158) dX6_searchPlans_98 (by decide) (by omega) (fun h98 => ?_) (fun h98 => ?_)
        · refine ev_iload_n dX6_searchPlans_158 rfl 3 rfl ?_
          refine ev_iload_n dX6_searchPlans_159 rfl 0 rfl ?_
          refine ev_nif_eq (tgt := 167) dX6_searchPlans_160 (by decide) (by omega) (fun h160 => ?_) (fun h160 => ?_)
          · refine ev_iconst dX6_searchPlans_167 (v := nI 1) (by decide) ?_
            refine ev_iadd dX6_searchPlans_168 ?_
            refine ev_top (v := nI (v + 1)) (nI_add _ _) ?_
            refine ev_istore_n (lv' := [(2, .int (nI (v + 1))), (3, .int (nI 0)), (0, .ref 77), (1, .int (nI W))]) dX6_searchPlans_169 rfl (by decide) rfl ?_
            refine ev_goto (tgt := 50) dX6_searchPlans_170 (by decide) ?_
            refine ev_lv (lv' := [(0, .ref 77), (1, .int (nI W)), (2, .int (nI (v + 1)))]) [2, 3, 0] rfl ?_
            refine ev_st (σ' := dsc (nps σ v p q (W - v)) v (npP p q (W - v)) (npQ p q (W - v)) (W - v) K) (by funext a; by_cases q81 : a = 81; (next => subst q81; rfl); by_cases q83 : a = 83; (next => subst q83; rfl); by_cases q84 : a = 84; (next => subst q84; rfl); by_cases q85 : a = 85; (next => subst q85; rfl); simp only [dsc, nps, av_set, q81, q83, q84, q85, if_false]) ?_
            rw [show W - v = w by omega]
            exact kk
          · exact absurd h160 (by omega)
        · exact absurd h98 (by omega)
      · exact absurd h88 (by omega)
    · exact absurd h67 (by rw [show W - v = w by omega, decide_eq_true hx]; decide)

set_option maxRecDepth 100000 in
set_option maxHeartbeats 1000000 in
theorem sp_leaf {l : Launch} {σ : av_S} {Q : Option Value → av_S → Prop} (W v w p q K P Z : Nat) (hW : W ≤ 6) (hw : v + w = W) (hw2 : 2 ≤ w) (hp : σ 83 v = nI p) (hq : σ 84 v = nI q) (hp6 : p ≤ 5) (hq6 : q ≤ 5) (hK : σ 85 v = nI K) (hK9 : K ≤ 1000) (hx : npQ p q w < w) (hpw : npP p q w < 6) (hw3 : w = 2) (hP : (upd (upd (σ 83) v (nI (npP p q (w)))) (v + 1) (nI 0)) 0 = nI P) (hZ : (upd (upd (σ 84) v (nI (npQ p q (w)))) (v + 1) (nI 0)) 0 = nI Z) (hP6 : P < 6) (hZ6 : Z < 6) (kk : av_Ev l RX6 cX6_searchPlans 4 none av_E0 8 50 [(0, .ref 77), (1, .int (nI W)), (2, .int (nI (v + 0)))] [] (upb (dsc (nps σ v p q w) v (npP p q w) (npQ p q w) w K) (K + dcK (σ 81) v (npP p q w) (npQ p q w)) P Z) Q) : av_Ev l RX6 cX6_searchPlans 4 none av_E0 8 50 [(0, .ref 77), (1, .int (nI W)), (2, .int (nI v))] [] σ Q := by
  show av_Ev l RX6 cX6_searchPlans 4 none av_E0 8 50 [(0, .ref 77), (1, .int (nI W)), (2, .int (nI v))] [] σ Q
  refine ev_iload_n dX6_searchPlans_50 rfl 2 rfl ?_
  refine ev_nif_lt (tgt := 173) dX6_searchPlans_51 (by decide) (by omega) ?_
  refine ev_iload_n dX6_searchPlans_54 rfl 1 rfl ?_
  refine ev_iconst dX6_searchPlans_55 (v := nI 1) (by decide) ?_
  refine ev_ncmp_le (tgt := 173) dX6_searchPlans_56 (by decide) (by omega) (by omega) (fun h56 => ?_) (fun h56 => ?_)
  · exact absurd h56 (by omega)
  · refine ev_aload_n dX6_searchPlans_59 rfl 0 rfl ?_
    refine ev_iload_n dX6_searchPlans_60 rfl 2 rfl ?_
    refine ev_iload_n dX6_searchPlans_61 rfl 1 rfl ?_
    refine ev_iload_n dX6_searchPlans_62 rfl 2 rfl ?_
    refine ev_isub dX6_searchPlans_63 ?_
    refine ev_top (v := nI (W - v)) (pk_sub (by omega)) ?_
    refine ev_callVi (x := b2i (decide (npQ p q (W - v) < (W - v)))) (σ' := av_set (av_set σ 83 (upd (σ 83) v (nI (npP p q (W - v))))) 84 (upd (σ 84) v (nI (npQ p q (W - v))))) dX6_searchPlans_64 M_X6_186 Y_X6_nextPair [.int (nI v), .int (nI (W - v))] (c_X6_nextPair v (W - v) p q (by omega) (by omega) hp hq (by omega) (by omega)) (by decide) (Nat.le_of_ble_eq_true rfl) (by decide) sh_77 rfl rfl rfl (Nat.le_of_ble_eq_true rfl) ?_
    refine ev_ifb_ne (tgt := 76) dX6_searchPlans_67 (by decide) (fun h67 => ?_) (fun h67 => ?_)
    · refine ev_aload_n dX6_searchPlans_76 rfl 0 rfl ?_
      refine ev_iload_n dX6_searchPlans_77 rfl 2 rfl ?_
      refine ev_iload_n dX6_searchPlans_78 rfl 1 rfl ?_
      refine ev_iload_n dX6_searchPlans_79 rfl 2 rfl ?_
      refine ev_isub dX6_searchPlans_80 ?_
      refine ev_top (v := nI (W - v)) (pk_sub (by omega)) ?_
      refine ev_callVv dX6_searchPlans_81 M_X6_189 Y_X6_descend [.int (nI v), .int (nI (W - v))] (c_X6_descend v (W - v) (npP p q (W - v)) (npQ p q (W - v)) K (by omega) (by omega) (by omega) (show upd (σ 83) v (nI (npP p q (W - v))) v = _ from upd_eq) (show upd (σ 84) v (nI (npQ p q (W - v))) v = _ from upd_eq) hK (by rw [show W - v = w by omega]; omega) (by rw [show W - v = w by omega]; omega)) (by decide) (Nat.le_of_ble_eq_true rfl) (by decide) sh_77 rfl rfl rfl (Nat.le_of_ble_eq_true rfl) ?_
      refine ev_st (σ' := av_set (av_set (av_set (av_set σ 81 (dcA (σ 81) v (npP p q (W - v)) (npQ p q (W - v)) (W - v))) 83 (upd (upd (σ 83) v (nI (npP p q (W - v)))) (v + 1) (nI 0))) 84 (upd (upd (σ 84) v (nI (npQ p q (W - v)))) (v + 1) (nI 0))) 85 (upd (σ 85) (v + 1) (nI (K + dcK (σ 81) v (npP p q (W - v)) (npQ p q (W - v)))))) (by first | rfl | (funext a; by_cases q81 : a = 81; (next => subst q81; rfl); by_cases q83 : a = 83; (next => subst q83; rfl); by_cases q84 : a = 84; (next => subst q84; rfl); by_cases q85 : a = 85; (next => subst q85; rfl); simp only [av_set, q81, q83, q84, q85, if_false]) | exact av_set_set _ _ _ _ | (funext a; unfold av_set; (repeat' split) <;> first | rfl | (exfalso; omega)) | (funext a; simp only [av_set, cpS]; (repeat' split) <;> first | rfl | (exfalso; omega))) ?_
      refine ev_iload_n dX6_searchPlans_84 rfl 1 rfl ?_
      refine ev_iload_n dX6_searchPlans_85 rfl 2 rfl ?_
      refine ev_isub dX6_searchPlans_86 ?_
      refine ev_top (v := nI (W - v)) (pk_sub (by omega)) ?_
      refine ev_iconst dX6_searchPlans_87 (v := nI 2) (by decide) ?_
      refine ev_ncmp_ne (tgt := 95) dX6_searchPlans_88 (by decide) (by omega) (by omega) (fun h88 => ?_) (fun h88 => ?_)
      · exact absurd h88 (by omega)
      · refine ev_iconst dX6_searchPlans_91 (v := nI 1) (by decide) ?_
        refine ev_goto (tgt := 96) dX6_searchPlans_92 (by decide) ?_
        refine ev_istore_n (lv' := [(3, .int (nI 1)), (0, .ref 77), (1, .int (nI W)), (2, .int (nI v))]) dX6_searchPlans_96 rfl (by decide) rfl ?_
        refine ev_iload_n dX6_searchPlans_97 rfl 0 rfl ?_
        refine ev_nif_eq (tgt := 158) dX6_searchPlans_98 (by decide) (by omega) (fun h98 => ?_) (fun h98 => ?_)
        · exact absurd h98 (by omega)
        · refine ev_aload_n dX6_searchPlans_101 rfl 1 rfl ?_
          refine ev_getR dX6_searchPlans_102 C_X6 L_X6_31 (by decide) (by decide) sh_77 rfl ?_
          refine ev_iload_n dX6_searchPlans_105 rfl 3 rfl ?_
          refine ev_iconst dX6_searchPlans_106 (v := nI 1) (by decide) ?_
          refine ev_iadd dX6_searchPlans_107 ?_
          refine ev_top (v := nI (v + 1)) (nI_add _ _) ?_
          refine ev_iald (e := v + 1) (v := (upd (σ 85) (v + 1) (nI (K + dcK (σ 81) v (npP p q (W - v)) (npQ p q (W - v))))) (v + 1)) dX6_searchPlans_108 (by decide) sh_85 (by omega) (by decide) (by first | rfl | (simp only [av_set, cpS]; (repeat' split) <;> first | rfl | (exfalso; omega))) ?_
          refine ev_top (v := nI (K + dcK (σ 81) v (npP p q (W - v)) (npQ p q (W - v)))) upd_eq ?_
          refine ev_aload_n dX6_searchPlans_109 rfl 1 rfl ?_
          refine ev_getI dX6_searchPlans_110 C_X6 L_X6_180 (by decide) (by decide) sh_77 rfl ?_
          refine ev_top (v := σ 77 11) (by first | rfl | (simp only [av_set, cpS]; (repeat' split) <;> first | rfl | (exfalso; omega))) ?_
          refine ev_icmp_ge (tgt := 158) dX6_searchPlans_113 (by decide) (fun h113 => ?_) (fun h113 => ?_)
          · refine ev_iload_n dX6_searchPlans_158 rfl 3 rfl ?_
            refine ev_iload_n dX6_searchPlans_159 rfl 0 rfl ?_
            refine ev_nif_eq (tgt := 167) dX6_searchPlans_160 (by decide) (by omega) (fun h160 => ?_) (fun h160 => ?_)
            · exact absurd h160 (by omega)
            · refine ev_iconst dX6_searchPlans_163 (v := nI 0) (by decide) ?_
              refine ev_goto (tgt := 168) dX6_searchPlans_164 (by decide) ?_
              refine ev_iadd dX6_searchPlans_168 ?_
              refine ev_top (v := nI (v + 0)) (nI_add _ _) ?_
              refine ev_istore_n (lv' := [(2, .int (nI (v + 0))), (3, .int (nI 1)), (0, .ref 77), (1, .int (nI W))]) dX6_searchPlans_169 rfl (by decide) rfl ?_
              refine ev_goto (tgt := 50) dX6_searchPlans_170 (by decide) ?_
              refine ev_lv (lv' := [(0, .ref 77), (1, .int (nI W)), (2, .int (nI (v + 0)))]) [2, 3, 0] rfl ?_
              refine ev_st (σ' := upb (dsc (nps σ v p q (W - v)) v (npP p q (W - v)) (npQ p q (W - v)) (W - v) K) (K + dcK (σ 81) v (npP p q (W - v)) (npQ p q (W - v))) P Z) (by first | exact (show _ = (dsc (nps σ v p q (W - v)) v (npP p q (W - v)) (npQ p q (W - v)) (W - v) K) from (by funext a; by_cases q81 : a = 81; (next => subst q81; rfl); by_cases q83 : a = 83; (next => subst q83; rfl); by_cases q84 : a = 84; (next => subst q84; rfl); by_cases q85 : a = 85; (next => subst q85; rfl); simp only [dsc, nps, av_set, q81, q83, q84, q85, if_false])).trans (upb_t (s := (dsc (nps σ v p q (W - v)) v (npP p q (W - v)) (npQ p q (W - v)) (W - v) K)) h113).symm | exact Eq.trans (by funext a; by_cases q77 : a = 77; (next => subst q77; rfl); by_cases q81 : a = 81; (next => subst q81; rfl); by_cases q83 : a = 83; (next => subst q83; rfl); by_cases q84 : a = 84; (next => subst q84; rfl); by_cases q85 : a = 85; (next => subst q85; rfl); simp only [dsc, nps, av_set, q77, q81, q83, q84, q85, if_false]) (upb_f (s := (dsc (nps σ v p q (W - v)) v (npP p q (W - v)) (npQ p q (W - v)) (W - v) K)) h113).symm) ?_
              rw [show W - v = w by omega]
              exact kk
          · refine ev_aload_n dX6_searchPlans_116 rfl 1 rfl ?_
            refine ev_aload_n dX6_searchPlans_117 rfl 1 rfl ?_
            refine ev_getR dX6_searchPlans_118 C_X6 L_X6_31 (by decide) (by decide) sh_77 rfl ?_
            refine ev_iload_n dX6_searchPlans_121 rfl 3 rfl ?_
            refine ev_iconst dX6_searchPlans_122 (v := nI 1) (by decide) ?_
            refine ev_iadd dX6_searchPlans_123 ?_
            refine ev_top (v := nI (v + 1)) (nI_add _ _) ?_
            refine ev_iald (e := v + 1) (v := (upd (σ 85) (v + 1) (nI (K + dcK (σ 81) v (npP p q (W - v)) (npQ p q (W - v))))) (v + 1)) dX6_searchPlans_124 (by decide) sh_85 (by omega) (by decide) (by first | rfl | (simp only [av_set, cpS]; (repeat' split) <;> first | rfl | (exfalso; omega))) ?_
            refine ev_top (v := nI (K + dcK (σ 81) v (npP p q (W - v)) (npQ p q (W - v)))) upd_eq ?_
            refine ev_putI dX6_searchPlans_125 C_X6 L_X6_180 (by decide) (by decide) sh_77 rfl rfl rfl ?_
            refine ev_st (σ' := av_set (av_set (av_set (av_set (av_set σ 77 (upd (σ 77) 11 (nI (K + dcK (σ 81) v (npP p q (W - v)) (npQ p q (W - v)))))) 81 (dcA (σ 81) v (npP p q (W - v)) (npQ p q (W - v)) (W - v))) 83 (upd (upd (σ 83) v (nI (npP p q (W - v)))) (v + 1) (nI 0))) 84 (upd (upd (σ 84) v (nI (npQ p q (W - v)))) (v + 1) (nI 0))) 85 (upd (σ 85) (v + 1) (nI (K + dcK (σ 81) v (npP p q (W - v)) (npQ p q (W - v)))))) (by first | rfl | (funext a; by_cases q77 : a = 77; (next => subst q77; rfl); by_cases q81 : a = 81; (next => subst q81; rfl); by_cases q83 : a = 83; (next => subst q83; rfl); by_cases q84 : a = 84; (next => subst q84; rfl); by_cases q85 : a = 85; (next => subst q85; rfl); simp only [av_set, q77, q81, q83, q84, q85, if_false]) | exact av_set_set _ _ _ _ | (funext a; unfold av_set; (repeat' split) <;> first | rfl | (exfalso; omega)) | (funext a; simp only [av_set, cpS]; (repeat' split) <;> first | rfl | (exfalso; omega))) ?_
            refine ev_aload_n dX6_searchPlans_128 rfl 1 rfl ?_
            refine ev_bipush dX6_searchPlans_129 (v := nI 10) (by decide) ?_
            refine ev_aload_n dX6_searchPlans_131 rfl 1 rfl ?_
            refine ev_getR dX6_searchPlans_132 C_X6 L_X6_22 (by decide) (by decide) sh_77 rfl ?_
            refine ev_aload_n dX6_searchPlans_135 rfl 1 rfl ?_
            refine ev_getR dX6_searchPlans_136 C_X6 L_X6_25 (by decide) (by decide) sh_77 rfl ?_
            refine ev_iconst dX6_searchPlans_139 (v := nI 0) (by decide) ?_
            refine ev_iald (e := 0) (v := (upd (upd (σ 83) v (nI (npP p q (W - v)))) (v + 1) (nI 0)) 0) dX6_searchPlans_140 (by decide) sh_83 (by omega) (by decide) (by first | rfl | (simp only [av_set, cpS]; (repeat' split) <;> first | rfl | (exfalso; omega))) ?_
            refine ev_top (v := nI P) (by rw [show W - v = w by omega]; exact hP) ?_
            refine ev_iald (e := P) (v := σ 82 P) dX6_searchPlans_141 (by decide) sh_82 (by omega) (by decide) (by first | rfl | (simp only [av_set, cpS]; (repeat' split) <;> first | rfl | (exfalso; omega))) ?_
            refine ev_imul dX6_searchPlans_142 ?_
            refine ev_aload_n dX6_searchPlans_143 rfl 1 rfl ?_
            refine ev_getR dX6_searchPlans_144 C_X6 L_X6_22 (by decide) (by decide) sh_77 rfl ?_
            refine ev_aload_n dX6_searchPlans_147 rfl 1 rfl ?_
            refine ev_getR dX6_searchPlans_148 C_X6 L_X6_28 (by decide) (by decide) sh_77 rfl ?_
            refine ev_iconst dX6_searchPlans_151 (v := nI 0) (by decide) ?_
            refine ev_iald (e := 0) (v := (upd (upd (σ 84) v (nI (npQ p q (W - v)))) (v + 1) (nI 0)) 0) dX6_searchPlans_152 (by decide) sh_84 (by omega) (by decide) (by first | rfl | (simp only [av_set, cpS]; (repeat' split) <;> first | rfl | (exfalso; omega))) ?_
            refine ev_top (v := nI Z) (by rw [show W - v = w by omega]; exact hZ) ?_
            refine ev_iald (e := Z) (v := σ 82 Z) dX6_searchPlans_153 (by decide) sh_82 (by omega) (by decide) (by first | rfl | (simp only [av_set, cpS]; (repeat' split) <;> first | rfl | (exfalso; omega))) ?_
            refine ev_iadd dX6_searchPlans_154 ?_
            refine ev_putI dX6_searchPlans_155 C_X6 L_X6_183 (by decide) (by decide) sh_77 rfl rfl rfl ?_
            refine ev_st (σ' := av_set (av_set (av_set (av_set (av_set σ 77 (upd (upd (σ 77) 11 (nI (K + dcK (σ 81) v (npP p q (W - v)) (npQ p q (W - v))))) 12 (((nI 10) * (σ 82 P)) + (σ 82 Z)))) 81 (dcA (σ 81) v (npP p q (W - v)) (npQ p q (W - v)) (W - v))) 83 (upd (upd (σ 83) v (nI (npP p q (W - v)))) (v + 1) (nI 0))) 84 (upd (upd (σ 84) v (nI (npQ p q (W - v)))) (v + 1) (nI 0))) 85 (upd (σ 85) (v + 1) (nI (K + dcK (σ 81) v (npP p q (W - v)) (npQ p q (W - v)))))) (by first | rfl | (funext a; by_cases q77 : a = 77; (next => subst q77; rfl); by_cases q81 : a = 81; (next => subst q81; rfl); by_cases q83 : a = 83; (next => subst q83; rfl); by_cases q84 : a = 84; (next => subst q84; rfl); by_cases q85 : a = 85; (next => subst q85; rfl); simp only [av_set, q77, q81, q83, q84, q85, if_false]) | exact av_set_set _ _ _ _ | (funext a; unfold av_set; (repeat' split) <;> first | rfl | (exfalso; omega)) | (funext a; simp only [av_set, cpS]; (repeat' split) <;> first | rfl | (exfalso; omega))) ?_
            refine ev_iload_n dX6_searchPlans_158 rfl 3 rfl ?_
            refine ev_iload_n dX6_searchPlans_159 rfl 0 rfl ?_
            refine ev_nif_eq (tgt := 167) dX6_searchPlans_160 (by decide) (by omega) (fun h160 => ?_) (fun h160 => ?_)
            · exact absurd h160 (by omega)
            · refine ev_iconst dX6_searchPlans_163 (v := nI 0) (by decide) ?_
              refine ev_goto (tgt := 168) dX6_searchPlans_164 (by decide) ?_
              refine ev_iadd dX6_searchPlans_168 ?_
              refine ev_top (v := nI (v + 0)) (nI_add _ _) ?_
              refine ev_istore_n (lv' := [(2, .int (nI (v + 0))), (3, .int (nI 1)), (0, .ref 77), (1, .int (nI W))]) dX6_searchPlans_169 rfl (by decide) rfl ?_
              refine ev_goto (tgt := 50) dX6_searchPlans_170 (by decide) ?_
              refine ev_lv (lv' := [(0, .ref 77), (1, .int (nI W)), (2, .int (nI (v + 0)))]) [2, 3, 0] rfl ?_
              refine ev_st (σ' := upb (dsc (nps σ v p q (W - v)) v (npP p q (W - v)) (npQ p q (W - v)) (W - v) K) (K + dcK (σ 81) v (npP p q (W - v)) (npQ p q (W - v))) P Z) (by first | exact (show _ = (dsc (nps σ v p q (W - v)) v (npP p q (W - v)) (npQ p q (W - v)) (W - v) K) from (by funext a; by_cases q81 : a = 81; (next => subst q81; rfl); by_cases q83 : a = 83; (next => subst q83; rfl); by_cases q84 : a = 84; (next => subst q84; rfl); by_cases q85 : a = 85; (next => subst q85; rfl); simp only [dsc, nps, av_set, q81, q83, q84, q85, if_false])).trans (upb_t (s := (dsc (nps σ v p q (W - v)) v (npP p q (W - v)) (npQ p q (W - v)) (W - v) K)) h113).symm | exact Eq.trans (by funext a; by_cases q77 : a = 77; (next => subst q77; rfl); by_cases q81 : a = 81; (next => subst q81; rfl); by_cases q83 : a = 83; (next => subst q83; rfl); by_cases q84 : a = 84; (next => subst q84; rfl); by_cases q85 : a = 85; (next => subst q85; rfl); simp only [dsc, nps, av_set, q77, q81, q83, q84, q85, if_false]) (upb_f (s := (dsc (nps σ v p q (W - v)) v (npP p q (W - v)) (npQ p q (W - v)) (W - v) K)) h113).symm) ?_
              rw [show W - v = w by omega]
              exact kk
    · exact absurd h67 (by rw [show W - v = w by omega, decide_eq_true hx]; decide)

