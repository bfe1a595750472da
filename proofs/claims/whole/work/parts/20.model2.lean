/-! ===== the reference: contracts, second part ===== -/
set_option maxRecDepth 100000 in
set_option maxHeartbeats 1000000 in
theorem c_X6_setChannel {l : Launch} {σ : av_S} (S : Int32) (ch : Nat) (v : Int32) (w : Int32) (c : Nat) (hch : ch < 4) (hcn : σ 78 0 = nI c) (hc1 : 1 ≤ c) (hc6 : c ≤ 6) : av_M l RX6 cX6_setChannel 6 none 1 [.ref 77, .int S, .int (nI ch), .int v, .int w] σ none (av_set σ 78 (msc (σ 78) c S ch v w)) := by
  intro Q hQ
  show av_Ev l RX6 cX6_setChannel 6 none av_E0 1 0 [(0, .ref 77), (1, .int S), (2, .int (nI ch)), (3, .int v), (4, .int w)] [] σ Q
  refine ev_iconst dX6_setChannel_0 (v := nI 0) (by decide) ?_
  refine ev_istore (lv' := [(5, .int (nI 0)), (0, .ref 77), (1, .int S), (2, .int (nI ch)), (3, .int v), (4, .int w)]) dX6_setChannel_1 (by decide) rfl ?_
  refine ev_lv (lv' := [(0, .ref 77), (1, .int S), (2, .int (nI ch)), (3, .int v), (4, .int w), (5, .int (nI 0))]) [1, 2, 3, 4, 5, 0] rfl ?_
  refine ev_st (σ' := av_set σ 78 (fo 0 (fun s N => mscF S ch v w s N) (σ 78))) (by simp only [fo_0] <;> first | rfl | (funext a; unfold av_set; (repeat' split) <;> first | rfl | (subst_vars; rfl) | (exfalso; omega))) ?_
  refine loop_up (fun k => av_Ev l RX6 cX6_setChannel 6 none av_E0 1 3 [(0, .ref 77), (1, .int S), (2, .int (nI ch)), (3, .int v), (4, .int w), (5, .int (nI k))] [] (av_set σ 78 (fo k (fun s N => mscF S ch v w s N) (σ 78))) Q) c ?_ ?_
  · show av_Ev l RX6 cX6_setChannel 6 none av_E0 1 3 [(0, .ref 77), (1, .int S), (2, .int (nI ch)), (3, .int v), (4, .int w), (5, .int (nI c))] [] (av_set σ 78 (fo c (fun s N => mscF S ch v w s N) (σ 78))) Q
    refine ev_iload dX6_setChannel_3 5 rfl ?_
    refine ev_aload_n dX6_setChannel_5 rfl 0 rfl ?_
    refine ev_getR dX6_setChannel_6 C_X6 L_X6_7 (by decide) (by decide) sh_77 rfl ?_
    refine ev_iconst dX6_setChannel_9 (v := nI 0) (by decide) ?_
    refine ev_iald (e := 0) (v := (fo c (fun s N => mscF S ch v w s N) (σ 78)) 0) dX6_setChannel_10 (by decide) sh_78 (by omega) (by decide) (by first | rfl | (simp only [av_set, cpS]; (repeat' split) <;> first | rfl | (exfalso; omega))) ?_
    refine ev_top (v := nI c) ((msck_lo c (by decide)).trans hcn) ?_
    refine ev_ncmp_ge (tgt := 62) dX6_setChannel_11 (by decide) (by omega) (by omega) (fun h11 => ?_) (fun h11 => ?_)
    · exact ev_return dX6_setChannel_62 rfl (leafV hQ rfl)
    · exact absurd h11 (by omega)
  · intro k hk ihk
    show av_Ev l RX6 cX6_setChannel 6 none av_E0 1 3 [(0, .ref 77), (1, .int S), (2, .int (nI ch)), (3, .int v), (4, .int w), (5, .int (nI k))] [] (av_set σ 78 (fo k (fun s N => mscF S ch v w s N) (σ 78))) Q
    refine ev_iload dX6_setChannel_3 5 rfl ?_
    refine ev_aload_n dX6_setChannel_5 rfl 0 rfl ?_
    refine ev_getR dX6_setChannel_6 C_X6 L_X6_7 (by decide) (by decide) sh_77 rfl ?_
    refine ev_iconst dX6_setChannel_9 (v := nI 0) (by decide) ?_
    refine ev_iald (e := 0) (v := (fo k (fun s N => mscF S ch v w s N) (σ 78)) 0) dX6_setChannel_10 (by decide) sh_78 (by omega) (by decide) (by first | rfl | (simp only [av_set, cpS]; (repeat' split) <;> first | rfl | (exfalso; omega))) ?_
    refine ev_top (v := nI c) ((msck_lo k (by decide)).trans hcn) ?_
    refine ev_ncmp_ge (tgt := 62) dX6_setChannel_11 (by decide) (by omega) (by omega) (fun h11 => ?_) (fun h11 => ?_)
    · exact absurd h11 (by omega)
    · refine ev_iload_n dX6_setChannel_14 rfl 1 rfl ?_
      refine ev_iload dX6_setChannel_15 5 rfl ?_
      refine ev_callSi (x := b2i (tb S k)) dX6_setChannel_17 (Or.inl M_X6_50) Y_X6_has [.int S, .int (nI k)] (c_X6_has S k (by omega)) (by decide) (Nat.le_of_ble_eq_true rfl) rfl rfl (Nat.le_of_ble_eq_true rfl) ?_
      refine ev_ifb_eq (tgt := 56) dX6_setChannel_20 (by decide) (fun h20 => ?_) (fun h20 => ?_)
      · refine ev_iinc (lv' := [(5, .int (nI (k + 1))), (0, .ref 77), (1, .int S), (2, .int (nI ch)), (3, .int v), (4, .int w)]) dX6_setChannel_56 5 rfl (nI_inc k) (by decide) rfl ?_
        refine ev_goto (tgt := 3) dX6_setChannel_59 (by decide) ?_
        refine ev_lv (lv' := [(0, .ref 77), (1, .int S), (2, .int (nI ch)), (3, .int v), (4, .int w), (5, .int (nI (k + 1)))]) [1, 2, 3, 4, 5, 0] rfl ?_
        have ih9 : av_Ev l RX6 cX6_setChannel 6 none av_E0 1 3 [(0, .ref 77), (1, .int S), (2, .int (nI ch)), (3, .int v), (4, .int w), (5, .int (nI (k + 1)))] [] (av_set σ 78 (fo (k + 1) (fun s N => mscF S ch v w s N) (σ 78))) Q := ihk
        rw [show av_set σ 78 (fo (k + 1) (fun s N => mscF S ch v w s N) (σ 78)) = av_set σ 78 (fo k (fun s N => mscF S ch v w s N) (σ 78)) from (by rw [fo_s]; show av_set σ 78 (mscF S ch v w k _) = _; first | rw [mscF_t h20] | rw [mscF_f h20])] at ih9
        exact ih9
      · refine ev_aload_n dX6_setChannel_23 rfl 0 rfl ?_
        refine ev_getR dX6_setChannel_24 C_X6 L_X6_7 (by decide) (by decide) sh_77 rfl ?_
        refine ev_sipush dX6_setChannel_27 (v := nI 190) (by decide) ?_
        refine ev_iconst dX6_setChannel_30 (v := nI 4) (by decide) ?_
        refine ev_iload dX6_setChannel_31 5 rfl ?_
        refine ev_imul dX6_setChannel_33 ?_
        refine ev_top (v := nI (4 * k)) (pk_mul _ _) ?_
        refine ev_iadd dX6_setChannel_34 ?_
        refine ev_top (v := nI (190 + (4 * k))) (nI_add _ _) ?_
        refine ev_iload_n dX6_setChannel_35 rfl 2 rfl ?_
        refine ev_iadd dX6_setChannel_36 ?_
        refine ev_top (v := nI (190 + (4 * k) + ch)) (nI_add _ _) ?_
        refine ev_iload_n dX6_setChannel_37 rfl 3 rfl ?_
        refine ev_iast (e := 190 + (4 * k) + ch) dX6_setChannel_38 (by decide) sh_78 (by omega) (by decide) ?_
        refine ev_st (σ' := av_set σ 78 (upd (fo k (fun s N => mscF S ch v w s N) (σ 78)) (190 + (4 * k) + ch) v)) (by first | rfl | (funext a; by_cases q78 : a = 78; (next => subst q78; rfl); simp only [av_set, q78, if_false]) | exact av_set_set _ _ _ _ | (funext a; unfold av_set; (repeat' split) <;> first | rfl | (exfalso; omega)) | (funext a; simp only [av_set, cpS]; (repeat' split) <;> first | rfl | (exfalso; omega))) ?_
        refine ev_aload_n dX6_setChannel_39 rfl 0 rfl ?_
        refine ev_getR dX6_setChannel_40 C_X6 L_X6_7 (by decide) (by decide) sh_77 rfl ?_
        refine ev_sipush dX6_setChannel_43 (v := nI 214) (by decide) ?_
        refine ev_iconst dX6_setChannel_46 (v := nI 4) (by decide) ?_
        refine ev_iload dX6_setChannel_47 5 rfl ?_
        refine ev_imul dX6_setChannel_49 ?_
        refine ev_top (v := nI (4 * k)) (pk_mul _ _) ?_
        refine ev_iadd dX6_setChannel_50 ?_
        refine ev_top (v := nI (214 + (4 * k))) (nI_add _ _) ?_
        refine ev_iload_n dX6_setChannel_51 rfl 2 rfl ?_
        refine ev_iadd dX6_setChannel_52 ?_
        refine ev_top (v := nI (214 + (4 * k) + ch)) (nI_add _ _) ?_
        refine ev_iload dX6_setChannel_53 4 rfl ?_
        refine ev_iast (e := 214 + (4 * k) + ch) dX6_setChannel_55 (by decide) sh_78 (by omega) (by decide) ?_
        refine ev_st (σ' := av_set σ 78 (upd (upd (fo k (fun s N => mscF S ch v w s N) (σ 78)) (190 + (4 * k) + ch) v) (214 + (4 * k) + ch) w)) (by first | rfl | (funext a; by_cases q78 : a = 78; (next => subst q78; rfl); simp only [av_set, q78, if_false]) | exact av_set_set _ _ _ _ | (funext a; unfold av_set; (repeat' split) <;> first | rfl | (exfalso; omega)) | (funext a; simp only [av_set, cpS]; (repeat' split) <;> first | rfl | (exfalso; omega))) ?_
        refine ev_iinc (lv' := [(5, .int (nI (k + 1))), (0, .ref 77), (1, .int S), (2, .int (nI ch)), (3, .int v), (4, .int w)]) dX6_setChannel_56 5 rfl (nI_inc k) (by decide) rfl ?_
        refine ev_goto (tgt := 3) dX6_setChannel_59 (by decide) ?_
        refine ev_lv (lv' := [(0, .ref 77), (1, .int S), (2, .int (nI ch)), (3, .int v), (4, .int w), (5, .int (nI (k + 1)))]) [1, 2, 3, 4, 5, 0] rfl ?_
        have ih9 : av_Ev l RX6 cX6_setChannel 6 none av_E0 1 3 [(0, .ref 77), (1, .int S), (2, .int (nI ch)), (3, .int v), (4, .int w), (5, .int (nI (k + 1)))] [] (av_set σ 78 (fo (k + 1) (fun s N => mscF S ch v w s N) (σ 78))) Q := ihk
        rw [show av_set σ 78 (fo (k + 1) (fun s N => mscF S ch v w s N) (σ 78)) = av_set σ 78 (upd (upd (fo k (fun s N => mscF S ch v w s N) (σ 78)) (190 + (4 * k) + ch) v) (214 + (4 * k) + ch) w) from (by rw [fo_s]; show av_set σ 78 (mscF S ch v w k _) = _; first | rw [mscF_t h20] | rw [mscF_f h20])] at ih9
        exact ih9

set_option maxRecDepth 100000 in
set_option maxHeartbeats 1000000 in
theorem c_X6_mergeNicks {l : Launch} {σ : av_S} (A : Int32) (B : Int32) (c : Nat) (hcn : σ 78 0 = nI c) (hc1 : 1 ≤ c) (hc6 : c ≤ 6) : av_M l RX6 cX6_mergeNicks 9 (some .int) 3 [.ref 77, .int A, .int B] σ (some (.int (nI ((mkn (σ 78) c A B 10).1)))) (av_set σ 78 ((mkn (σ 78) c A B 10).2)) := by
  intro Q hQ
  show av_Ev l RX6 cX6_mergeNicks 9 (some .int) av_E0 3 0 [(0, .ref 77), (1, .int A), (2, .int B)] [] σ Q
  refine ev_iconst dX6_mergeNicks_0 (v := nI 0) (by decide) ?_
  refine ev_istore_n (lv' := [(3, .int (nI 0)), (0, .ref 77), (1, .int A), (2, .int B)]) dX6_mergeNicks_1 rfl (by decide) rfl ?_
  refine ev_iconst dX6_mergeNicks_2 (v := nI 0) (by decide) ?_
  refine ev_istore (lv' := [(4, .int (nI 0)), (3, .int (nI 0)), (0, .ref 77), (1, .int A), (2, .int B)]) dX6_mergeNicks_3 (by decide) rfl ?_
  refine ev_lv (lv' := [(0, .ref 77), (1, .int A), (2, .int B), (3, .int (nI 0)), (4, .int (nI 0))]) [2, 3, 4, 1, 0] rfl ?_
  refine ev_st (σ' := av_set σ 78 ((mkn (σ 78) c A B 0).2)) (by exact (av_set_self _ _).symm) ?_
  refine loop_up (fun k => av_Ev l RX6 cX6_mergeNicks 9 (some .int) av_E0 3 5 [(0, .ref 77), (1, .int A), (2, .int B), (3, .int (nI ((mkn (σ 78) c A B k).1))), (4, .int (nI k))] [] (av_set σ 78 ((mkn (σ 78) c A B k).2)) Q) 10 ?_ ?_
  · show av_Ev l RX6 cX6_mergeNicks 9 (some .int) av_E0 3 5 [(0, .ref 77), (1, .int A), (2, .int B), (3, .int (nI ((mkn (σ 78) c A B 10).1))), (4, .int (nI 10))] [] (av_set σ 78 ((mkn (σ 78) c A B 10).2)) Q
    refine ev_iload dX6_mergeNicks_5 4 rfl ?_
    refine ev_bipush dX6_mergeNicks_7 (v := nI 10) (by decide) ?_
    refine ev_ncmp_ge (tgt := 120) dX6_mergeNicks_9 (by decide) (by omega) (by omega) (fun h9 => ?_) (fun h9 => ?_)
    · refine ev_iload_n dX6_mergeNicks_120 rfl 3 rfl ?_
      exact ev_ireturn dX6_mergeNicks_121 rfl rfl (leafI hQ rfl rfl)
    · exact absurd h9 (by omega)
  · intro k hk ihk
    show av_Ev l RX6 cX6_mergeNicks 9 (some .int) av_E0 3 5 [(0, .ref 77), (1, .int A), (2, .int B), (3, .int (nI ((mkn (σ 78) c A B k).1))), (4, .int (nI k))] [] (av_set σ 78 ((mkn (σ 78) c A B k).2)) Q
    refine ev_iload dX6_mergeNicks_5 4 rfl ?_
    refine ev_bipush dX6_mergeNicks_7 (v := nI 10) (by decide) ?_
    refine ev_ncmp_ge (tgt := 120) dX6_mergeNicks_9 (by decide) (by omega) (by omega) (fun h9 => ?_) (fun h9 => ?_)
    · exact absurd h9 (by omega)
    · refine ev_aload_n dX6_mergeNicks_12 rfl 0 rfl ?_
      refine ev_iload_n dX6_mergeNicks_13 rfl 1 rfl ?_
      refine ev_iload dX6_mergeNicks_14 4 rfl ?_
      refine ev_callVi (x := oJ (mhm ((mkn (σ 78) c A B k).2) c A k)) dX6_mergeNicks_16 M_X6_72 Y_X6_homeIn [.int A, .int (nI k)] (c_X6_homeIn A k c (by omega) ((mkn_lo k (by decide)).trans hcn) (by first | exact hc1 | omega) (by first | exact hc6 | omega)) (by decide) (Nat.le_of_ble_eq_true rfl) (by decide) sh_77 rfl rfl rfl (Nat.le_of_ble_eq_true rfl) ?_
      rcases ho16 : mhm ((mkn (σ 78) c A B k).2) c A k with _ | u16
      · refine ev_top (v := (-9)) rfl ?_
        refine ev_istore (lv' := [(5, .int (-9)), (0, .ref 77), (1, .int A), (2, .int B), (3, .int (nI ((mkn (σ 78) c A B k).1))), (4, .int (nI k))]) dX6_mergeNicks_19 (by decide) rfl ?_
        refine ev_aload_n dX6_mergeNicks_21 rfl 1 rfl ?_
        refine ev_iload_n dX6_mergeNicks_22 rfl 3 rfl ?_
        refine ev_iload dX6_mergeNicks_23 5 rfl ?_
        refine ev_callVi (x := oJ (mhm ((mkn (σ 78) c A B k).2) c B k)) dX6_mergeNicks_25 M_X6_72 Y_X6_homeIn [.int B, .int (nI k)] (c_X6_homeIn B k c (by omega) ((mkn_lo k (by decide)).trans hcn) (by first | exact hc1 | omega) (by first | exact hc6 | omega)) (by decide) (Nat.le_of_ble_eq_true rfl) (by decide) sh_77 rfl rfl rfl (Nat.le_of_ble_eq_true rfl) ?_
        rcases ho25 : mhm ((mkn (σ 78) c A B k).2) c B k with _ | u25
        · refine ev_top (v := (-9)) rfl ?_
          refine ev_istore (lv' := [(6, .int (-9)), (5, .int (-9)), (0, .ref 77), (1, .int A), (2, .int B), (3, .int (nI ((mkn (σ 78) c A B k).1))), (4, .int (nI k))]) dX6_mergeNicks_28 (by decide) rfl ?_
          refine ev_iload dX6_mergeNicks_30 1 rfl ?_
          refine ev_bipush dX6_mergeNicks_32 (v := (-9)) (by decide) ?_
          refine ev_icmp_eq (tgt := 114) dX6_mergeNicks_34 (by decide) (fun h34 => ?_) (fun h34 => ?_)
          · refine ev_iinc (lv' := [(4, .int (nI (k + 1))), (6, .int (-9)), (5, .int (-9)), (0, .ref 77), (1, .int A), (2, .int B), (3, .int (nI ((mkn (σ 78) c A B k).1)))]) dX6_mergeNicks_114 6 rfl (nI_inc k) (by decide) rfl ?_
            refine ev_goto (tgt := 5) dX6_mergeNicks_117 (by decide) ?_
            refine ev_lv (lv' := [(0, .ref 77), (1, .int A), (2, .int B), (3, .int (nI ((mkn (σ 78) c A B k).1))), (4, .int (nI (k + 1)))]) [3, 4, 5, 6, 0] rfl ?_
            have ih9 : av_Ev l RX6 cX6_mergeNicks 9 (some .int) av_E0 3 5 [(0, .ref 77), (1, .int A), (2, .int B), (3, .int (nI ((mkn (σ 78) c A B (k + 1)).1))), (4, .int (nI (k + 1)))] [] (av_set σ 78 ((mkn (σ 78) c A B (k + 1)).2)) Q := ihk
            rw [show nI ((mkn (σ 78) c A B (k + 1)).1) = nI ((mkn (σ 78) c A B k).1) from (by show nI (mkF c A B k (mkn (σ 78) c A B k)).1 = _; first | rw [mkF_n1 ho16] | rw [mkF_n2 ho25] | (rw [mkF_ss ho16 ho25]; unfold mk2; dsimp only; first | rw [if_pos h82, if_pos h100] | rw [if_neg h82, if_pos h100] | rw [if_pos h82, if_neg h100] | rw [if_neg h82, if_neg h100]))] at ih9
            rw [show av_set σ 78 ((mkn (σ 78) c A B (k + 1)).2) = av_set σ 78 ((mkn (σ 78) c A B k).2) from (by show av_set σ 78 (mkF c A B k (mkn (σ 78) c A B k)).2 = _; first | rw [mkF_n1 ho16] | rw [mkF_n2 ho25] | (rw [mkF_ss ho16 ho25]; unfold mk2; dsimp only; first | rw [if_pos h82, if_pos h100] | rw [if_neg h82, if_pos h100] | rw [if_pos h82, if_neg h100] | rw [if_neg h82, if_neg h100]))] at ih9
            exact ih9
          · exact absurd rfl h34
        · have hu25 : u25 < c := mhm_lt ho25
          refine ev_top (v := nI u25) rfl ?_
          refine ev_istore (lv' := [(6, .int (nI u25)), (5, .int (-9)), (0, .ref 77), (1, .int A), (2, .int B), (3, .int (nI ((mkn (σ 78) c A B k).1))), (4, .int (nI k))]) dX6_mergeNicks_28 (by decide) rfl ?_
          refine ev_iload dX6_mergeNicks_30 1 rfl ?_
          refine ev_bipush dX6_mergeNicks_32 (v := (-9)) (by decide) ?_
          refine ev_icmp_eq (tgt := 114) dX6_mergeNicks_34 (by decide) (fun h34 => ?_) (fun h34 => ?_)
          · refine ev_iinc (lv' := [(4, .int (nI (k + 1))), (6, .int (nI u25)), (5, .int (-9)), (0, .ref 77), (1, .int A), (2, .int B), (3, .int (nI ((mkn (σ 78) c A B k).1)))]) dX6_mergeNicks_114 6 rfl (nI_inc k) (by decide) rfl ?_
            refine ev_goto (tgt := 5) dX6_mergeNicks_117 (by decide) ?_
            refine ev_lv (lv' := [(0, .ref 77), (1, .int A), (2, .int B), (3, .int (nI ((mkn (σ 78) c A B k).1))), (4, .int (nI (k + 1)))]) [3, 4, 5, 6, 0] rfl ?_
            have ih9 : av_Ev l RX6 cX6_mergeNicks 9 (some .int) av_E0 3 5 [(0, .ref 77), (1, .int A), (2, .int B), (3, .int (nI ((mkn (σ 78) c A B (k + 1)).1))), (4, .int (nI (k + 1)))] [] (av_set σ 78 ((mkn (σ 78) c A B (k + 1)).2)) Q := ihk
            rw [show nI ((mkn (σ 78) c A B (k + 1)).1) = nI ((mkn (σ 78) c A B k).1) from (by show nI (mkF c A B k (mkn (σ 78) c A B k)).1 = _; first | rw [mkF_n1 ho16] | rw [mkF_n2 ho25] | (rw [mkF_ss ho16 ho25]; unfold mk2; dsimp only; first | rw [if_pos h82, if_pos h100] | rw [if_neg h82, if_pos h100] | rw [if_pos h82, if_neg h100] | rw [if_neg h82, if_neg h100]))] at ih9
            rw [show av_set σ 78 ((mkn (σ 78) c A B (k + 1)).2) = av_set σ 78 ((mkn (σ 78) c A B k).2) from (by show av_set σ 78 (mkF c A B k (mkn (σ 78) c A B k)).2 = _; first | rw [mkF_n1 ho16] | rw [mkF_n2 ho25] | (rw [mkF_ss ho16 ho25]; unfold mk2; dsimp only; first | rw [if_pos h82, if_pos h100] | rw [if_neg h82, if_pos h100] | rw [if_pos h82, if_neg h100] | rw [if_neg h82, if_neg h100]))] at ih9
            exact ih9
          · exact absurd rfl h34
      · have hu16 : u16 < c := mhm_lt ho16
        refine ev_top (v := nI u16) rfl ?_
        refine ev_istore (lv' := [(5, .int (nI u16)), (0, .ref 77), (1, .int A), (2, .int B), (3, .int (nI ((mkn (σ 78) c A B k).1))), (4, .int (nI k))]) dX6_mergeNicks_19 (by decide) rfl ?_
        refine ev_aload_n dX6_mergeNicks_21 rfl 1 rfl ?_
        refine ev_iload_n dX6_mergeNicks_22 rfl 3 rfl ?_
        refine ev_iload dX6_mergeNicks_23 5 rfl ?_
        refine ev_callVi (x := oJ (mhm ((mkn (σ 78) c A B k).2) c B k)) dX6_mergeNicks_25 M_X6_72 Y_X6_homeIn [.int B, .int (nI k)] (c_X6_homeIn B k c (by omega) ((mkn_lo k (by decide)).trans hcn) (by first | exact hc1 | omega) (by first | exact hc6 | omega)) (by decide) (Nat.le_of_ble_eq_true rfl) (by decide) sh_77 rfl rfl rfl (Nat.le_of_ble_eq_true rfl) ?_
        rcases ho25 : mhm ((mkn (σ 78) c A B k).2) c B k with _ | u25
        · refine ev_top (v := (-9)) rfl ?_
          refine ev_istore (lv' := [(6, .int (-9)), (5, .int (nI u16)), (0, .ref 77), (1, .int A), (2, .int B), (3, .int (nI ((mkn (σ 78) c A B k).1))), (4, .int (nI k))]) dX6_mergeNicks_28 (by decide) rfl ?_
          refine ev_iload dX6_mergeNicks_30 1 rfl ?_
          refine ev_bipush dX6_mergeNicks_32 (v := (-9)) (by decide) ?_
          refine ev_icmp_eq (tgt := 114) dX6_mergeNicks_34 (by decide) (fun h34 => ?_) (fun h34 => ?_)
          · exact absurd h34 (nI_neg (by omega) (by decide))
          · refine ev_iload dX6_mergeNicks_37 0 rfl ?_
            refine ev_bipush dX6_mergeNicks_39 (v := (-9)) (by decide) ?_
            refine ev_icmp_eq (tgt := 114) dX6_mergeNicks_41 (by decide) (fun h41 => ?_) (fun h41 => ?_)
            · refine ev_iinc (lv' := [(4, .int (nI (k + 1))), (6, .int (-9)), (5, .int (nI u16)), (0, .ref 77), (1, .int A), (2, .int B), (3, .int (nI ((mkn (σ 78) c A B k).1)))]) dX6_mergeNicks_114 6 rfl (nI_inc k) (by decide) rfl ?_
              refine ev_goto (tgt := 5) dX6_mergeNicks_117 (by decide) ?_
              refine ev_lv (lv' := [(0, .ref 77), (1, .int A), (2, .int B), (3, .int (nI ((mkn (σ 78) c A B k).1))), (4, .int (nI (k + 1)))]) [3, 4, 5, 6, 0] rfl ?_
              have ih9 : av_Ev l RX6 cX6_mergeNicks 9 (some .int) av_E0 3 5 [(0, .ref 77), (1, .int A), (2, .int B), (3, .int (nI ((mkn (σ 78) c A B (k + 1)).1))), (4, .int (nI (k + 1)))] [] (av_set σ 78 ((mkn (σ 78) c A B (k + 1)).2)) Q := ihk
              rw [show nI ((mkn (σ 78) c A B (k + 1)).1) = nI ((mkn (σ 78) c A B k).1) from (by show nI (mkF c A B k (mkn (σ 78) c A B k)).1 = _; first | rw [mkF_n1 ho16] | rw [mkF_n2 ho25] | (rw [mkF_ss ho16 ho25]; unfold mk2; dsimp only; first | rw [if_pos h82, if_pos h100] | rw [if_neg h82, if_pos h100] | rw [if_pos h82, if_neg h100] | rw [if_neg h82, if_neg h100]))] at ih9
              rw [show av_set σ 78 ((mkn (σ 78) c A B (k + 1)).2) = av_set σ 78 ((mkn (σ 78) c A B k).2) from (by show av_set σ 78 (mkF c A B k (mkn (σ 78) c A B k)).2 = _; first | rw [mkF_n1 ho16] | rw [mkF_n2 ho25] | (rw [mkF_ss ho16 ho25]; unfold mk2; dsimp only; first | rw [if_pos h82, if_pos h100] | rw [if_neg h82, if_pos h100] | rw [if_pos h82, if_neg h100] | rw [if_neg h82, if_neg h100]))] at ih9
              exact ih9
            · exact absurd rfl h41
        · have hu25 : u25 < c := mhm_lt ho25
          refine ev_top (v := nI u25) rfl ?_
          refine ev_istore (lv' := [(6, .int (nI u25)), (5, .int (nI u16)), (0, .ref 77), (1, .int A), (2, .int B), (3, .int (nI ((mkn (σ 78) c A B k).1))), (4, .int (nI k))]) dX6_mergeNicks_28 (by decide) rfl ?_
          refine ev_iload dX6_mergeNicks_30 1 rfl ?_
          refine ev_bipush dX6_mergeNicks_32 (v := (-9)) (by decide) ?_
          refine ev_icmp_eq (tgt := 114) dX6_mergeNicks_34 (by decide) (fun h34 => ?_) (fun h34 => ?_)
          · exact absurd h34 (nI_neg (by omega) (by decide))
          · refine ev_iload dX6_mergeNicks_37 0 rfl ?_
            refine ev_bipush dX6_mergeNicks_39 (v := (-9)) (by decide) ?_
            refine ev_icmp_eq (tgt := 114) dX6_mergeNicks_41 (by decide) (fun h41 => ?_) (fun h41 => ?_)
            · exact absurd h41 (nI_neg (by omega) (by decide))
            · refine ev_aload_n dX6_mergeNicks_44 rfl 2 rfl ?_
              refine ev_getR dX6_mergeNicks_45 C_X6 L_X6_7 (by decide) (by decide) sh_77 rfl ?_
              refine ev_bipush dX6_mergeNicks_48 (v := nI 10) (by decide) ?_
              refine ev_iload dX6_mergeNicks_50 1 rfl ?_
              refine ev_iload dX6_mergeNicks_52 6 rfl ?_
              refine ev_callSi (x := nI (10 * u16 + k)) dX6_mergeNicks_54 (Or.inl M_X6_58) Y_X6_userCell [.int (nI u16), .int (nI k)] (c_X6_userCell u16 k ) (by decide) (Nat.le_of_ble_eq_true rfl) rfl rfl (Nat.le_of_ble_eq_true rfl) ?_
              refine ev_iadd dX6_mergeNicks_57 ?_
              refine ev_top (v := nI (10 + (10 * u16 + k))) (nI_add _ _) ?_
              refine ev_iald (e := 10 + (10 * u16 + k)) (v := ((mkn (σ 78) c A B k).2) (10 + (10 * u16 + k))) dX6_mergeNicks_58 (by decide) sh_78 (by omega) (by decide) (by first | rfl | (simp only [av_set, cpS]; (repeat' split) <;> first | rfl | (exfalso; omega))) ?_
              refine ev_istore (lv' := [(7, .int (((mkn (σ 78) c A B k).2) (10 + (10 * u16 + k)))), (6, .int (nI u25)), (5, .int (nI u16)), (0, .ref 77), (1, .int A), (2, .int B), (3, .int (nI ((mkn (σ 78) c A B k).1))), (4, .int (nI k))]) dX6_mergeNicks_59 (by decide) rfl ?_
              refine ev_aload_n dX6_mergeNicks_61 rfl 3 rfl ?_
              refine ev_getR dX6_mergeNicks_62 C_X6 L_X6_7 (by decide) (by decide) sh_77 rfl ?_
              refine ev_bipush dX6_mergeNicks_65 (v := nI 10) (by decide) ?_
              refine ev_iload dX6_mergeNicks_67 1 rfl ?_
              refine ev_iload dX6_mergeNicks_69 7 rfl ?_
              refine ev_callSi (x := nI (10 * u25 + k)) dX6_mergeNicks_71 (Or.inl M_X6_58) Y_X6_userCell [.int (nI u25), .int (nI k)] (c_X6_userCell u25 k ) (by decide) (Nat.le_of_ble_eq_true rfl) rfl rfl (Nat.le_of_ble_eq_true rfl) ?_
              refine ev_iadd dX6_mergeNicks_74 ?_
              refine ev_top (v := nI (10 + (10 * u25 + k))) (nI_add _ _) ?_
              refine ev_iald (e := 10 + (10 * u25 + k)) (v := ((mkn (σ 78) c A B k).2) (10 + (10 * u25 + k))) dX6_mergeNicks_75 (by decide) sh_78 (by omega) (by decide) (by first | rfl | (simp only [av_set, cpS]; (repeat' split) <;> first | rfl | (exfalso; omega))) ?_
              refine ev_istore (lv' := [(8, .int (((mkn (σ 78) c A B k).2) (10 + (10 * u25 + k)))), (7, .int (((mkn (σ 78) c A B k).2) (10 + (10 * u16 + k)))), (6, .int (nI u25)), (5, .int (nI u16)), (0, .ref 77), (1, .int A), (2, .int B), (3, .int (nI ((mkn (σ 78) c A B k).1))), (4, .int (nI k))]) dX6_mergeNicks_76 (by decide) rfl ?_
              refine ev_iload dX6_mergeNicks_78 1 rfl ?_
              refine ev_iload dX6_mergeNicks_80 0 rfl ?_
              refine ev_icmp_lt (tgt := 96) dX6_mergeNicks_82 (by decide) (fun h82 => ?_) (fun h82 => ?_)
              · refine ev_iload dX6_mergeNicks_96 0 rfl ?_
                refine ev_iload dX6_mergeNicks_98 1 rfl ?_
                refine ev_icmp_lt (tgt := 114) dX6_mergeNicks_100 (by decide) (fun h100 => ?_) (fun h100 => ?_)
                · refine ev_iinc (lv' := [(4, .int (nI (k + 1))), (8, .int (((mkn (σ 78) c A B k).2) (10 + (10 * u25 + k)))), (7, .int (((mkn (σ 78) c A B k).2) (10 + (10 * u16 + k)))), (6, .int (nI u25)), (5, .int (nI u16)), (0, .ref 77), (1, .int A), (2, .int B), (3, .int (nI ((mkn (σ 78) c A B k).1)))]) dX6_mergeNicks_114 8 rfl (nI_inc k) (by decide) rfl ?_
                  refine ev_goto (tgt := 5) dX6_mergeNicks_117 (by decide) ?_
                  refine ev_lv (lv' := [(0, .ref 77), (1, .int A), (2, .int B), (3, .int (nI ((mkn (σ 78) c A B k).1))), (4, .int (nI (k + 1)))]) [5, 6, 7, 8, 0] rfl ?_
                  have ih9 : av_Ev l RX6 cX6_mergeNicks 9 (some .int) av_E0 3 5 [(0, .ref 77), (1, .int A), (2, .int B), (3, .int (nI ((mkn (σ 78) c A B (k + 1)).1))), (4, .int (nI (k + 1)))] [] (av_set σ 78 ((mkn (σ 78) c A B (k + 1)).2)) Q := ihk
                  rw [show nI ((mkn (σ 78) c A B (k + 1)).1) = nI ((mkn (σ 78) c A B k).1) from (by show nI (mkF c A B k (mkn (σ 78) c A B k)).1 = _; first | rw [mkF_n1 ho16] | rw [mkF_n2 ho25] | (rw [mkF_ss ho16 ho25]; unfold mk2; dsimp only; first | rw [if_pos h82, if_pos h100] | rw [if_neg h82, if_pos h100] | rw [if_pos h82, if_neg h100] | rw [if_neg h82, if_neg h100]))] at ih9
                  rw [show av_set σ 78 ((mkn (σ 78) c A B (k + 1)).2) = av_set σ 78 ((mkn (σ 78) c A B k).2) from (by show av_set σ 78 (mkF c A B k (mkn (σ 78) c A B k)).2 = _; first | rw [mkF_n1 ho16] | rw [mkF_n2 ho25] | (rw [mkF_ss ho16 ho25]; unfold mk2; dsimp only; first | rw [if_pos h82, if_pos h100] | rw [if_neg h82, if_pos h100] | rw [if_pos h82, if_neg h100] | rw [if_neg h82, if_neg h100]))] at ih9
                  exact ih9
                · refine ev_aload_n dX6_mergeNicks_103 rfl 4 rfl ?_
                  refine ev_iload dX6_mergeNicks_104 2 rfl ?_
                  refine ev_iload dX6_mergeNicks_106 8 rfl ?_
                  refine ev_callVv dX6_mergeNicks_108 M_X6_75 Y_X6_removeUser [.int (nI u25), .int (nI k)] (c_X6_removeUser u25 k (by omega) (by omega)) (by decide) (Nat.le_of_ble_eq_true rfl) (by decide) sh_77 rfl rfl rfl (Nat.le_of_ble_eq_true rfl) ?_
                  refine ev_st (σ' := av_set σ 78 (mrm ((mkn (σ 78) c A B k).2) u25 k)) (by first | rfl | (funext a; by_cases q78 : a = 78; (next => subst q78; rfl); simp only [av_set, q78, if_false]) | exact av_set_set _ _ _ _ | (funext a; unfold av_set; (repeat' split) <;> first | rfl | (exfalso; omega)) | (funext a; simp only [av_set, cpS]; (repeat' split) <;> first | rfl | (exfalso; omega))) ?_
                  refine ev_iinc (lv' := [(3, .int (nI ((mkn (σ 78) c A B k).1 + 1))), (8, .int (((mkn (σ 78) c A B k).2) (10 + (10 * u25 + k)))), (7, .int (((mkn (σ 78) c A B k).2) (10 + (10 * u16 + k)))), (6, .int (nI u25)), (5, .int (nI u16)), (0, .ref 77), (1, .int A), (2, .int B), (4, .int (nI k))]) dX6_mergeNicks_111 7 rfl (nI_inc ((mkn (σ 78) c A B k).1)) (by decide) rfl ?_
                  refine ev_iinc (lv' := [(4, .int (nI (k + 1))), (3, .int (nI ((mkn (σ 78) c A B k).1 + 1))), (8, .int (((mkn (σ 78) c A B k).2) (10 + (10 * u25 + k)))), (7, .int (((mkn (σ 78) c A B k).2) (10 + (10 * u16 + k)))), (6, .int (nI u25)), (5, .int (nI u16)), (0, .ref 77), (1, .int A), (2, .int B)]) dX6_mergeNicks_114 8 rfl (nI_inc k) (by decide) rfl ?_
                  refine ev_goto (tgt := 5) dX6_mergeNicks_117 (by decide) ?_
                  refine ev_lv (lv' := [(0, .ref 77), (1, .int A), (2, .int B), (3, .int (nI ((mkn (σ 78) c A B k).1 + 1))), (4, .int (nI (k + 1)))]) [6, 7, 8, 1, 0] rfl ?_
                  have ih9 : av_Ev l RX6 cX6_mergeNicks 9 (some .int) av_E0 3 5 [(0, .ref 77), (1, .int A), (2, .int B), (3, .int (nI ((mkn (σ 78) c A B (k + 1)).1))), (4, .int (nI (k + 1)))] [] (av_set σ 78 ((mkn (σ 78) c A B (k + 1)).2)) Q := ihk
                  rw [show nI ((mkn (σ 78) c A B (k + 1)).1) = nI ((mkn (σ 78) c A B k).1 + 1) from (by show nI (mkF c A B k (mkn (σ 78) c A B k)).1 = _; first | rw [mkF_n1 ho16] | rw [mkF_n2 ho25] | (rw [mkF_ss ho16 ho25]; unfold mk2; dsimp only; first | rw [if_pos h82, if_pos h100] | rw [if_neg h82, if_pos h100] | rw [if_pos h82, if_neg h100] | rw [if_neg h82, if_neg h100]))] at ih9
                  rw [show av_set σ 78 ((mkn (σ 78) c A B (k + 1)).2) = av_set σ 78 (mrm ((mkn (σ 78) c A B k).2) u25 k) from (by show av_set σ 78 (mkF c A B k (mkn (σ 78) c A B k)).2 = _; first | rw [mkF_n1 ho16] | rw [mkF_n2 ho25] | (rw [mkF_ss ho16 ho25]; unfold mk2; dsimp only; first | rw [if_pos h82, if_pos h100] | rw [if_neg h82, if_pos h100] | rw [if_pos h82, if_neg h100] | rw [if_neg h82, if_neg h100]))] at ih9
                  exact ih9
              · refine ev_aload_n dX6_mergeNicks_85 rfl 4 rfl ?_
                refine ev_iload dX6_mergeNicks_86 3 rfl ?_
                refine ev_iload dX6_mergeNicks_88 8 rfl ?_
                refine ev_callVv dX6_mergeNicks_90 M_X6_75 Y_X6_removeUser [.int (nI u16), .int (nI k)] (c_X6_removeUser u16 k (by omega) (by omega)) (by decide) (Nat.le_of_ble_eq_true rfl) (by decide) sh_77 rfl rfl rfl (Nat.le_of_ble_eq_true rfl) ?_
                refine ev_st (σ' := av_set σ 78 (mrm ((mkn (σ 78) c A B k).2) u16 k)) (by first | rfl | (funext a; by_cases q78 : a = 78; (next => subst q78; rfl); simp only [av_set, q78, if_false]) | exact av_set_set _ _ _ _ | (funext a; unfold av_set; (repeat' split) <;> first | rfl | (exfalso; omega)) | (funext a; simp only [av_set, cpS]; (repeat' split) <;> first | rfl | (exfalso; omega))) ?_
                refine ev_iinc (lv' := [(3, .int (nI ((mkn (σ 78) c A B k).1 + 1))), (8, .int (((mkn (σ 78) c A B k).2) (10 + (10 * u25 + k)))), (7, .int (((mkn (σ 78) c A B k).2) (10 + (10 * u16 + k)))), (6, .int (nI u25)), (5, .int (nI u16)), (0, .ref 77), (1, .int A), (2, .int B), (4, .int (nI k))]) dX6_mergeNicks_93 7 rfl (nI_inc ((mkn (σ 78) c A B k).1)) (by decide) rfl ?_
                refine ev_iload dX6_mergeNicks_96 1 rfl ?_
                refine ev_iload dX6_mergeNicks_98 2 rfl ?_
                refine ev_icmp_lt (tgt := 114) dX6_mergeNicks_100 (by decide) (fun h100 => ?_) (fun h100 => ?_)
                · refine ev_iinc (lv' := [(4, .int (nI (k + 1))), (3, .int (nI ((mkn (σ 78) c A B k).1 + 1))), (8, .int (((mkn (σ 78) c A B k).2) (10 + (10 * u25 + k)))), (7, .int (((mkn (σ 78) c A B k).2) (10 + (10 * u16 + k)))), (6, .int (nI u25)), (5, .int (nI u16)), (0, .ref 77), (1, .int A), (2, .int B)]) dX6_mergeNicks_114 8 rfl (nI_inc k) (by decide) rfl ?_
                  refine ev_goto (tgt := 5) dX6_mergeNicks_117 (by decide) ?_
                  refine ev_lv (lv' := [(0, .ref 77), (1, .int A), (2, .int B), (3, .int (nI ((mkn (σ 78) c A B k).1 + 1))), (4, .int (nI (k + 1)))]) [6, 7, 8, 1, 0] rfl ?_
                  have ih9 : av_Ev l RX6 cX6_mergeNicks 9 (some .int) av_E0 3 5 [(0, .ref 77), (1, .int A), (2, .int B), (3, .int (nI ((mkn (σ 78) c A B (k + 1)).1))), (4, .int (nI (k + 1)))] [] (av_set σ 78 ((mkn (σ 78) c A B (k + 1)).2)) Q := ihk
                  rw [show nI ((mkn (σ 78) c A B (k + 1)).1) = nI ((mkn (σ 78) c A B k).1 + 1) from (by show nI (mkF c A B k (mkn (σ 78) c A B k)).1 = _; first | rw [mkF_n1 ho16] | rw [mkF_n2 ho25] | (rw [mkF_ss ho16 ho25]; unfold mk2; dsimp only; first | rw [if_pos h82, if_pos h100] | rw [if_neg h82, if_pos h100] | rw [if_pos h82, if_neg h100] | rw [if_neg h82, if_neg h100]))] at ih9
                  rw [show av_set σ 78 ((mkn (σ 78) c A B (k + 1)).2) = av_set σ 78 (mrm ((mkn (σ 78) c A B k).2) u16 k) from (by show av_set σ 78 (mkF c A B k (mkn (σ 78) c A B k)).2 = _; first | rw [mkF_n1 ho16] | rw [mkF_n2 ho25] | (rw [mkF_ss ho16 ho25]; unfold mk2; dsimp only; first | rw [if_pos h82, if_pos h100] | rw [if_neg h82, if_pos h100] | rw [if_pos h82, if_neg h100] | rw [if_neg h82, if_neg h100]))] at ih9
                  exact ih9
                · refine ev_aload_n dX6_mergeNicks_103 rfl 5 rfl ?_
                  refine ev_iload dX6_mergeNicks_104 3 rfl ?_
                  refine ev_iload dX6_mergeNicks_106 8 rfl ?_
                  refine ev_callVv dX6_mergeNicks_108 M_X6_75 Y_X6_removeUser [.int (nI u25), .int (nI k)] (c_X6_removeUser u25 k (by omega) (by omega)) (by decide) (Nat.le_of_ble_eq_true rfl) (by decide) sh_77 rfl rfl rfl (Nat.le_of_ble_eq_true rfl) ?_
                  refine ev_st (σ' := av_set σ 78 (mrm (mrm ((mkn (σ 78) c A B k).2) u16 k) u25 k)) (by first | rfl | (funext a; by_cases q78 : a = 78; (next => subst q78; rfl); simp only [av_set, q78, if_false]) | exact av_set_set _ _ _ _ | (funext a; unfold av_set; (repeat' split) <;> first | rfl | (exfalso; omega)) | (funext a; simp only [av_set, cpS]; (repeat' split) <;> first | rfl | (exfalso; omega))) ?_
                  refine ev_iinc (lv' := [(3, .int (nI ((mkn (σ 78) c A B k).1 + 1 + 1))), (8, .int (((mkn (σ 78) c A B k).2) (10 + (10 * u25 + k)))), (7, .int (((mkn (σ 78) c A B k).2) (10 + (10 * u16 + k)))), (6, .int (nI u25)), (5, .int (nI u16)), (0, .ref 77), (1, .int A), (2, .int B), (4, .int (nI k))]) dX6_mergeNicks_111 0 rfl (nI_inc ((mkn (σ 78) c A B k).1 + 1)) (by decide) rfl ?_
                  refine ev_iinc (lv' := [(4, .int (nI (k + 1))), (3, .int (nI ((mkn (σ 78) c A B k).1 + 1 + 1))), (8, .int (((mkn (σ 78) c A B k).2) (10 + (10 * u25 + k)))), (7, .int (((mkn (σ 78) c A B k).2) (10 + (10 * u16 + k)))), (6, .int (nI u25)), (5, .int (nI u16)), (0, .ref 77), (1, .int A), (2, .int B)]) dX6_mergeNicks_114 8 rfl (nI_inc k) (by decide) rfl ?_
                  refine ev_goto (tgt := 5) dX6_mergeNicks_117 (by decide) ?_
                  refine ev_lv (lv' := [(0, .ref 77), (1, .int A), (2, .int B), (3, .int (nI ((mkn (σ 78) c A B k).1 + 1 + 1))), (4, .int (nI (k + 1)))]) [6, 7, 8, 1, 0] rfl ?_
                  have ih9 : av_Ev l RX6 cX6_mergeNicks 9 (some .int) av_E0 3 5 [(0, .ref 77), (1, .int A), (2, .int B), (3, .int (nI ((mkn (σ 78) c A B (k + 1)).1))), (4, .int (nI (k + 1)))] [] (av_set σ 78 ((mkn (σ 78) c A B (k + 1)).2)) Q := ihk
                  rw [show nI ((mkn (σ 78) c A B (k + 1)).1) = nI ((mkn (σ 78) c A B k).1 + 1 + 1) from (by show nI (mkF c A B k (mkn (σ 78) c A B k)).1 = _; first | rw [mkF_n1 ho16] | rw [mkF_n2 ho25] | (rw [mkF_ss ho16 ho25]; unfold mk2; dsimp only; first | rw [if_pos h82, if_pos h100] | rw [if_neg h82, if_pos h100] | rw [if_pos h82, if_neg h100] | rw [if_neg h82, if_neg h100]))] at ih9
                  rw [show av_set σ 78 ((mkn (σ 78) c A B (k + 1)).2) = av_set σ 78 (mrm (mrm ((mkn (σ 78) c A B k).2) u16 k) u25 k) from (by show av_set σ 78 (mkF c A B k (mkn (σ 78) c A B k)).2 = _; first | rw [mkF_n1 ho16] | rw [mkF_n2 ho25] | (rw [mkF_ss ho16 ho25]; unfold mk2; dsimp only; first | rw [if_pos h82, if_pos h100] | rw [if_neg h82, if_pos h100] | rw [if_pos h82, if_neg h100] | rw [if_neg h82, if_neg h100]))] at ih9
                  exact ih9

set_option maxRecDepth 100000 in
set_option maxHeartbeats 1000000 in
theorem c_X6_depriveAll {l : Launch} {σ : av_S} (S : Int32) (ch : Nat) (c : Nat) (hch : ch < 4) (hcn : σ 78 0 = nI c) (hc1 : 1 ≤ c) (hc6 : c ≤ 6) : av_M l RX6 cX6_depriveAll 5 none 2 [.ref 77, .int S, .int (nI ch)] σ none (av_set σ 78 (dpr (σ 78) c S ch)) := by
  intro Q hQ
  show av_Ev l RX6 cX6_depriveAll 5 none av_E0 2 0 [(0, .ref 77), (1, .int S), (2, .int (nI ch))] [] σ Q
  refine ev_aload_n dX6_depriveAll_0 rfl 0 rfl ?_
  refine ev_getR dX6_depriveAll_1 C_X6 L_X6_7 (by decide) (by decide) sh_77 rfl ?_
  refine ev_iconst dX6_depriveAll_4 (v := nI 2) (by decide) ?_
  refine ev_dup2_ia dX6_depriveAll_5 ?_
  refine ev_iald (e := 2) (v := σ 78 2) dX6_depriveAll_6 (by decide) sh_78 (by omega) (by decide) rfl ?_
  refine ev_aload_n dX6_depriveAll_7 rfl 0 rfl ?_
  refine ev_iload_n dX6_depriveAll_8 rfl 1 rfl ?_
  refine ev_sipush dX6_depriveAll_9 (v := nI 130) (by decide) ?_
  refine ev_iload_n dX6_depriveAll_12 rfl 2 rfl ?_
  refine ev_callVi (x := mni (mj (σ 78) 130 ch) c S) dX6_depriveAll_13 M_X6_65 Y_X6_nicksIn [.int S, .int (nI 130), .int (nI ch)] (c_X6_nicksIn_o S ch c (by first | exact hcn | omega) (by first | exact hc1 | omega) (by first | exact hc6 | omega) (by omega)) (by decide) (Nat.le_of_ble_eq_true rfl) (by decide) sh_77 rfl rfl rfl (Nat.le_of_ble_eq_true rfl) ?_
  refine ev_callSi (x := nI (cb 10 (mni (mj (σ 78) 130 ch) c S))) dX6_depriveAll_16 (Or.inl M_X6_79) Y_X6_bitCount [.int (mni (mj (σ 78) 130 ch) c S)] (c_X6_bitCount (mni (mj (σ 78) 130 ch) c S) ) (by decide) (Nat.le_of_ble_eq_true rfl) rfl rfl (Nat.le_of_ble_eq_true rfl) ?_
  refine ev_iadd dX6_depriveAll_19 ?_
  refine ev_iast (e := 2) dX6_depriveAll_20 (by decide) sh_78 (by omega) (by decide) ?_
  refine ev_iconst dX6_depriveAll_21 (v := nI 0) (by decide) ?_
  refine ev_istore_n (lv' := [(3, .int (nI 0)), (0, .ref 77), (1, .int S), (2, .int (nI ch))]) dX6_depriveAll_22 rfl (by decide) rfl ?_
  refine ev_lv (lv' := [(0, .ref 77), (1, .int S), (2, .int (nI ch)), (3, .int (nI 0))]) [1, 2, 3, 0] rfl ?_
  refine ev_st (σ' := av_set σ 78 (fo 0 (fun h N => fo 10 (fun n N => dpF S ch h n N) N) (dp0 (σ 78) c S ch))) (by simp only [fo_0] <;> first | rfl | (funext a; unfold av_set; (repeat' split) <;> first | rfl | (subst_vars; rfl) | (exfalso; omega))) ?_
  refine loop_up (fun k => av_Ev l RX6 cX6_depriveAll 5 none av_E0 2 23 [(0, .ref 77), (1, .int S), (2, .int (nI ch)), (3, .int (nI k))] [] (av_set σ 78 (fo k (fun h N => fo 10 (fun n N => dpF S ch h n N) N) (dp0 (σ 78) c S ch))) Q) c ?_ ?_
  · show av_Ev l RX6 cX6_depriveAll 5 none av_E0 2 23 [(0, .ref 77), (1, .int S), (2, .int (nI ch)), (3, .int (nI c))] [] (av_set σ 78 (fo c (fun h N => fo 10 (fun n N => dpF S ch h n N) N) (dp0 (σ 78) c S ch))) Q
    refine ev_iload_n dX6_depriveAll_23 rfl 3 rfl ?_
    refine ev_aload_n dX6_depriveAll_24 rfl 0 rfl ?_
    refine ev_getR dX6_depriveAll_25 C_X6 L_X6_7 (by decide) (by decide) sh_77 rfl ?_
    refine ev_iconst dX6_depriveAll_28 (v := nI 0) (by decide) ?_
    refine ev_iald (e := 0) (v := (fo c (fun h N => fo 10 (fun n N => dpF S ch h n N) N) (dp0 (σ 78) c S ch)) 0) dX6_depriveAll_29 (by decide) sh_78 (by omega) (by decide) (by first | rfl | (simp only [av_set, cpS]; (repeat' split) <;> first | rfl | (exfalso; omega))) ?_
    refine ev_top (v := nI c) ((dpk_lo c (by decide)).trans ((dp0_ne (by decide)).trans hcn)) ?_
    refine ev_ncmp_ge (tgt := 90) dX6_depriveAll_30 (by decide) (by omega) (by omega) (fun h30 => ?_) (fun h30 => ?_)
    · exact ev_return dX6_depriveAll_90 rfl (leafV hQ rfl)
    · exact absurd h30 (by omega)
  · intro k hk ihk
    show av_Ev l RX6 cX6_depriveAll 5 none av_E0 2 23 [(0, .ref 77), (1, .int S), (2, .int (nI ch)), (3, .int (nI k))] [] (av_set σ 78 (fo k (fun h N => fo 10 (fun n N => dpF S ch h n N) N) (dp0 (σ 78) c S ch))) Q
    refine ev_iload_n dX6_depriveAll_23 rfl 3 rfl ?_
    refine ev_aload_n dX6_depriveAll_24 rfl 0 rfl ?_
    refine ev_getR dX6_depriveAll_25 C_X6 L_X6_7 (by decide) (by decide) sh_77 rfl ?_
    refine ev_iconst dX6_depriveAll_28 (v := nI 0) (by decide) ?_
    refine ev_iald (e := 0) (v := (fo k (fun h N => fo 10 (fun n N => dpF S ch h n N) N) (dp0 (σ 78) c S ch)) 0) dX6_depriveAll_29 (by decide) sh_78 (by omega) (by decide) (by first | rfl | (simp only [av_set, cpS]; (repeat' split) <;> first | rfl | (exfalso; omega))) ?_
    refine ev_top (v := nI c) ((dpk_lo k (by decide)).trans ((dp0_ne (by decide)).trans hcn)) ?_
    refine ev_ncmp_ge (tgt := 90) dX6_depriveAll_30 (by decide) (by omega) (by omega) (fun h30 => ?_) (fun h30 => ?_)
    · exact absurd h30 (by omega)
    · refine ev_iconst dX6_depriveAll_33 (v := nI 0) (by decide) ?_
      refine ev_istore (lv' := [(4, .int (nI 0)), (0, .ref 77), (1, .int S), (2, .int (nI ch)), (3, .int (nI k))]) dX6_depriveAll_34 (by decide) rfl ?_
      refine ev_lv (lv' := [(0, .ref 77), (1, .int S), (2, .int (nI ch)), (3, .int (nI k)), (4, .int (nI 0))]) [1, 2, 3, 4, 0] rfl ?_
      refine ev_st (σ' := av_set σ 78 (fo 0 (fun n N => dpF S ch k n N) (fo k (fun h N => fo 10 (fun n N => dpF S ch h n N) N) (dp0 (σ 78) c S ch)))) (by simp only [fo_0] <;> first | rfl | (funext a; unfold av_set; (repeat' split) <;> first | rfl | (subst_vars; rfl) | (exfalso; omega))) ?_
      refine loop_up (fun n => av_Ev l RX6 cX6_depriveAll 5 none av_E0 2 36 [(0, .ref 77), (1, .int S), (2, .int (nI ch)), (3, .int (nI k)), (4, .int (nI n))] [] (av_set σ 78 (fo n (fun n N => dpF S ch k n N) (fo k (fun h N => fo 10 (fun n N => dpF S ch h n N) N) (dp0 (σ 78) c S ch)))) Q) 10 ?_ ?_
      · show av_Ev l RX6 cX6_depriveAll 5 none av_E0 2 36 [(0, .ref 77), (1, .int S), (2, .int (nI ch)), (3, .int (nI k)), (4, .int (nI 10))] [] (av_set σ 78 (fo 10 (fun n N => dpF S ch k n N) (fo k (fun h N => fo 10 (fun n N => dpF S ch h n N) N) (dp0 (σ 78) c S ch)))) Q
        refine ev_iload dX6_depriveAll_36 4 rfl ?_
        refine ev_bipush dX6_depriveAll_38 (v := nI 10) (by decide) ?_
        refine ev_ncmp_ge (tgt := 84) dX6_depriveAll_40 (by decide) (by omega) (by omega) (fun h40 => ?_) (fun h40 => ?_)
        · refine ev_iinc (lv' := [(3, .int (nI (k + 1))), (0, .ref 77), (1, .int S), (2, .int (nI ch)), (4, .int (nI 10))]) dX6_depriveAll_84 3 rfl (nI_inc k) (by decide) rfl ?_
          refine ev_goto (tgt := 23) dX6_depriveAll_87 (by decide) ?_
          refine ev_lv (lv' := [(0, .ref 77), (1, .int S), (2, .int (nI ch)), (3, .int (nI (k + 1)))]) [1, 2, 3, 0] rfl ?_
          have ih9 : av_Ev l RX6 cX6_depriveAll 5 none av_E0 2 23 [(0, .ref 77), (1, .int S), (2, .int (nI ch)), (3, .int (nI (k + 1)))] [] (av_set σ 78 (fo (k + 1) (fun h N => fo 10 (fun n N => dpF S ch h n N) N) (dp0 (σ 78) c S ch))) Q := ihk
          rw [show av_set σ 78 (fo (k + 1) (fun h N => fo 10 (fun n N => dpF S ch h n N) N) (dp0 (σ 78) c S ch)) = av_set σ 78 (fo 10 (fun n N => dpF S ch k n N) (fo k (fun h N => fo 10 (fun n N => dpF S ch h n N) N) (dp0 (σ 78) c S ch))) from rfl] at ih9
          exact ih9
        · exact absurd h40 (by omega)
      · intro n hn ihn
        show av_Ev l RX6 cX6_depriveAll 5 none av_E0 2 36 [(0, .ref 77), (1, .int S), (2, .int (nI ch)), (3, .int (nI k)), (4, .int (nI n))] [] (av_set σ 78 (fo n (fun n N => dpF S ch k n N) (fo k (fun h N => fo 10 (fun n N => dpF S ch h n N) N) (dp0 (σ 78) c S ch)))) Q
        refine ev_iload dX6_depriveAll_36 4 rfl ?_
        refine ev_bipush dX6_depriveAll_38 (v := nI 10) (by decide) ?_
        refine ev_ncmp_ge (tgt := 84) dX6_depriveAll_40 (by decide) (by omega) (by omega) (fun h40 => ?_) (fun h40 => ?_)
        · exact absurd h40 (by omega)
        · refine ev_aload_n dX6_depriveAll_43 rfl 0 rfl ?_
          refine ev_getR dX6_depriveAll_44 C_X6 L_X6_7 (by decide) (by decide) sh_77 rfl ?_
          refine ev_sipush dX6_depriveAll_47 (v := nI 130) (by decide) ?_
          refine ev_iload_n dX6_depriveAll_50 rfl 3 rfl ?_
          refine ev_iload dX6_depriveAll_51 4 rfl ?_
          refine ev_callSi (x := nI (10 * k + n)) dX6_depriveAll_53 (Or.inl M_X6_58) Y_X6_userCell [.int (nI k), .int (nI n)] (c_X6_userCell k n ) (by decide) (Nat.le_of_ble_eq_true rfl) rfl rfl (Nat.le_of_ble_eq_true rfl) ?_
          refine ev_iadd dX6_depriveAll_56 ?_
          refine ev_top (v := nI (130 + (10 * k + n))) (nI_add _ _) ?_
          refine ev_dup2_ia dX6_depriveAll_57 ?_
          refine ev_iald (e := 130 + (10 * k + n)) (v := (fo n (fun n N => dpF S ch k n N) (fo k (fun h N => fo 10 (fun n N => dpF S ch h n N) N) (dp0 (σ 78) c S ch))) (130 + (10 * k + n))) dX6_depriveAll_58 (by decide) sh_78 (by omega) (by decide) (by first | rfl | (simp only [av_set, cpS]; (repeat' split) <;> first | rfl | (exfalso; omega))) ?_
          refine ev_iload_n dX6_depriveAll_59 rfl 1 rfl ?_
          refine ev_iload_n dX6_depriveAll_60 rfl 3 rfl ?_
          refine ev_callSi (x := b2i (tb S k)) dX6_depriveAll_61 (Or.inl M_X6_50) Y_X6_has [.int S, .int (nI k)] (c_X6_has S k (by omega)) (by decide) (Nat.le_of_ble_eq_true rfl) rfl rfl (Nat.le_of_ble_eq_true rfl) ?_
          refine ev_ifb_eq (tgt := 75) dX6_depriveAll_64 (by decide) (fun h64 => ?_) (fun h64 => ?_)
          · refine ev_iconst dX6_depriveAll_75 (v := (-1)) (by decide) ?_
            refine ev_iand dX6_depriveAll_76 ?_
            refine ev_iast (e := 130 + (10 * k + n)) dX6_depriveAll_77 (by decide) sh_78 (by omega) (by decide) ?_
            refine ev_st (σ' := av_set σ 78 (upd (fo n (fun n N => dpF S ch k n N) (fo k (fun h N => fo 10 (fun n N => dpF S ch h n N) N) (dp0 (σ 78) c S ch))) (130 + (10 * k + n)) (((fo n (fun n N => dpF S ch k n N) (fo k (fun h N => fo 10 (fun n N => dpF S ch h n N) N) (dp0 (σ 78) c S ch))) (130 + (10 * k + n))) &&& (-1)))) (by first | rfl | (funext a; by_cases q78 : a = 78; (next => subst q78; rfl); simp only [av_set, q78, if_false]) | exact av_set_set _ _ _ _ | (funext a; unfold av_set; (repeat' split) <;> first | rfl | (exfalso; omega)) | (funext a; simp only [av_set, cpS]; (repeat' split) <;> first | rfl | (exfalso; omega))) ?_
            refine ev_iinc (lv' := [(4, .int (nI (n + 1))), (0, .ref 77), (1, .int S), (2, .int (nI ch)), (3, .int (nI k))]) dX6_depriveAll_78 4 rfl (nI_inc n) (by decide) rfl ?_
            refine ev_goto (tgt := 36) dX6_depriveAll_81 (by decide) ?_
            refine ev_lv (lv' := [(0, .ref 77), (1, .int S), (2, .int (nI ch)), (3, .int (nI k)), (4, .int (nI (n + 1)))]) [1, 2, 3, 4, 0] rfl ?_
            have ih9 : av_Ev l RX6 cX6_depriveAll 5 none av_E0 2 36 [(0, .ref 77), (1, .int S), (2, .int (nI ch)), (3, .int (nI k)), (4, .int (nI (n + 1)))] [] (av_set σ 78 (fo (n + 1) (fun n N => dpF S ch k n N) (fo k (fun h N => fo 10 (fun n N => dpF S ch h n N) N) (dp0 (σ 78) c S ch)))) Q := ihn
            rw [show av_set σ 78 (fo (n + 1) (fun n N => dpF S ch k n N) (fo k (fun h N => fo 10 (fun n N => dpF S ch h n N) N) (dp0 (σ 78) c S ch))) = av_set σ 78 (upd (fo n (fun n N => dpF S ch k n N) (fo k (fun h N => fo 10 (fun n N => dpF S ch h n N) N) (dp0 (σ 78) c S ch))) (130 + (10 * k + n)) (((fo n (fun n N => dpF S ch k n N) (fo k (fun h N => fo 10 (fun n N => dpF S ch h n N) N) (dp0 (σ 78) c S ch))) (130 + (10 * k + n))) &&& (-1))) from (by rw [fo_s]; show av_set σ 78 (dpF S ch k n _) = _; first | rw [dpF_t h64] | rw [dpF_f h64])] at ih9
            exact ih9
          · refine ev_iconst dX6_depriveAll_67 (v := nI 1) (by decide) ?_
            refine ev_iload_n dX6_depriveAll_68 rfl 2 rfl ?_
            refine ev_ishl dX6_depriveAll_69 ?_
            refine ev_top (v := bt ch) rfl ?_
            refine ev_iconst dX6_depriveAll_70 (v := (-1)) (by decide) ?_
            refine ev_ixor dX6_depriveAll_71 ?_
            refine ev_goto (tgt := 76) dX6_depriveAll_72 (by decide) ?_
            refine ev_iand dX6_depriveAll_76 ?_
            refine ev_iast (e := 130 + (10 * k + n)) dX6_depriveAll_77 (by decide) sh_78 (by omega) (by decide) ?_
            refine ev_st (σ' := av_set σ 78 (upd (fo n (fun n N => dpF S ch k n N) (fo k (fun h N => fo 10 (fun n N => dpF S ch h n N) N) (dp0 (σ 78) c S ch))) (130 + (10 * k + n)) (((fo n (fun n N => dpF S ch k n N) (fo k (fun h N => fo 10 (fun n N => dpF S ch h n N) N) (dp0 (σ 78) c S ch))) (130 + (10 * k + n))) &&& ((bt ch) ^^^ (-1))))) (by first | rfl | (funext a; by_cases q78 : a = 78; (next => subst q78; rfl); simp only [av_set, q78, if_false]) | exact av_set_set _ _ _ _ | (funext a; unfold av_set; (repeat' split) <;> first | rfl | (exfalso; omega)) | (funext a; simp only [av_set, cpS]; (repeat' split) <;> first | rfl | (exfalso; omega))) ?_
            refine ev_iinc (lv' := [(4, .int (nI (n + 1))), (0, .ref 77), (1, .int S), (2, .int (nI ch)), (3, .int (nI k))]) dX6_depriveAll_78 4 rfl (nI_inc n) (by decide) rfl ?_
            refine ev_goto (tgt := 36) dX6_depriveAll_81 (by decide) ?_
            refine ev_lv (lv' := [(0, .ref 77), (1, .int S), (2, .int (nI ch)), (3, .int (nI k)), (4, .int (nI (n + 1)))]) [1, 2, 3, 4, 0] rfl ?_
            have ih9 : av_Ev l RX6 cX6_depriveAll 5 none av_E0 2 36 [(0, .ref 77), (1, .int S), (2, .int (nI ch)), (3, .int (nI k)), (4, .int (nI (n + 1)))] [] (av_set σ 78 (fo (n + 1) (fun n N => dpF S ch k n N) (fo k (fun h N => fo 10 (fun n N => dpF S ch h n N) N) (dp0 (σ 78) c S ch)))) Q := ihn
            rw [show av_set σ 78 (fo (n + 1) (fun n N => dpF S ch k n N) (fo k (fun h N => fo 10 (fun n N => dpF S ch h n N) N) (dp0 (σ 78) c S ch))) = av_set σ 78 (upd (fo n (fun n N => dpF S ch k n N) (fo k (fun h N => fo 10 (fun n N => dpF S ch h n N) N) (dp0 (σ 78) c S ch))) (130 + (10 * k + n)) (((fo n (fun n N => dpF S ch k n N) (fo k (fun h N => fo 10 (fun n N => dpF S ch h n N) N) (dp0 (σ 78) c S ch))) (130 + (10 * k + n))) &&& ((bt ch) ^^^ (-1)))) from (by rw [fo_s]; show av_set σ 78 (dpF S ch k n _) = _; first | rw [dpF_t h64] | rw [dpF_f h64])] at ih9
            exact ih9

set_option maxRecDepth 100000 in
set_option maxHeartbeats 1000000 in
theorem c_X6_mergeChannel {l : Launch} {σ : av_S} (a : Nat) (b : Nat) (ch : Nat) (c : Nat) (ha : a < 6) (hb : b < 6) (hch : ch < 4) (hcn : σ 78 0 = nI c) (hc1 : 1 ≤ c) (hc6 : c ≤ 6) : av_M l RX6 cX6_mergeChannel 12 none 3 [.ref 77, .int (nI a), .int (nI b), .int (nI ch)] σ none (av_set σ 78 (mmc (σ 78) c a b ch)) := by
  intro Q hQ
  show av_Ev l RX6 cX6_mergeChannel 12 none av_E0 3 0 [(0, .ref 77), (1, .int (nI a)), (2, .int (nI b)), (3, .int (nI ch))] [] σ Q
  refine ev_aload_n dX6_mergeChannel_0 rfl 0 rfl ?_
  refine ev_iload_n dX6_mergeChannel_1 rfl 1 rfl ?_
  refine ev_callVi (x := mnet (σ 78) c a) dX6_mergeChannel_2 M_X6_54 Y_X6_network [.int (nI a)] (c_X6_network a c (by omega) (by first | exact hcn | omega) (by first | exact hc1 | omega) (by first | exact hc6 | omega)) (by decide) (Nat.le_of_ble_eq_true rfl) (by decide) sh_77 rfl rfl rfl (Nat.le_of_ble_eq_true rfl) ?_
  refine ev_istore (lv' := [(4, .int (mnet (σ 78) c a)), (0, .ref 77), (1, .int (nI a)), (2, .int (nI b)), (3, .int (nI ch))]) dX6_mergeChannel_5 (by decide) rfl ?_
  refine ev_aload_n dX6_mergeChannel_7 rfl 1 rfl ?_
  refine ev_iload_n dX6_mergeChannel_8 rfl 3 rfl ?_
  refine ev_callVi (x := mnet (σ 78) c b) dX6_mergeChannel_9 M_X6_54 Y_X6_network [.int (nI b)] (c_X6_network b c (by omega) (by first | exact hcn | omega) (by first | exact hc1 | omega) (by first | exact hc6 | omega)) (by decide) (Nat.le_of_ble_eq_true rfl) (by decide) sh_77 rfl rfl rfl (Nat.le_of_ble_eq_true rfl) ?_
  refine ev_istore (lv' := [(5, .int (mnet (σ 78) c b)), (4, .int (mnet (σ 78) c a)), (0, .ref 77), (1, .int (nI a)), (2, .int (nI b)), (3, .int (nI ch))]) dX6_mergeChannel_12 (by decide) rfl ?_
  refine ev_aload_n dX6_mergeChannel_14 rfl 2 rfl ?_
  refine ev_iload dX6_mergeChannel_15 1 rfl ?_
  refine ev_iload_n dX6_mergeChannel_17 rfl 5 rfl ?_
  refine ev_callVi (x := mni (mj (σ 78) 70 ch) c (mnet (σ 78) c a)) dX6_mergeChannel_18 M_X6_82 Y_X6_membersIn [.int (mnet (σ 78) c a), .int (nI ch)] (c_X6_membersIn (mnet (σ 78) c a) ch c (by first | exact hcn | omega) (by first | exact hc1 | omega) (by first | exact hc6 | omega) (by omega)) (by decide) (Nat.le_of_ble_eq_true rfl) (by decide) sh_77 rfl rfl rfl (Nat.le_of_ble_eq_true rfl) ?_
  refine ev_if_eq (tgt := 28) dX6_mergeChannel_21 (by decide) (fun h21 => ?_) (fun h21 => ?_)
  · refine ev_iconst dX6_mergeChannel_28 (v := nI 0) (by decide) ?_
    refine ev_istore (lv' := [(6, .int (nI 0)), (5, .int (mnet (σ 78) c b)), (4, .int (mnet (σ 78) c a)), (0, .ref 77), (1, .int (nI a)), (2, .int (nI b)), (3, .int (nI ch))]) dX6_mergeChannel_29 (by decide) rfl ?_
    refine ev_aload_n dX6_mergeChannel_31 rfl 3 rfl ?_
    refine ev_iload dX6_mergeChannel_32 1 rfl ?_
    refine ev_iload_n dX6_mergeChannel_34 rfl 6 rfl ?_
    refine ev_callVi (x := mni (mj (σ 78) 70 ch) c (mnet (σ 78) c b)) dX6_mergeChannel_35 M_X6_82 Y_X6_membersIn [.int (mnet (σ 78) c b), .int (nI ch)] (c_X6_membersIn (mnet (σ 78) c b) ch c (by first | exact hcn | omega) (by first | exact hc1 | omega) (by first | exact hc6 | omega) (by omega)) (by decide) (Nat.le_of_ble_eq_true rfl) (by decide) sh_77 rfl rfl rfl (Nat.le_of_ble_eq_true rfl) ?_
    refine ev_if_eq (tgt := 45) dX6_mergeChannel_38 (by decide) (fun h38 => ?_) (fun h38 => ?_)
    · refine ev_iconst dX6_mergeChannel_45 (v := nI 0) (by decide) ?_
      refine ev_istore (lv' := [(7, .int (nI 0)), (6, .int (nI 0)), (5, .int (mnet (σ 78) c b)), (4, .int (mnet (σ 78) c a)), (0, .ref 77), (1, .int (nI a)), (2, .int (nI b)), (3, .int (nI ch))]) dX6_mergeChannel_46 (by decide) rfl ?_
      refine ev_aload_n dX6_mergeChannel_48 rfl 4 rfl ?_
      refine ev_getR dX6_mergeChannel_49 C_X6 L_X6_7 (by decide) (by decide) sh_77 rfl ?_
      refine ev_sipush dX6_mergeChannel_52 (v := nI 190) (by decide) ?_
      refine ev_iconst dX6_mergeChannel_55 (v := nI 4) (by decide) ?_
      refine ev_iload_n dX6_mergeChannel_56 rfl 5 rfl ?_
      refine ev_imul dX6_mergeChannel_57 ?_
      refine ev_top (v := nI (4 * a)) (pk_mul _ _) ?_
      refine ev_iadd dX6_mergeChannel_58 ?_
      refine ev_top (v := nI (190 + (4 * a))) (nI_add _ _) ?_
      refine ev_iload_n dX6_mergeChannel_59 rfl 7 rfl ?_
      refine ev_iadd dX6_mergeChannel_60 ?_
      refine ev_top (v := nI (190 + (4 * a) + ch)) (nI_add _ _) ?_
      refine ev_iald (e := 190 + (4 * a) + ch) (v := σ 78 (190 + (4 * a) + ch)) dX6_mergeChannel_61 (by decide) sh_78 (by omega) (by decide) rfl ?_
      refine ev_istore (lv' := [(8, .int (σ 78 (190 + (4 * a) + ch))), (7, .int (nI 0)), (6, .int (nI 0)), (5, .int (mnet (σ 78) c b)), (4, .int (mnet (σ 78) c a)), (0, .ref 77), (1, .int (nI a)), (2, .int (nI b)), (3, .int (nI ch))]) dX6_mergeChannel_62 (by decide) rfl ?_
      refine ev_aload_n dX6_mergeChannel_64 rfl 5 rfl ?_
      refine ev_getR dX6_mergeChannel_65 C_X6 L_X6_7 (by decide) (by decide) sh_77 rfl ?_
      refine ev_sipush dX6_mergeChannel_68 (v := nI 190) (by decide) ?_
      refine ev_iconst dX6_mergeChannel_71 (v := nI 4) (by decide) ?_
      refine ev_iload_n dX6_mergeChannel_72 rfl 7 rfl ?_
      refine ev_imul dX6_mergeChannel_73 ?_
      refine ev_top (v := nI (4 * b)) (pk_mul _ _) ?_
      refine ev_iadd dX6_mergeChannel_74 ?_
      refine ev_top (v := nI (190 + (4 * b))) (nI_add _ _) ?_
      refine ev_iload_n dX6_mergeChannel_75 rfl 8 rfl ?_
      refine ev_iadd dX6_mergeChannel_76 ?_
      refine ev_top (v := nI (190 + (4 * b) + ch)) (nI_add _ _) ?_
      refine ev_iald (e := 190 + (4 * b) + ch) (v := σ 78 (190 + (4 * b) + ch)) dX6_mergeChannel_77 (by decide) sh_78 (by omega) (by decide) rfl ?_
      refine ev_istore (lv' := [(9, .int (σ 78 (190 + (4 * b) + ch))), (8, .int (σ 78 (190 + (4 * a) + ch))), (7, .int (nI 0)), (6, .int (nI 0)), (5, .int (mnet (σ 78) c b)), (4, .int (mnet (σ 78) c a)), (0, .ref 77), (1, .int (nI a)), (2, .int (nI b)), (3, .int (nI ch))]) dX6_mergeChannel_78 (by decide) rfl ?_
      refine ev_aload_n dX6_mergeChannel_80 rfl 6 rfl ?_
      refine ev_getR dX6_mergeChannel_81 C_X6 L_X6_7 (by decide) (by decide) sh_77 rfl ?_
      refine ev_sipush dX6_mergeChannel_84 (v := nI 214) (by decide) ?_
      refine ev_iconst dX6_mergeChannel_87 (v := nI 4) (by decide) ?_
      refine ev_iload_n dX6_mergeChannel_88 rfl 7 rfl ?_
      refine ev_imul dX6_mergeChannel_89 ?_
      refine ev_top (v := nI (4 * a)) (pk_mul _ _) ?_
      refine ev_iadd dX6_mergeChannel_90 ?_
      refine ev_top (v := nI (214 + (4 * a))) (nI_add _ _) ?_
      refine ev_iload_n dX6_mergeChannel_91 rfl 9 rfl ?_
      refine ev_iadd dX6_mergeChannel_92 ?_
      refine ev_top (v := nI (214 + (4 * a) + ch)) (nI_add _ _) ?_
      refine ev_iald (e := 214 + (4 * a) + ch) (v := σ 78 (214 + (4 * a) + ch)) dX6_mergeChannel_93 (by decide) sh_78 (by omega) (by decide) rfl ?_
      refine ev_istore (lv' := [(10, .int (σ 78 (214 + (4 * a) + ch))), (9, .int (σ 78 (190 + (4 * b) + ch))), (8, .int (σ 78 (190 + (4 * a) + ch))), (7, .int (nI 0)), (6, .int (nI 0)), (5, .int (mnet (σ 78) c b)), (4, .int (mnet (σ 78) c a)), (0, .ref 77), (1, .int (nI a)), (2, .int (nI b)), (3, .int (nI ch))]) dX6_mergeChannel_94 (by decide) rfl ?_
      refine ev_aload_n dX6_mergeChannel_96 rfl 7 rfl ?_
      refine ev_getR dX6_mergeChannel_97 C_X6 L_X6_7 (by decide) (by decide) sh_77 rfl ?_
      refine ev_sipush dX6_mergeChannel_100 (v := nI 214) (by decide) ?_
      refine ev_iconst dX6_mergeChannel_103 (v := nI 4) (by decide) ?_
      refine ev_iload_n dX6_mergeChannel_104 rfl 9 rfl ?_
      refine ev_imul dX6_mergeChannel_105 ?_
      refine ev_top (v := nI (4 * b)) (pk_mul _ _) ?_
      refine ev_iadd dX6_mergeChannel_106 ?_
      refine ev_top (v := nI (214 + (4 * b))) (nI_add _ _) ?_
      refine ev_iload_n dX6_mergeChannel_107 rfl 10 rfl ?_
      refine ev_iadd dX6_mergeChannel_108 ?_
      refine ev_top (v := nI (214 + (4 * b) + ch)) (nI_add _ _) ?_
      refine ev_iald (e := 214 + (4 * b) + ch) (v := σ 78 (214 + (4 * b) + ch)) dX6_mergeChannel_109 (by decide) sh_78 (by omega) (by decide) rfl ?_
      refine ev_istore (lv' := [(11, .int (σ 78 (214 + (4 * b) + ch))), (10, .int (σ 78 (214 + (4 * a) + ch))), (9, .int (σ 78 (190 + (4 * b) + ch))), (8, .int (σ 78 (190 + (4 * a) + ch))), (7, .int (nI 0)), (6, .int (nI 0)), (5, .int (mnet (σ 78) c b)), (4, .int (mnet (σ 78) c a)), (0, .ref 77), (1, .int (nI a)), (2, .int (nI b)), (3, .int (nI ch))]) dX6_mergeChannel_110 (by decide) rfl ?_
      refine ev_iload dX6_mergeChannel_112 5 rfl ?_
      refine ev_nif_eq (tgt := 149) dX6_mergeChannel_114 (by decide) (by omega) (fun h114 => ?_) (fun h114 => ?_)
      · refine ev_iload dX6_mergeChannel_149 5 rfl ?_
        refine ev_nif_eq (tgt := 209) dX6_mergeChannel_151 (by decide) (by omega) (fun h151 => ?_) (fun h151 => ?_)
        · refine ev_iload dX6_mergeChannel_209 4 rfl ?_
          refine ev_nif_eq (tgt := 254) dX6_mergeChannel_211 (by decide) (by omega) (fun h211 => ?_) (fun h211 => ?_)
          · exact ev_return dX6_mergeChannel_254 rfl (leafV hQ (by unfold mmc; first | (rw [if_pos h21, if_pos h38]; exact (av_set_self _ _).symm) | rw [if_pos h21, if_neg h38] | rw [if_neg h21, if_pos h38] | rw [if_neg h21, if_neg h38, if_pos h126] | (rw [if_neg h21, if_neg h38, if_neg h126, if_pos h163]; rfl) | (rw [if_neg h21, if_neg h38, if_neg h126, if_neg h163]; rfl)))
          · exact absurd h211 (by omega)
        · exact absurd h151 (by omega)
      · exact absurd h114 (by omega)
    · refine ev_iconst dX6_mergeChannel_41 (v := nI 1) (by decide) ?_
      refine ev_goto (tgt := 46) dX6_mergeChannel_42 (by decide) ?_
      refine ev_istore (lv' := [(7, .int (nI 1)), (6, .int (nI 0)), (5, .int (mnet (σ 78) c b)), (4, .int (mnet (σ 78) c a)), (0, .ref 77), (1, .int (nI a)), (2, .int (nI b)), (3, .int (nI ch))]) dX6_mergeChannel_46 (by decide) rfl ?_
      refine ev_aload_n dX6_mergeChannel_48 rfl 4 rfl ?_
      refine ev_getR dX6_mergeChannel_49 C_X6 L_X6_7 (by decide) (by decide) sh_77 rfl ?_
      refine ev_sipush dX6_mergeChannel_52 (v := nI 190) (by decide) ?_
      refine ev_iconst dX6_mergeChannel_55 (v := nI 4) (by decide) ?_
      refine ev_iload_n dX6_mergeChannel_56 rfl 5 rfl ?_
      refine ev_imul dX6_mergeChannel_57 ?_
      refine ev_top (v := nI (4 * a)) (pk_mul _ _) ?_
      refine ev_iadd dX6_mergeChannel_58 ?_
      refine ev_top (v := nI (190 + (4 * a))) (nI_add _ _) ?_
      refine ev_iload_n dX6_mergeChannel_59 rfl 7 rfl ?_
      refine ev_iadd dX6_mergeChannel_60 ?_
      refine ev_top (v := nI (190 + (4 * a) + ch)) (nI_add _ _) ?_
      refine ev_iald (e := 190 + (4 * a) + ch) (v := σ 78 (190 + (4 * a) + ch)) dX6_mergeChannel_61 (by decide) sh_78 (by omega) (by decide) rfl ?_
      refine ev_istore (lv' := [(8, .int (σ 78 (190 + (4 * a) + ch))), (7, .int (nI 1)), (6, .int (nI 0)), (5, .int (mnet (σ 78) c b)), (4, .int (mnet (σ 78) c a)), (0, .ref 77), (1, .int (nI a)), (2, .int (nI b)), (3, .int (nI ch))]) dX6_mergeChannel_62 (by decide) rfl ?_
      refine ev_aload_n dX6_mergeChannel_64 rfl 5 rfl ?_
      refine ev_getR dX6_mergeChannel_65 C_X6 L_X6_7 (by decide) (by decide) sh_77 rfl ?_
      refine ev_sipush dX6_mergeChannel_68 (v := nI 190) (by decide) ?_
      refine ev_iconst dX6_mergeChannel_71 (v := nI 4) (by decide) ?_
      refine ev_iload_n dX6_mergeChannel_72 rfl 7 rfl ?_
      refine ev_imul dX6_mergeChannel_73 ?_
      refine ev_top (v := nI (4 * b)) (pk_mul _ _) ?_
      refine ev_iadd dX6_mergeChannel_74 ?_
      refine ev_top (v := nI (190 + (4 * b))) (nI_add _ _) ?_
      refine ev_iload_n dX6_mergeChannel_75 rfl 8 rfl ?_
      refine ev_iadd dX6_mergeChannel_76 ?_
      refine ev_top (v := nI (190 + (4 * b) + ch)) (nI_add _ _) ?_
      refine ev_iald (e := 190 + (4 * b) + ch) (v := σ 78 (190 + (4 * b) + ch)) dX6_mergeChannel_77 (by decide) sh_78 (by omega) (by decide) rfl ?_
      refine ev_istore (lv' := [(9, .int (σ 78 (190 + (4 * b) + ch))), (8, .int (σ 78 (190 + (4 * a) + ch))), (7, .int (nI 1)), (6, .int (nI 0)), (5, .int (mnet (σ 78) c b)), (4, .int (mnet (σ 78) c a)), (0, .ref 77), (1, .int (nI a)), (2, .int (nI b)), (3, .int (nI ch))]) dX6_mergeChannel_78 (by decide) rfl ?_
      refine ev_aload_n dX6_mergeChannel_80 rfl 6 rfl ?_
      refine ev_getR dX6_mergeChannel_81 C_X6 L_X6_7 (by decide) (by decide) sh_77 rfl ?_
      refine ev_sipush dX6_mergeChannel_84 (v := nI 214) (by decide) ?_
      refine ev_iconst dX6_mergeChannel_87 (v := nI 4) (by decide) ?_
      refine ev_iload_n dX6_mergeChannel_88 rfl 7 rfl ?_
      refine ev_imul dX6_mergeChannel_89 ?_
      refine ev_top (v := nI (4 * a)) (pk_mul _ _) ?_
      refine ev_iadd dX6_mergeChannel_90 ?_
      refine ev_top (v := nI (214 + (4 * a))) (nI_add _ _) ?_
      refine ev_iload_n dX6_mergeChannel_91 rfl 9 rfl ?_
      refine ev_iadd dX6_mergeChannel_92 ?_
      refine ev_top (v := nI (214 + (4 * a) + ch)) (nI_add _ _) ?_
      refine ev_iald (e := 214 + (4 * a) + ch) (v := σ 78 (214 + (4 * a) + ch)) dX6_mergeChannel_93 (by decide) sh_78 (by omega) (by decide) rfl ?_
      refine ev_istore (lv' := [(10, .int (σ 78 (214 + (4 * a) + ch))), (9, .int (σ 78 (190 + (4 * b) + ch))), (8, .int (σ 78 (190 + (4 * a) + ch))), (7, .int (nI 1)), (6, .int (nI 0)), (5, .int (mnet (σ 78) c b)), (4, .int (mnet (σ 78) c a)), (0, .ref 77), (1, .int (nI a)), (2, .int (nI b)), (3, .int (nI ch))]) dX6_mergeChannel_94 (by decide) rfl ?_
      refine ev_aload_n dX6_mergeChannel_96 rfl 7 rfl ?_
      refine ev_getR dX6_mergeChannel_97 C_X6 L_X6_7 (by decide) (by decide) sh_77 rfl ?_
      refine ev_sipush dX6_mergeChannel_100 (v := nI 214) (by decide) ?_
      refine ev_iconst dX6_mergeChannel_103 (v := nI 4) (by decide) ?_
      refine ev_iload_n dX6_mergeChannel_104 rfl 9 rfl ?_
      refine ev_imul dX6_mergeChannel_105 ?_
      refine ev_top (v := nI (4 * b)) (pk_mul _ _) ?_
      refine ev_iadd dX6_mergeChannel_106 ?_
      refine ev_top (v := nI (214 + (4 * b))) (nI_add _ _) ?_
      refine ev_iload_n dX6_mergeChannel_107 rfl 10 rfl ?_
      refine ev_iadd dX6_mergeChannel_108 ?_
      refine ev_top (v := nI (214 + (4 * b) + ch)) (nI_add _ _) ?_
      refine ev_iald (e := 214 + (4 * b) + ch) (v := σ 78 (214 + (4 * b) + ch)) dX6_mergeChannel_109 (by decide) sh_78 (by omega) (by decide) rfl ?_
      refine ev_istore (lv' := [(11, .int (σ 78 (214 + (4 * b) + ch))), (10, .int (σ 78 (214 + (4 * a) + ch))), (9, .int (σ 78 (190 + (4 * b) + ch))), (8, .int (σ 78 (190 + (4 * a) + ch))), (7, .int (nI 1)), (6, .int (nI 0)), (5, .int (mnet (σ 78) c b)), (4, .int (mnet (σ 78) c a)), (0, .ref 77), (1, .int (nI a)), (2, .int (nI b)), (3, .int (nI ch))]) dX6_mergeChannel_110 (by decide) rfl ?_
      refine ev_iload dX6_mergeChannel_112 5 rfl ?_
      refine ev_nif_eq (tgt := 149) dX6_mergeChannel_114 (by decide) (by omega) (fun h114 => ?_) (fun h114 => ?_)
      · refine ev_iload dX6_mergeChannel_149 5 rfl ?_
        refine ev_nif_eq (tgt := 209) dX6_mergeChannel_151 (by decide) (by omega) (fun h151 => ?_) (fun h151 => ?_)
        · refine ev_iload dX6_mergeChannel_209 4 rfl ?_
          refine ev_nif_eq (tgt := 254) dX6_mergeChannel_211 (by decide) (by omega) (fun h211 => ?_) (fun h211 => ?_)
          · exact absurd h211 (by omega)
          · refine ev_aload_n dX6_mergeChannel_214 rfl 8 rfl ?_
            refine ev_iload dX6_mergeChannel_215 7 rfl ?_
            refine ev_iload dX6_mergeChannel_217 6 rfl ?_
            refine ev_ior dX6_mergeChannel_219 ?_
            refine ev_iload_n dX6_mergeChannel_220 rfl 11 rfl ?_
            refine ev_iload dX6_mergeChannel_221 2 rfl ?_
            refine ev_iload dX6_mergeChannel_223 0 rfl ?_
            refine ev_callVv (σ' := av_set σ 78 (msc (σ 78) c ((mnet (σ 78) c a) ||| (mnet (σ 78) c b)) ch (σ 78 (190 + (4 * b) + ch)) (σ 78 (214 + (4 * b) + ch)))) dX6_mergeChannel_225 M_X6_85 Y_X6_setChannel [.int ((mnet (σ 78) c a) ||| (mnet (σ 78) c b)), .int (nI ch), .int (σ 78 (190 + (4 * b) + ch)), .int (σ 78 (214 + (4 * b) + ch))] (c_X6_setChannel ((mnet (σ 78) c a) ||| (mnet (σ 78) c b)) ch (σ 78 (190 + (4 * b) + ch)) (σ 78 (214 + (4 * b) + ch)) c (by omega) (by first | exact hcn | omega) (by first | exact hc1 | omega) (by first | exact hc6 | omega)) (by decide) (Nat.le_of_ble_eq_true rfl) (by decide) sh_77 rfl rfl rfl (Nat.le_of_ble_eq_true rfl) ?_
            refine ev_iload dX6_mergeChannel_228 5 rfl ?_
            refine ev_nif_eq (tgt := 254) dX6_mergeChannel_230 (by decide) (by omega) (fun h230 => ?_) (fun h230 => ?_)
            · exact ev_return dX6_mergeChannel_254 rfl (leafV hQ (by unfold mmc; first | (rw [if_pos h21, if_pos h38]; exact (av_set_self _ _).symm) | rw [if_pos h21, if_neg h38] | rw [if_neg h21, if_pos h38] | rw [if_neg h21, if_neg h38, if_pos h126] | (rw [if_neg h21, if_neg h38, if_neg h126, if_pos h163]; rfl) | (rw [if_neg h21, if_neg h38, if_neg h126, if_neg h163]; rfl)))
            · exact absurd h230 (by omega)
        · exact absurd h151 (by omega)
      · exact absurd h114 (by omega)
  · refine ev_iconst dX6_mergeChannel_24 (v := nI 1) (by decide) ?_
    refine ev_goto (tgt := 29) dX6_mergeChannel_25 (by decide) ?_
    refine ev_istore (lv' := [(6, .int (nI 1)), (5, .int (mnet (σ 78) c b)), (4, .int (mnet (σ 78) c a)), (0, .ref 77), (1, .int (nI a)), (2, .int (nI b)), (3, .int (nI ch))]) dX6_mergeChannel_29 (by decide) rfl ?_
    refine ev_aload_n dX6_mergeChannel_31 rfl 3 rfl ?_
    refine ev_iload dX6_mergeChannel_32 1 rfl ?_
    refine ev_iload_n dX6_mergeChannel_34 rfl 6 rfl ?_
    refine ev_callVi (x := mni (mj (σ 78) 70 ch) c (mnet (σ 78) c b)) dX6_mergeChannel_35 M_X6_82 Y_X6_membersIn [.int (mnet (σ 78) c b), .int (nI ch)] (c_X6_membersIn (mnet (σ 78) c b) ch c (by first | exact hcn | omega) (by first | exact hc1 | omega) (by first | exact hc6 | omega) (by omega)) (by decide) (Nat.le_of_ble_eq_true rfl) (by decide) sh_77 rfl rfl rfl (Nat.le_of_ble_eq_true rfl) ?_
    refine ev_if_eq (tgt := 45) dX6_mergeChannel_38 (by decide) (fun h38 => ?_) (fun h38 => ?_)
    · refine ev_iconst dX6_mergeChannel_45 (v := nI 0) (by decide) ?_
      refine ev_istore (lv' := [(7, .int (nI 0)), (6, .int (nI 1)), (5, .int (mnet (σ 78) c b)), (4, .int (mnet (σ 78) c a)), (0, .ref 77), (1, .int (nI a)), (2, .int (nI b)), (3, .int (nI ch))]) dX6_mergeChannel_46 (by decide) rfl ?_
      refine ev_aload_n dX6_mergeChannel_48 rfl 4 rfl ?_
      refine ev_getR dX6_mergeChannel_49 C_X6 L_X6_7 (by decide) (by decide) sh_77 rfl ?_
      refine ev_sipush dX6_mergeChannel_52 (v := nI 190) (by decide) ?_
      refine ev_iconst dX6_mergeChannel_55 (v := nI 4) (by decide) ?_
      refine ev_iload_n dX6_mergeChannel_56 rfl 5 rfl ?_
      refine ev_imul dX6_mergeChannel_57 ?_
      refine ev_top (v := nI (4 * a)) (pk_mul _ _) ?_
      refine ev_iadd dX6_mergeChannel_58 ?_
      refine ev_top (v := nI (190 + (4 * a))) (nI_add _ _) ?_
      refine ev_iload_n dX6_mergeChannel_59 rfl 7 rfl ?_
      refine ev_iadd dX6_mergeChannel_60 ?_
      refine ev_top (v := nI (190 + (4 * a) + ch)) (nI_add _ _) ?_
      refine ev_iald (e := 190 + (4 * a) + ch) (v := σ 78 (190 + (4 * a) + ch)) dX6_mergeChannel_61 (by decide) sh_78 (by omega) (by decide) rfl ?_
      refine ev_istore (lv' := [(8, .int (σ 78 (190 + (4 * a) + ch))), (7, .int (nI 0)), (6, .int (nI 1)), (5, .int (mnet (σ 78) c b)), (4, .int (mnet (σ 78) c a)), (0, .ref 77), (1, .int (nI a)), (2, .int (nI b)), (3, .int (nI ch))]) dX6_mergeChannel_62 (by decide) rfl ?_
      refine ev_aload_n dX6_mergeChannel_64 rfl 5 rfl ?_
      refine ev_getR dX6_mergeChannel_65 C_X6 L_X6_7 (by decide) (by decide) sh_77 rfl ?_
      refine ev_sipush dX6_mergeChannel_68 (v := nI 190) (by decide) ?_
      refine ev_iconst dX6_mergeChannel_71 (v := nI 4) (by decide) ?_
      refine ev_iload_n dX6_mergeChannel_72 rfl 7 rfl ?_
      refine ev_imul dX6_mergeChannel_73 ?_
      refine ev_top (v := nI (4 * b)) (pk_mul _ _) ?_
      refine ev_iadd dX6_mergeChannel_74 ?_
      refine ev_top (v := nI (190 + (4 * b))) (nI_add _ _) ?_
      refine ev_iload_n dX6_mergeChannel_75 rfl 8 rfl ?_
      refine ev_iadd dX6_mergeChannel_76 ?_
      refine ev_top (v := nI (190 + (4 * b) + ch)) (nI_add _ _) ?_
      refine ev_iald (e := 190 + (4 * b) + ch) (v := σ 78 (190 + (4 * b) + ch)) dX6_mergeChannel_77 (by decide) sh_78 (by omega) (by decide) rfl ?_
      refine ev_istore (lv' := [(9, .int (σ 78 (190 + (4 * b) + ch))), (8, .int (σ 78 (190 + (4 * a) + ch))), (7, .int (nI 0)), (6, .int (nI 1)), (5, .int (mnet (σ 78) c b)), (4, .int (mnet (σ 78) c a)), (0, .ref 77), (1, .int (nI a)), (2, .int (nI b)), (3, .int (nI ch))]) dX6_mergeChannel_78 (by decide) rfl ?_
      refine ev_aload_n dX6_mergeChannel_80 rfl 6 rfl ?_
      refine ev_getR dX6_mergeChannel_81 C_X6 L_X6_7 (by decide) (by decide) sh_77 rfl ?_
      refine ev_sipush dX6_mergeChannel_84 (v := nI 214) (by decide) ?_
      refine ev_iconst dX6_mergeChannel_87 (v := nI 4) (by decide) ?_
      refine ev_iload_n dX6_mergeChannel_88 rfl 7 rfl ?_
      refine ev_imul dX6_mergeChannel_89 ?_
      refine ev_top (v := nI (4 * a)) (pk_mul _ _) ?_
      refine ev_iadd dX6_mergeChannel_90 ?_
      refine ev_top (v := nI (214 + (4 * a))) (nI_add _ _) ?_
      refine ev_iload_n dX6_mergeChannel_91 rfl 9 rfl ?_
      refine ev_iadd dX6_mergeChannel_92 ?_
      refine ev_top (v := nI (214 + (4 * a) + ch)) (nI_add _ _) ?_
      refine ev_iald (e := 214 + (4 * a) + ch) (v := σ 78 (214 + (4 * a) + ch)) dX6_mergeChannel_93 (by decide) sh_78 (by omega) (by decide) rfl ?_
      refine ev_istore (lv' := [(10, .int (σ 78 (214 + (4 * a) + ch))), (9, .int (σ 78 (190 + (4 * b) + ch))), (8, .int (σ 78 (190 + (4 * a) + ch))), (7, .int (nI 0)), (6, .int (nI 1)), (5, .int (mnet (σ 78) c b)), (4, .int (mnet (σ 78) c a)), (0, .ref 77), (1, .int (nI a)), (2, .int (nI b)), (3, .int (nI ch))]) dX6_mergeChannel_94 (by decide) rfl ?_
      refine ev_aload_n dX6_mergeChannel_96 rfl 7 rfl ?_
      refine ev_getR dX6_mergeChannel_97 C_X6 L_X6_7 (by decide) (by decide) sh_77 rfl ?_
      refine ev_sipush dX6_mergeChannel_100 (v := nI 214) (by decide) ?_
      refine ev_iconst dX6_mergeChannel_103 (v := nI 4) (by decide) ?_
      refine ev_iload_n dX6_mergeChannel_104 rfl 9 rfl ?_
      refine ev_imul dX6_mergeChannel_105 ?_
      refine ev_top (v := nI (4 * b)) (pk_mul _ _) ?_
      refine ev_iadd dX6_mergeChannel_106 ?_
      refine ev_top (v := nI (214 + (4 * b))) (nI_add _ _) ?_
      refine ev_iload_n dX6_mergeChannel_107 rfl 10 rfl ?_
      refine ev_iadd dX6_mergeChannel_108 ?_
      refine ev_top (v := nI (214 + (4 * b) + ch)) (nI_add _ _) ?_
      refine ev_iald (e := 214 + (4 * b) + ch) (v := σ 78 (214 + (4 * b) + ch)) dX6_mergeChannel_109 (by decide) sh_78 (by omega) (by decide) rfl ?_
      refine ev_istore (lv' := [(11, .int (σ 78 (214 + (4 * b) + ch))), (10, .int (σ 78 (214 + (4 * a) + ch))), (9, .int (σ 78 (190 + (4 * b) + ch))), (8, .int (σ 78 (190 + (4 * a) + ch))), (7, .int (nI 0)), (6, .int (nI 1)), (5, .int (mnet (σ 78) c b)), (4, .int (mnet (σ 78) c a)), (0, .ref 77), (1, .int (nI a)), (2, .int (nI b)), (3, .int (nI ch))]) dX6_mergeChannel_110 (by decide) rfl ?_
      refine ev_iload dX6_mergeChannel_112 5 rfl ?_
      refine ev_nif_eq (tgt := 149) dX6_mergeChannel_114 (by decide) (by omega) (fun h114 => ?_) (fun h114 => ?_)
      · exact absurd h114 (by omega)
      · refine ev_iload dX6_mergeChannel_117 4 rfl ?_
        refine ev_nif_eq (tgt := 149) dX6_mergeChannel_119 (by decide) (by omega) (fun h119 => ?_) (fun h119 => ?_)
        · refine ev_iload dX6_mergeChannel_149 5 rfl ?_
          refine ev_nif_eq (tgt := 209) dX6_mergeChannel_151 (by decide) (by omega) (fun h151 => ?_) (fun h151 => ?_)
          · exact absurd h151 (by omega)
          · refine ev_iload dX6_mergeChannel_154 4 rfl ?_
            refine ev_nif_eq (tgt := 166) dX6_mergeChannel_156 (by decide) (by omega) (fun h156 => ?_) (fun h156 => ?_)
            · refine ev_aload_n dX6_mergeChannel_166 rfl 8 rfl ?_
              refine ev_iload dX6_mergeChannel_167 7 rfl ?_
              refine ev_iload dX6_mergeChannel_169 6 rfl ?_
              refine ev_ior dX6_mergeChannel_171 ?_
              refine ev_iload_n dX6_mergeChannel_172 rfl 11 rfl ?_
              refine ev_iload dX6_mergeChannel_173 3 rfl ?_
              refine ev_iload dX6_mergeChannel_175 1 rfl ?_
              refine ev_callVv (σ' := av_set σ 78 (msc (σ 78) c ((mnet (σ 78) c a) ||| (mnet (σ 78) c b)) ch (σ 78 (190 + (4 * a) + ch)) (σ 78 (214 + (4 * a) + ch)))) dX6_mergeChannel_177 M_X6_85 Y_X6_setChannel [.int ((mnet (σ 78) c a) ||| (mnet (σ 78) c b)), .int (nI ch), .int (σ 78 (190 + (4 * a) + ch)), .int (σ 78 (214 + (4 * a) + ch))] (c_X6_setChannel ((mnet (σ 78) c a) ||| (mnet (σ 78) c b)) ch (σ 78 (190 + (4 * a) + ch)) (σ 78 (214 + (4 * a) + ch)) c (by omega) (by first | exact hcn | omega) (by first | exact hc1 | omega) (by first | exact hc6 | omega)) (by decide) (Nat.le_of_ble_eq_true rfl) (by decide) sh_77 rfl rfl rfl (Nat.le_of_ble_eq_true rfl) ?_
              refine ev_iload dX6_mergeChannel_180 4 rfl ?_
              refine ev_nif_eq (tgt := 254) dX6_mergeChannel_182 (by decide) (by omega) (fun h182 => ?_) (fun h182 => ?_)
              · exact ev_return dX6_mergeChannel_254 rfl (leafV hQ (by unfold mmc; first | (rw [if_pos h21, if_pos h38]; exact (av_set_self _ _).symm) | rw [if_pos h21, if_neg h38] | rw [if_neg h21, if_pos h38] | rw [if_neg h21, if_neg h38, if_pos h126] | (rw [if_neg h21, if_neg h38, if_neg h126, if_pos h163]; rfl) | (rw [if_neg h21, if_neg h38, if_neg h126, if_neg h163]; rfl)))
              · exact absurd h182 (by omega)
            · exact absurd h156 (by omega)
        · exact absurd h119 (by omega)
    · refine ev_iconst dX6_mergeChannel_41 (v := nI 1) (by decide) ?_
      refine ev_goto (tgt := 46) dX6_mergeChannel_42 (by decide) ?_
      refine ev_istore (lv' := [(7, .int (nI 1)), (6, .int (nI 1)), (5, .int (mnet (σ 78) c b)), (4, .int (mnet (σ 78) c a)), (0, .ref 77), (1, .int (nI a)), (2, .int (nI b)), (3, .int (nI ch))]) dX6_mergeChannel_46 (by decide) rfl ?_
      refine ev_aload_n dX6_mergeChannel_48 rfl 4 rfl ?_
      refine ev_getR dX6_mergeChannel_49 C_X6 L_X6_7 (by decide) (by decide) sh_77 rfl ?_
      refine ev_sipush dX6_mergeChannel_52 (v := nI 190) (by decide) ?_
      refine ev_iconst dX6_mergeChannel_55 (v := nI 4) (by decide) ?_
      refine ev_iload_n dX6_mergeChannel_56 rfl 5 rfl ?_
      refine ev_imul dX6_mergeChannel_57 ?_
      refine ev_top (v := nI (4 * a)) (pk_mul _ _) ?_
      refine ev_iadd dX6_mergeChannel_58 ?_
      refine ev_top (v := nI (190 + (4 * a))) (nI_add _ _) ?_
      refine ev_iload_n dX6_mergeChannel_59 rfl 7 rfl ?_
      refine ev_iadd dX6_mergeChannel_60 ?_
      refine ev_top (v := nI (190 + (4 * a) + ch)) (nI_add _ _) ?_
      refine ev_iald (e := 190 + (4 * a) + ch) (v := σ 78 (190 + (4 * a) + ch)) dX6_mergeChannel_61 (by decide) sh_78 (by omega) (by decide) rfl ?_
      refine ev_istore (lv' := [(8, .int (σ 78 (190 + (4 * a) + ch))), (7, .int (nI 1)), (6, .int (nI 1)), (5, .int (mnet (σ 78) c b)), (4, .int (mnet (σ 78) c a)), (0, .ref 77), (1, .int (nI a)), (2, .int (nI b)), (3, .int (nI ch))]) dX6_mergeChannel_62 (by decide) rfl ?_
      refine ev_aload_n dX6_mergeChannel_64 rfl 5 rfl ?_
      refine ev_getR dX6_mergeChannel_65 C_X6 L_X6_7 (by decide) (by decide) sh_77 rfl ?_
      refine ev_sipush dX6_mergeChannel_68 (v := nI 190) (by decide) ?_
      refine ev_iconst dX6_mergeChannel_71 (v := nI 4) (by decide) ?_
      refine ev_iload_n dX6_mergeChannel_72 rfl 7 rfl ?_
      refine ev_imul dX6_mergeChannel_73 ?_
      refine ev_top (v := nI (4 * b)) (pk_mul _ _) ?_
      refine ev_iadd dX6_mergeChannel_74 ?_
      refine ev_top (v := nI (190 + (4 * b))) (nI_add _ _) ?_
      refine ev_iload_n dX6_mergeChannel_75 rfl 8 rfl ?_
      refine ev_iadd dX6_mergeChannel_76 ?_
      refine ev_top (v := nI (190 + (4 * b) + ch)) (nI_add _ _) ?_
      refine ev_iald (e := 190 + (4 * b) + ch) (v := σ 78 (190 + (4 * b) + ch)) dX6_mergeChannel_77 (by decide) sh_78 (by omega) (by decide) rfl ?_
      refine ev_istore (lv' := [(9, .int (σ 78 (190 + (4 * b) + ch))), (8, .int (σ 78 (190 + (4 * a) + ch))), (7, .int (nI 1)), (6, .int (nI 1)), (5, .int (mnet (σ 78) c b)), (4, .int (mnet (σ 78) c a)), (0, .ref 77), (1, .int (nI a)), (2, .int (nI b)), (3, .int (nI ch))]) dX6_mergeChannel_78 (by decide) rfl ?_
      refine ev_aload_n dX6_mergeChannel_80 rfl 6 rfl ?_
      refine ev_getR dX6_mergeChannel_81 C_X6 L_X6_7 (by decide) (by decide) sh_77 rfl ?_
      refine ev_sipush dX6_mergeChannel_84 (v := nI 214) (by decide) ?_
      refine ev_iconst dX6_mergeChannel_87 (v := nI 4) (by decide) ?_
      refine ev_iload_n dX6_mergeChannel_88 rfl 7 rfl ?_
      refine ev_imul dX6_mergeChannel_89 ?_
      refine ev_top (v := nI (4 * a)) (pk_mul _ _) ?_
      refine ev_iadd dX6_mergeChannel_90 ?_
      refine ev_top (v := nI (214 + (4 * a))) (nI_add _ _) ?_
      refine ev_iload_n dX6_mergeChannel_91 rfl 9 rfl ?_
      refine ev_iadd dX6_mergeChannel_92 ?_
      refine ev_top (v := nI (214 + (4 * a) + ch)) (nI_add _ _) ?_
      refine ev_iald (e := 214 + (4 * a) + ch) (v := σ 78 (214 + (4 * a) + ch)) dX6_mergeChannel_93 (by decide) sh_78 (by omega) (by decide) rfl ?_
      refine ev_istore (lv' := [(10, .int (σ 78 (214 + (4 * a) + ch))), (9, .int (σ 78 (190 + (4 * b) + ch))), (8, .int (σ 78 (190 + (4 * a) + ch))), (7, .int (nI 1)), (6, .int (nI 1)), (5, .int (mnet (σ 78) c b)), (4, .int (mnet (σ 78) c a)), (0, .ref 77), (1, .int (nI a)), (2, .int (nI b)), (3, .int (nI ch))]) dX6_mergeChannel_94 (by decide) rfl ?_
      refine ev_aload_n dX6_mergeChannel_96 rfl 7 rfl ?_
      refine ev_getR dX6_mergeChannel_97 C_X6 L_X6_7 (by decide) (by decide) sh_77 rfl ?_
      refine ev_sipush dX6_mergeChannel_100 (v := nI 214) (by decide) ?_
      refine ev_iconst dX6_mergeChannel_103 (v := nI 4) (by decide) ?_
      refine ev_iload_n dX6_mergeChannel_104 rfl 9 rfl ?_
      refine ev_imul dX6_mergeChannel_105 ?_
      refine ev_top (v := nI (4 * b)) (pk_mul _ _) ?_
      refine ev_iadd dX6_mergeChannel_106 ?_
      refine ev_top (v := nI (214 + (4 * b))) (nI_add _ _) ?_
      refine ev_iload_n dX6_mergeChannel_107 rfl 10 rfl ?_
      refine ev_iadd dX6_mergeChannel_108 ?_
      refine ev_top (v := nI (214 + (4 * b) + ch)) (nI_add _ _) ?_
      refine ev_iald (e := 214 + (4 * b) + ch) (v := σ 78 (214 + (4 * b) + ch)) dX6_mergeChannel_109 (by decide) sh_78 (by omega) (by decide) rfl ?_
      refine ev_istore (lv' := [(11, .int (σ 78 (214 + (4 * b) + ch))), (10, .int (σ 78 (214 + (4 * a) + ch))), (9, .int (σ 78 (190 + (4 * b) + ch))), (8, .int (σ 78 (190 + (4 * a) + ch))), (7, .int (nI 1)), (6, .int (nI 1)), (5, .int (mnet (σ 78) c b)), (4, .int (mnet (σ 78) c a)), (0, .ref 77), (1, .int (nI a)), (2, .int (nI b)), (3, .int (nI ch))]) dX6_mergeChannel_110 (by decide) rfl ?_
      refine ev_iload dX6_mergeChannel_112 5 rfl ?_
      refine ev_nif_eq (tgt := 149) dX6_mergeChannel_114 (by decide) (by omega) (fun h114 => ?_) (fun h114 => ?_)
      · exact absurd h114 (by omega)
      · refine ev_iload dX6_mergeChannel_117 4 rfl ?_
        refine ev_nif_eq (tgt := 149) dX6_mergeChannel_119 (by decide) (by omega) (fun h119 => ?_) (fun h119 => ?_)
        · exact absurd h119 (by omega)
        · refine ev_iload dX6_mergeChannel_122 3 rfl ?_
          refine ev_iload dX6_mergeChannel_124 2 rfl ?_
          refine ev_icmp_ne (tgt := 149) dX6_mergeChannel_126 (by decide) (fun h126 => ?_) (fun h126 => ?_)
          · refine ev_iload dX6_mergeChannel_149 5 rfl ?_
            refine ev_nif_eq (tgt := 209) dX6_mergeChannel_151 (by decide) (by omega) (fun h151 => ?_) (fun h151 => ?_)
            · exact absurd h151 (by omega)
            · refine ev_iload dX6_mergeChannel_154 4 rfl ?_
              refine ev_nif_eq (tgt := 166) dX6_mergeChannel_156 (by decide) (by omega) (fun h156 => ?_) (fun h156 => ?_)
              · exact absurd h156 (by omega)
              · refine ev_iload dX6_mergeChannel_159 3 rfl ?_
                refine ev_iload dX6_mergeChannel_161 2 rfl ?_
                refine ev_icmp_ge (tgt := 209) dX6_mergeChannel_163 (by decide) (fun h163 => ?_) (fun h163 => ?_)
                · refine ev_iload dX6_mergeChannel_209 4 rfl ?_
                  refine ev_nif_eq (tgt := 254) dX6_mergeChannel_211 (by decide) (by omega) (fun h211 => ?_) (fun h211 => ?_)
                  · exact absurd h211 (by omega)
                  · refine ev_aload_n dX6_mergeChannel_214 rfl 8 rfl ?_
                    refine ev_iload dX6_mergeChannel_215 7 rfl ?_
                    refine ev_iload dX6_mergeChannel_217 6 rfl ?_
                    refine ev_ior dX6_mergeChannel_219 ?_
                    refine ev_iload_n dX6_mergeChannel_220 rfl 11 rfl ?_
                    refine ev_iload dX6_mergeChannel_221 2 rfl ?_
                    refine ev_iload dX6_mergeChannel_223 0 rfl ?_
                    refine ev_callVv (σ' := av_set σ 78 (msc (σ 78) c ((mnet (σ 78) c a) ||| (mnet (σ 78) c b)) ch (σ 78 (190 + (4 * b) + ch)) (σ 78 (214 + (4 * b) + ch)))) dX6_mergeChannel_225 M_X6_85 Y_X6_setChannel [.int ((mnet (σ 78) c a) ||| (mnet (σ 78) c b)), .int (nI ch), .int (σ 78 (190 + (4 * b) + ch)), .int (σ 78 (214 + (4 * b) + ch))] (c_X6_setChannel ((mnet (σ 78) c a) ||| (mnet (σ 78) c b)) ch (σ 78 (190 + (4 * b) + ch)) (σ 78 (214 + (4 * b) + ch)) c (by omega) (by first | exact hcn | omega) (by first | exact hc1 | omega) (by first | exact hc6 | omega)) (by decide) (Nat.le_of_ble_eq_true rfl) (by decide) sh_77 rfl rfl rfl (Nat.le_of_ble_eq_true rfl) ?_
                    refine ev_iload dX6_mergeChannel_228 5 rfl ?_
                    refine ev_nif_eq (tgt := 254) dX6_mergeChannel_230 (by decide) (by omega) (fun h230 => ?_) (fun h230 => ?_)
                    · exact absurd h230 (by omega)
                    · refine ev_aload_n dX6_mergeChannel_233 rfl 8 rfl ?_
                      refine ev_iload dX6_mergeChannel_234 7 rfl ?_
                      refine ev_iload_n dX6_mergeChannel_236 rfl 11 rfl ?_
                      refine ev_callVv dX6_mergeChannel_237 M_X6_89 Y_X6_depriveAll [.int (mnet (σ 78) c a), .int (nI ch)] (c_X6_depriveAll (mnet (σ 78) c a) ch c (by omega) ((msc_lo (by decide)).trans hcn) (by first | exact hc1 | omega) (by first | exact hc6 | omega)) (by decide) (Nat.le_of_ble_eq_true rfl) (by decide) sh_77 rfl rfl rfl (Nat.le_of_ble_eq_true rfl) ?_
                      refine ev_st (σ' := av_set σ 78 (dpr (msc (σ 78) c ((mnet (σ 78) c a) ||| (mnet (σ 78) c b)) ch (σ 78 (190 + (4 * b) + ch)) (σ 78 (214 + (4 * b) + ch))) c (mnet (σ 78) c a) ch)) (by first | rfl | (funext a; by_cases q78 : a = 78; (next => subst q78; rfl); simp only [av_set, q78, if_false]) | exact av_set_set _ _ _ _ | (funext a; unfold av_set; (repeat' split) <;> first | rfl | (exfalso; omega)) | (funext a; simp only [av_set, cpS]; (repeat' split) <;> first | rfl | (exfalso; omega))) ?_
                      refine ev_aload_n dX6_mergeChannel_240 rfl 8 rfl ?_
                      refine ev_getR dX6_mergeChannel_241 C_X6 L_X6_7 (by decide) (by decide) sh_77 rfl ?_
                      refine ev_iconst dX6_mergeChannel_244 (v := nI 3) (by decide) ?_
                      refine ev_dup2_ia dX6_mergeChannel_245 ?_
                      refine ev_iald (e := 3) (v := (dpr (msc (σ 78) c ((mnet (σ 78) c a) ||| (mnet (σ 78) c b)) ch (σ 78 (190 + (4 * b) + ch)) (σ 78 (214 + (4 * b) + ch))) c (mnet (σ 78) c a) ch) 3) dX6_mergeChannel_246 (by decide) sh_78 (by omega) (by decide) (by first | rfl | (simp only [av_set, cpS]; (repeat' split) <;> first | rfl | (exfalso; omega))) ?_
                      refine ev_iload dX6_mergeChannel_247 1 rfl ?_
                      refine ev_callSi (x := nI (cb 10 (σ 78 (214 + (4 * a) + ch)))) dX6_mergeChannel_249 (Or.inl M_X6_79) Y_X6_bitCount [.int (σ 78 (214 + (4 * a) + ch))] (c_X6_bitCount (σ 78 (214 + (4 * a) + ch)) ) (by decide) (Nat.le_of_ble_eq_true rfl) rfl rfl (Nat.le_of_ble_eq_true rfl) ?_
                      refine ev_iadd dX6_mergeChannel_252 ?_
                      refine ev_iast (e := 3) dX6_mergeChannel_253 (by decide) sh_78 (by omega) (by decide) ?_
                      refine ev_st (σ' := av_set σ 78 (upd (dpr (msc (σ 78) c ((mnet (σ 78) c a) ||| (mnet (σ 78) c b)) ch (σ 78 (190 + (4 * b) + ch)) (σ 78 (214 + (4 * b) + ch))) c (mnet (σ 78) c a) ch) 3 (((dpr (msc (σ 78) c ((mnet (σ 78) c a) ||| (mnet (σ 78) c b)) ch (σ 78 (190 + (4 * b) + ch)) (σ 78 (214 + (4 * b) + ch))) c (mnet (σ 78) c a) ch) 3) + (nI (cb 10 (σ 78 (214 + (4 * a) + ch))))))) (by first | rfl | (funext a; by_cases q78 : a = 78; (next => subst q78; rfl); simp only [av_set, q78, if_false]) | exact av_set_set _ _ _ _ | (funext a; unfold av_set; (repeat' split) <;> first | rfl | (exfalso; omega)) | (funext a; simp only [av_set, cpS]; (repeat' split) <;> first | rfl | (exfalso; omega))) ?_
                      exact ev_return dX6_mergeChannel_254 rfl (leafV hQ (by unfold mmc; first | (rw [if_pos h21, if_pos h38]; exact (av_set_self _ _).symm) | rw [if_pos h21, if_neg h38] | rw [if_neg h21, if_pos h38] | rw [if_neg h21, if_neg h38, if_pos h126] | (rw [if_neg h21, if_neg h38, if_neg h126, if_pos h163]; rfl) | (rw [if_neg h21, if_neg h38, if_neg h126, if_neg h163]; rfl)))
                · refine ev_aload_n dX6_mergeChannel_166 rfl 8 rfl ?_
                  refine ev_iload dX6_mergeChannel_167 7 rfl ?_
                  refine ev_iload dX6_mergeChannel_169 6 rfl ?_
                  refine ev_ior dX6_mergeChannel_171 ?_
                  refine ev_iload_n dX6_mergeChannel_172 rfl 11 rfl ?_
                  refine ev_iload dX6_mergeChannel_173 3 rfl ?_
                  refine ev_iload dX6_mergeChannel_175 1 rfl ?_
                  refine ev_callVv (σ' := av_set σ 78 (msc (σ 78) c ((mnet (σ 78) c a) ||| (mnet (σ 78) c b)) ch (σ 78 (190 + (4 * a) + ch)) (σ 78 (214 + (4 * a) + ch)))) dX6_mergeChannel_177 M_X6_85 Y_X6_setChannel [.int ((mnet (σ 78) c a) ||| (mnet (σ 78) c b)), .int (nI ch), .int (σ 78 (190 + (4 * a) + ch)), .int (σ 78 (214 + (4 * a) + ch))] (c_X6_setChannel ((mnet (σ 78) c a) ||| (mnet (σ 78) c b)) ch (σ 78 (190 + (4 * a) + ch)) (σ 78 (214 + (4 * a) + ch)) c (by omega) (by first | exact hcn | omega) (by first | exact hc1 | omega) (by first | exact hc6 | omega)) (by decide) (Nat.le_of_ble_eq_true rfl) (by decide) sh_77 rfl rfl rfl (Nat.le_of_ble_eq_true rfl) ?_
                  refine ev_iload dX6_mergeChannel_180 4 rfl ?_
                  refine ev_nif_eq (tgt := 254) dX6_mergeChannel_182 (by decide) (by omega) (fun h182 => ?_) (fun h182 => ?_)
                  · exact absurd h182 (by omega)
                  · refine ev_aload_n dX6_mergeChannel_185 rfl 8 rfl ?_
                    refine ev_iload dX6_mergeChannel_186 6 rfl ?_
                    refine ev_iload_n dX6_mergeChannel_188 rfl 11 rfl ?_
                    refine ev_callVv dX6_mergeChannel_189 M_X6_89 Y_X6_depriveAll [.int (mnet (σ 78) c b), .int (nI ch)] (c_X6_depriveAll (mnet (σ 78) c b) ch c (by omega) ((msc_lo (by decide)).trans hcn) (by first | exact hc1 | omega) (by first | exact hc6 | omega)) (by decide) (Nat.le_of_ble_eq_true rfl) (by decide) sh_77 rfl rfl rfl (Nat.le_of_ble_eq_true rfl) ?_
                    refine ev_st (σ' := av_set σ 78 (dpr (msc (σ 78) c ((mnet (σ 78) c a) ||| (mnet (σ 78) c b)) ch (σ 78 (190 + (4 * a) + ch)) (σ 78 (214 + (4 * a) + ch))) c (mnet (σ 78) c b) ch)) (by first | rfl | (funext a; by_cases q78 : a = 78; (next => subst q78; rfl); simp only [av_set, q78, if_false]) | exact av_set_set _ _ _ _ | (funext a; unfold av_set; (repeat' split) <;> first | rfl | (exfalso; omega)) | (funext a; simp only [av_set, cpS]; (repeat' split) <;> first | rfl | (exfalso; omega))) ?_
                    refine ev_aload_n dX6_mergeChannel_192 rfl 8 rfl ?_
                    refine ev_getR dX6_mergeChannel_193 C_X6 L_X6_7 (by decide) (by decide) sh_77 rfl ?_
                    refine ev_iconst dX6_mergeChannel_196 (v := nI 3) (by decide) ?_
                    refine ev_dup2_ia dX6_mergeChannel_197 ?_
                    refine ev_iald (e := 3) (v := (dpr (msc (σ 78) c ((mnet (σ 78) c a) ||| (mnet (σ 78) c b)) ch (σ 78 (190 + (4 * a) + ch)) (σ 78 (214 + (4 * a) + ch))) c (mnet (σ 78) c b) ch) 3) dX6_mergeChannel_198 (by decide) sh_78 (by omega) (by decide) (by first | rfl | (simp only [av_set, cpS]; (repeat' split) <;> first | rfl | (exfalso; omega))) ?_
                    refine ev_iload dX6_mergeChannel_199 0 rfl ?_
                    refine ev_callSi (x := nI (cb 10 (σ 78 (214 + (4 * b) + ch)))) dX6_mergeChannel_201 (Or.inl M_X6_79) Y_X6_bitCount [.int (σ 78 (214 + (4 * b) + ch))] (c_X6_bitCount (σ 78 (214 + (4 * b) + ch)) ) (by decide) (Nat.le_of_ble_eq_true rfl) rfl rfl (Nat.le_of_ble_eq_true rfl) ?_
                    refine ev_iadd dX6_mergeChannel_204 ?_
                    refine ev_iast (e := 3) dX6_mergeChannel_205 (by decide) sh_78 (by omega) (by decide) ?_
                    refine ev_st (σ' := av_set σ 78 (upd (dpr (msc (σ 78) c ((mnet (σ 78) c a) ||| (mnet (σ 78) c b)) ch (σ 78 (190 + (4 * a) + ch)) (σ 78 (214 + (4 * a) + ch))) c (mnet (σ 78) c b) ch) 3 (((dpr (msc (σ 78) c ((mnet (σ 78) c a) ||| (mnet (σ 78) c b)) ch (σ 78 (190 + (4 * a) + ch)) (σ 78 (214 + (4 * a) + ch))) c (mnet (σ 78) c b) ch) 3) + (nI (cb 10 (σ 78 (214 + (4 * b) + ch))))))) (by first | rfl | (funext a; by_cases q78 : a = 78; (next => subst q78; rfl); simp only [av_set, q78, if_false]) | exact av_set_set _ _ _ _ | (funext a; unfold av_set; (repeat' split) <;> first | rfl | (exfalso; omega)) | (funext a; simp only [av_set, cpS]; (repeat' split) <;> first | rfl | (exfalso; omega))) ?_
                    refine ev_goto (tgt := 254) dX6_mergeChannel_206 (by decide) ?_
                    exact ev_return dX6_mergeChannel_254 rfl (leafV hQ (by unfold mmc; first | (rw [if_pos h21, if_pos h38]; exact (av_set_self _ _).symm) | rw [if_pos h21, if_neg h38] | rw [if_neg h21, if_pos h38] | rw [if_neg h21, if_neg h38, if_pos h126] | (rw [if_neg h21, if_neg h38, if_neg h126, if_pos h163]; rfl) | (rw [if_neg h21, if_neg h38, if_neg h126, if_neg h163]; rfl)))
          · refine ev_aload_n dX6_mergeChannel_129 rfl 8 rfl ?_
            refine ev_iload dX6_mergeChannel_130 7 rfl ?_
            refine ev_iload dX6_mergeChannel_132 6 rfl ?_
            refine ev_ior dX6_mergeChannel_134 ?_
            refine ev_iload_n dX6_mergeChannel_135 rfl 11 rfl ?_
            refine ev_iload dX6_mergeChannel_136 3 rfl ?_
            refine ev_iload dX6_mergeChannel_138 1 rfl ?_
            refine ev_iload dX6_mergeChannel_140 0 rfl ?_
            refine ev_ior dX6_mergeChannel_142 ?_
            refine ev_callVv (σ' := av_set σ 78 (msc (σ 78) c ((mnet (σ 78) c a) ||| (mnet (σ 78) c b)) ch (σ 78 (190 + (4 * a) + ch)) ((σ 78 (214 + (4 * a) + ch)) ||| (σ 78 (214 + (4 * b) + ch))))) dX6_mergeChannel_143 M_X6_85 Y_X6_setChannel [.int ((mnet (σ 78) c a) ||| (mnet (σ 78) c b)), .int (nI ch), .int (σ 78 (190 + (4 * a) + ch)), .int ((σ 78 (214 + (4 * a) + ch)) ||| (σ 78 (214 + (4 * b) + ch)))] (c_X6_setChannel ((mnet (σ 78) c a) ||| (mnet (σ 78) c b)) ch (σ 78 (190 + (4 * a) + ch)) ((σ 78 (214 + (4 * a) + ch)) ||| (σ 78 (214 + (4 * b) + ch))) c (by omega) (by first | exact hcn | omega) (by first | exact hc1 | omega) (by first | exact hc6 | omega)) (by decide) (Nat.le_of_ble_eq_true rfl) (by decide) sh_77 rfl rfl rfl (Nat.le_of_ble_eq_true rfl) ?_
            refine ev_goto (tgt := 254) dX6_mergeChannel_146 (by decide) ?_
            exact ev_return dX6_mergeChannel_254 rfl (leafV hQ (by unfold mmc; first | (rw [if_pos h21, if_pos h38]; exact (av_set_self _ _).symm) | rw [if_pos h21, if_neg h38] | rw [if_neg h21, if_pos h38] | rw [if_neg h21, if_neg h38, if_pos h126] | (rw [if_neg h21, if_neg h38, if_neg h126, if_pos h163]; rfl) | (rw [if_neg h21, if_neg h38, if_neg h126, if_neg h163]; rfl)))

set_option maxRecDepth 100000 in
set_option maxHeartbeats 1000000 in
theorem c_X6_createServers_bad {l : Launch} {σ : av_S} (x : Int32) (hx : inb x (nI 1) (nI 6) = false) : av_M l RX6 cX6_createServers 4 (some .int) 1 [.ref 77, .int x] σ (some (.int (-1))) σ := by
  intro Q hQ
  show av_Ev l RX6 cX6_createServers 4 (some .int) av_E0 1 0 [(0, .ref 77), (1, .int x)] [] σ Q
  refine ev_iload_n dX6_createServers_0 rfl 1 rfl ?_
  refine ev_iconst dX6_createServers_1 (v := nI 1) (by decide) ?_
  refine ev_bipush dX6_createServers_2 (v := nI 6) (by decide) ?_
  refine ev_callSi (x := b2i (inb x (nI 1) (nI 6))) dX6_createServers_4 (Or.inl M_X6_42) Y_X6_in [.int x, .int (nI 1), .int (nI 6)] (c_X6_in x (nI 1) (nI 6) ) (by decide) (Nat.le_of_ble_eq_true rfl) rfl rfl (Nat.le_of_ble_eq_true rfl) ?_
  refine ev_ifb_ne (tgt := 12) dX6_createServers_7 (by decide) (fun h7 => ?_) (fun h7 => ?_)
  · exact absurd (hx.symm.trans h7) (by decide)
  · refine ev_iconst dX6_createServers_10 (v := (-1)) (by decide) ?_
    exact ev_ireturn dX6_createServers_11 rfl rfl (leafI hQ rfl rfl)

set_option maxRecDepth 100000 in
set_option maxHeartbeats 1000000 in
theorem c_X6_createServers_ok {l : Launch} {σ : av_S} (x : Int32) (u : Nat) (hx : inb x (nI 1) (nI 6) = true) (hu : σ 77 2 = nI u) (hu8 : u ≤ 8) : av_M l RX6 cX6_createServers 4 (some .int) 1 [.ref 77, .int x] σ (some (.int (nI (mcu (σ 78))))) (av_set (av_set (av_set σ 77 (upd (σ 77) 2 (nI (svU u)))) 78 (mrs (σ 78) x)) 79 (svH (σ 79) (σ 78) u)) := by
  intro Q hQ
  show av_Ev l RX6 cX6_createServers 4 (some .int) av_E0 1 0 [(0, .ref 77), (1, .int x)] [] σ Q
  refine ev_iload_n dX6_createServers_0 rfl 1 rfl ?_
  refine ev_iconst dX6_createServers_1 (v := nI 1) (by decide) ?_
  refine ev_bipush dX6_createServers_2 (v := nI 6) (by decide) ?_
  refine ev_callSi (x := b2i (inb x (nI 1) (nI 6))) dX6_createServers_4 (Or.inl M_X6_42) Y_X6_in [.int x, .int (nI 1), .int (nI 6)] (c_X6_in x (nI 1) (nI 6) ) (by decide) (Nat.le_of_ble_eq_true rfl) rfl rfl (Nat.le_of_ble_eq_true rfl) ?_
  refine ev_ifb_ne (tgt := 12) dX6_createServers_7 (by decide) (fun h7 => ?_) (fun h7 => ?_)
  · refine ev_aload_n dX6_createServers_12 rfl 0 rfl ?_
    refine ev_callVv (σ' := av_set (av_set σ 77 (upd (σ 77) 2 (nI (svU u)))) 79 (svH (σ 79) (σ 78) u)) dX6_createServers_13 M_X6_69 Y_X6_save [] (c_X6_save u (by first | exact hu | omega) (by first | exact hu8 | omega)) (by decide) (Nat.le_of_ble_eq_true rfl) (by decide) sh_77 rfl rfl rfl (Nat.le_of_ble_eq_true rfl) ?_
    refine ev_iconst dX6_createServers_16 (v := nI 0) (by decide) ?_
    refine ev_istore_n (lv' := [(2, .int (nI 0)), (0, .ref 77), (1, .int x)]) dX6_createServers_17 rfl (by decide) rfl ?_
    refine ev_bipush dX6_createServers_18 (v := nI 10) (by decide) ?_
    refine ev_istore_n (lv' := [(3, .int (nI 10)), (2, .int (nI 0)), (0, .ref 77), (1, .int x)]) dX6_createServers_20 rfl (by decide) rfl ?_
    refine ev_lv (lv' := [(0, .ref 77), (1, .int x), (2, .int (nI 0)), (3, .int (nI 10))]) [2, 3, 1, 0] rfl ?_
    refine loop_up (fun k => av_Ev l RX6 cX6_createServers 4 (some .int) av_E0 1 21 [(0, .ref 77), (1, .int x), (2, .int (nI (fo k (fun k c => if σ 78 (10 + k) = -9 then c + 0 else c + 1) 0))), (3, .int (nI (10 + k)))] [] (av_set (av_set σ 77 (upd (σ 77) 2 (nI (svU u)))) 79 (svH (σ 79) (σ 78) u)) Q) 60 ?_ ?_
    · show av_Ev l RX6 cX6_createServers 4 (some .int) av_E0 1 21 [(0, .ref 77), (1, .int x), (2, .int (nI (fo 60 (fun k c => if σ 78 (10 + k) = -9 then c + 0 else c + 1) 0))), (3, .int (nI (10 + 60)))] [] (av_set (av_set σ 77 (upd (σ 77) 2 (nI (svU u)))) 79 (svH (σ 79) (σ 78) u)) Q
      refine ev_iload_n dX6_createServers_21 rfl 3 rfl ?_
      refine ev_bipush dX6_createServers_22 (v := nI 70) (by decide) ?_
      refine ev_ncmp_ge (tgt := 52) dX6_createServers_24 (by decide) (by omega) (by omega) (fun h24 => ?_) (fun h24 => ?_)
      · refine ev_aload_n dX6_createServers_52 rfl 0 rfl ?_
        refine ev_iload_n dX6_createServers_53 rfl 1 rfl ?_
        refine ev_callVv dX6_createServers_54 M_X6_34 Y_X6_reset [.int x] (c_X6_reset x ) (by decide) (Nat.le_of_ble_eq_true rfl) (by decide) sh_77 rfl rfl rfl (Nat.le_of_ble_eq_true rfl) ?_
        refine ev_st (σ' := av_set (av_set (av_set σ 77 (upd (σ 77) 2 (nI (svU u)))) 78 (mrs (σ 78) x)) 79 (svH (σ 79) (σ 78) u)) (by first | rfl | (funext a; by_cases q77 : a = 77; (next => subst q77; rfl); by_cases q78 : a = 78; (next => subst q78; rfl); by_cases q79 : a = 79; (next => subst q79; rfl); simp only [av_set, q77, q78, q79, if_false]) | exact av_set_set _ _ _ _ | (funext a; unfold av_set; (repeat' split) <;> first | rfl | (exfalso; omega)) | (funext a; simp only [av_set, cpS]; (repeat' split) <;> first | rfl | (exfalso; omega))) ?_
        refine ev_iload_n dX6_createServers_57 rfl 2 rfl ?_
        exact ev_ireturn dX6_createServers_58 rfl rfl (leafI hQ (by first | rfl | (simp [h7, h24]; done)) rfl)
      · exact absurd h24 (by omega)
    · intro k hk ihk
      show av_Ev l RX6 cX6_createServers 4 (some .int) av_E0 1 21 [(0, .ref 77), (1, .int x), (2, .int (nI (fo k (fun k c => if σ 78 (10 + k) = -9 then c + 0 else c + 1) 0))), (3, .int (nI (10 + k)))] [] (av_set (av_set σ 77 (upd (σ 77) 2 (nI (svU u)))) 79 (svH (σ 79) (σ 78) u)) Q
      refine ev_iload_n dX6_createServers_21 rfl 3 rfl ?_
      refine ev_bipush dX6_createServers_22 (v := nI 70) (by decide) ?_
      refine ev_ncmp_ge (tgt := 52) dX6_createServers_24 (by decide) (by omega) (by omega) (fun h24 => ?_) (fun h24 => ?_)
      · exact absurd h24 (by omega)
      · refine ev_iload_n dX6_createServers_27 rfl 2 rfl ?_
        refine ev_aload_n dX6_createServers_28 rfl 0 rfl ?_
        refine ev_getR dX6_createServers_29 C_X6 L_X6_7 (by decide) (by decide) sh_77 rfl ?_
        refine ev_iload_n dX6_createServers_32 rfl 3 rfl ?_
        refine ev_iald (e := 10 + k) (v := σ 78 (10 + k)) dX6_createServers_33 (by decide) sh_78 (by omega) (by decide) (by first | rfl | (simp only [av_set, cpS]; (repeat' split) <;> first | rfl | (exfalso; omega))) ?_
        refine ev_bipush dX6_createServers_34 (v := (-9)) (by decide) ?_
        refine ev_icmp_ne (tgt := 43) dX6_createServers_36 (by decide) (fun h36 => ?_) (fun h36 => ?_)
        · refine ev_iconst dX6_createServers_43 (v := nI 1) (by decide) ?_
          refine ev_iadd dX6_createServers_44 ?_
          refine ev_top (v := nI (fo k (fun k c => if σ 78 (10 + k) = -9 then c + 0 else c + 1) 0 + 1)) (nI_add _ _) ?_
          refine ev_istore_n (lv' := [(2, .int (nI (fo k (fun k c => if σ 78 (10 + k) = -9 then c + 0 else c + 1) 0 + 1))), (0, .ref 77), (1, .int x), (3, .int (nI (10 + k)))]) dX6_createServers_45 rfl (by decide) rfl ?_
          refine ev_iinc (lv' := [(3, .int (nI (10 + k + 1))), (2, .int (nI (fo k (fun k c => if σ 78 (10 + k) = -9 then c + 0 else c + 1) 0 + 1))), (0, .ref 77), (1, .int x)]) dX6_createServers_46 3 rfl (nI_inc (10 + k)) (by decide) rfl ?_
          refine ev_goto (tgt := 21) dX6_createServers_49 (by decide) ?_
          refine ev_lv (lv' := [(0, .ref 77), (1, .int x), (2, .int (nI (fo k (fun k c => if σ 78 (10 + k) = -9 then c + 0 else c + 1) 0 + 1))), (3, .int (nI (10 + k + 1)))]) [2, 3, 1, 0] rfl ?_
          have ih9 : av_Ev l RX6 cX6_createServers 4 (some .int) av_E0 1 21 [(0, .ref 77), (1, .int x), (2, .int (nI (fo (k + 1) (fun k c => if σ 78 (10 + k) = -9 then c + 0 else c + 1) 0))), (3, .int (nI (10 + (k + 1))))] [] (av_set (av_set σ 77 (upd (σ 77) 2 (nI (svU u)))) 79 (svH (σ 79) (σ 78) u)) Q := ihk
          rw [show nI (fo (k + 1) (fun k c => if σ 78 (10 + k) = -9 then c + 0 else c + 1) 0) = nI (fo k (fun k c => if σ 78 (10 + k) = -9 then c + 0 else c + 1) 0 + 1) from (by rw [fo_s]; simp [h7, h24, h36])] at ih9
          rw [show nI (10 + (k + 1)) = nI (10 + k + 1) from rfl] at ih9
          exact ih9
        · refine ev_iconst dX6_createServers_39 (v := nI 0) (by decide) ?_
          refine ev_goto (tgt := 44) dX6_createServers_40 (by decide) ?_
          refine ev_iadd dX6_createServers_44 ?_
          refine ev_top (v := nI (fo k (fun k c => if σ 78 (10 + k) = -9 then c + 0 else c + 1) 0 + 0)) (nI_add _ _) ?_
          refine ev_istore_n (lv' := [(2, .int (nI (fo k (fun k c => if σ 78 (10 + k) = -9 then c + 0 else c + 1) 0 + 0))), (0, .ref 77), (1, .int x), (3, .int (nI (10 + k)))]) dX6_createServers_45 rfl (by decide) rfl ?_
          refine ev_iinc (lv' := [(3, .int (nI (10 + k + 1))), (2, .int (nI (fo k (fun k c => if σ 78 (10 + k) = -9 then c + 0 else c + 1) 0 + 0))), (0, .ref 77), (1, .int x)]) dX6_createServers_46 3 rfl (nI_inc (10 + k)) (by decide) rfl ?_
          refine ev_goto (tgt := 21) dX6_createServers_49 (by decide) ?_
          refine ev_lv (lv' := [(0, .ref 77), (1, .int x), (2, .int (nI (fo k (fun k c => if σ 78 (10 + k) = -9 then c + 0 else c + 1) 0 + 0))), (3, .int (nI (10 + k + 1)))]) [2, 3, 1, 0] rfl ?_
          have ih9 : av_Ev l RX6 cX6_createServers 4 (some .int) av_E0 1 21 [(0, .ref 77), (1, .int x), (2, .int (nI (fo (k + 1) (fun k c => if σ 78 (10 + k) = -9 then c + 0 else c + 1) 0))), (3, .int (nI (10 + (k + 1))))] [] (av_set (av_set σ 77 (upd (σ 77) 2 (nI (svU u)))) 79 (svH (σ 79) (σ 78) u)) Q := ihk
          rw [show nI (fo (k + 1) (fun k c => if σ 78 (10 + k) = -9 then c + 0 else c + 1) 0) = nI (fo k (fun k c => if σ 78 (10 + k) = -9 then c + 0 else c + 1) 0 + 0) from (by rw [fo_s]; simp [h7, h24, h36])] at ih9
          rw [show nI (10 + (k + 1)) = nI (10 + k + 1) from rfl] at ih9
          exact ih9
  · exact absurd (hx.symm.trans h7) (by decide)

set_option maxRecDepth 100000 in
set_option maxHeartbeats 1000000 in
theorem c_X6_connect_bad {l : Launch} {σ : av_S} (x : Int32) (y : Int32) (c : Nat) (hx : (sv (nI c) x && sv (nI c) y) = false) (hcn : σ 78 0 = nI c) (hc1 : 1 ≤ c) (hc6 : c ≤ 6) : av_M l RX6 cX6_connect 5 (some .int) 3 [.ref 77, .int x, .int y] σ (some (.int (-1))) σ := by
  intro Q hQ
  show av_Ev l RX6 cX6_connect 5 (some .int) av_E0 3 0 [(0, .ref 77), (1, .int x), (2, .int y)] [] σ Q
  refine ev_aload_n dX6_connect_0 rfl 0 rfl ?_
  refine ev_iload_n dX6_connect_1 rfl 1 rfl ?_
  refine ev_iload_n dX6_connect_2 rfl 2 rfl ?_
  refine ev_callVi (x := b2i (sv (nI c) x && sv (nI c) y)) dX6_connect_3 M_X6_92 Y_X6_areServers [.int x, .int y] (c_X6_areServers x y c (by first | exact hcn | omega) (by first | exact hc1 | omega) (by first | exact hc6 | omega)) (by decide) (Nat.le_of_ble_eq_true rfl) (by decide) sh_77 rfl rfl rfl (Nat.le_of_ble_eq_true rfl) ?_
  refine ev_ifb_eq (tgt := 14) dX6_connect_6 (by decide) (fun h6 => ?_) (fun h6 => ?_)
  · refine ev_iconst dX6_connect_14 (v := (-1)) (by decide) ?_
    exact ev_ireturn dX6_connect_15 rfl rfl (leafI hQ rfl rfl)
  · exact absurd hx (by simp [h6])

set_option maxRecDepth 100000 in
set_option maxHeartbeats 1000000 in
theorem c_X6_connect_same {l : Launch} {σ : av_S} (x : Int32) (c : Nat) (hcn : σ 78 0 = nI c) (hc1 : 1 ≤ c) (hc6 : c ≤ 6) : av_M l RX6 cX6_connect 5 (some .int) 3 [.ref 77, .int x, .int x] σ (some (.int (-1))) σ := by
  intro Q hQ
  show av_Ev l RX6 cX6_connect 5 (some .int) av_E0 3 0 [(0, .ref 77), (1, .int x), (2, .int x)] [] σ Q
  refine ev_aload_n dX6_connect_0 rfl 0 rfl ?_
  refine ev_iload_n dX6_connect_1 rfl 1 rfl ?_
  refine ev_iload_n dX6_connect_2 rfl 2 rfl ?_
  refine ev_callVi (x := b2i (sv (nI c) x && sv (nI c) x)) dX6_connect_3 M_X6_92 Y_X6_areServers [.int x, .int x] (c_X6_areServers x x c (by first | exact hcn | omega) (by first | exact hc1 | omega) (by first | exact hc6 | omega)) (by decide) (Nat.le_of_ble_eq_true rfl) (by decide) sh_77 rfl rfl rfl (Nat.le_of_ble_eq_true rfl) ?_
  refine ev_ifb_eq (tgt := 14) dX6_connect_6 (by decide) (fun h6 => ?_) (fun h6 => ?_)
  · refine ev_iconst dX6_connect_14 (v := (-1)) (by decide) ?_
    exact ev_ireturn dX6_connect_15 rfl rfl (leafI hQ rfl rfl)
  · refine ev_iload_n dX6_connect_9 rfl 1 rfl ?_
    refine ev_iload_n dX6_connect_10 rfl 2 rfl ?_
    refine ev_icmp_ne (tgt := 16) dX6_connect_11 (by decide) (fun h11 => ?_) (fun h11 => ?_)
    · exact absurd rfl h11
    · refine ev_iconst dX6_connect_14 (v := (-1)) (by decide) ?_
      exact ev_ireturn dX6_connect_15 rfl rfl (leafI hQ rfl rfl)

set_option maxRecDepth 100000 in
set_option maxHeartbeats 1000000 in
theorem c_X6_connect_st {l : Launch} {σ : av_S} (a : Nat) (b : Nat) (c : Nat) (ha : a < 6) (hb : b < 6) (hs : (sv (nI c) (nI a) && sv (nI c) (nI b)) = true) (hab : ¬ a = b) (hsh : tb (mnet (σ 78) c a) b = true) (hcn : σ 78 0 = nI c) (hc1 : 1 ≤ c) (hc6 : c ≤ 6) : av_M l RX6 cX6_connect 5 (some .int) 3 [.ref 77, .int (nI a), .int (nI b)] σ (some (.int (-2))) σ := by
  intro Q hQ
  show av_Ev l RX6 cX6_connect 5 (some .int) av_E0 3 0 [(0, .ref 77), (1, .int (nI a)), (2, .int (nI b))] [] σ Q
  refine ev_aload_n dX6_connect_0 rfl 0 rfl ?_
  refine ev_iload_n dX6_connect_1 rfl 1 rfl ?_
  refine ev_iload_n dX6_connect_2 rfl 2 rfl ?_
  refine ev_callVi (x := b2i (sv (nI c) (nI a) && sv (nI c) (nI b))) dX6_connect_3 M_X6_92 Y_X6_areServers [.int (nI a), .int (nI b)] (c_X6_areServers (nI a) (nI b) c (by first | exact hcn | omega) (by first | exact hc1 | omega) (by first | exact hc6 | omega)) (by decide) (Nat.le_of_ble_eq_true rfl) (by decide) sh_77 rfl rfl rfl (Nat.le_of_ble_eq_true rfl) ?_
  refine ev_ifb_eq (tgt := 14) dX6_connect_6 (by decide) (fun h6 => ?_) (fun h6 => ?_)
  · exact absurd (hs.symm.trans h6) (by decide)
  · refine ev_iload_n dX6_connect_9 rfl 1 rfl ?_
    refine ev_iload_n dX6_connect_10 rfl 2 rfl ?_
    refine ev_ncmp_ne (tgt := 16) dX6_connect_11 (by decide) (by omega) (by omega) (fun h11 => ?_) (fun h11 => ?_)
    · refine ev_aload_n dX6_connect_16 rfl 0 rfl ?_
      refine ev_iload_n dX6_connect_17 rfl 1 rfl ?_
      refine ev_iload_n dX6_connect_18 rfl 2 rfl ?_
      refine ev_callVi (x := b2i (tb (mnet (σ 78) c a) b)) dX6_connect_19 M_X6_95 Y_X6_areConnected [.int (nI a), .int (nI b)] (c_X6_areConnected a b c (by omega) (by omega) (by first | exact hcn | omega) (by first | exact hc1 | omega) (by first | exact hc6 | omega)) (by decide) (Nat.le_of_ble_eq_true rfl) (by decide) sh_77 rfl rfl rfl (Nat.le_of_ble_eq_true rfl) ?_
      refine ev_ifb_eq (tgt := 28) dX6_connect_22 (by decide) (fun h22 => ?_) (fun h22 => ?_)
      · exact absurd (hsh.symm.trans h22) (by decide)
      · refine ev_bipush dX6_connect_25 (v := (-2)) (by decide) ?_
        exact ev_ireturn dX6_connect_27 rfl rfl (leafI hQ rfl rfl)
    · exact absurd h11 (by omega)

set_option maxRecDepth 100000 in
set_option maxHeartbeats 1000000 in
theorem c_X6_connect_ok {l : Launch} {σ : av_S} (a : Nat) (b : Nat) (c : Nat) (u : Nat) (ha : a < 6) (hb : b < 6) (hs : (sv (nI c) (nI a) && sv (nI c) (nI b)) = true) (hab : ¬ a = b) (hsh : tb (mnet (σ 78) c a) b = false) (hcn : σ 78 0 = nI c) (hc1 : 1 ≤ c) (hc6 : c ≤ 6) (hu : σ 77 2 = nI u) (hu8 : u ≤ 8) : av_M l RX6 cX6_connect 5 (some .int) 4 [.ref 77, .int (nI a), .int (nI b)] σ (some (.int (nI ((mcnK (σ 78) c a b).1)))) (av_set (av_set (av_set σ 77 (upd (σ 77) 2 (nI (svU u)))) 78 (mcn (σ 78) c a b)) 79 (svH (σ 79) (σ 78) u)) := by
  intro Q hQ
  show av_Ev l RX6 cX6_connect 5 (some .int) av_E0 4 0 [(0, .ref 77), (1, .int (nI a)), (2, .int (nI b))] [] σ Q
  refine ev_aload_n dX6_connect_0 rfl 0 rfl ?_
  refine ev_iload_n dX6_connect_1 rfl 1 rfl ?_
  refine ev_iload_n dX6_connect_2 rfl 2 rfl ?_
  refine ev_callVi (x := b2i (sv (nI c) (nI a) && sv (nI c) (nI b))) dX6_connect_3 M_X6_92 Y_X6_areServers [.int (nI a), .int (nI b)] (c_X6_areServers (nI a) (nI b) c (by first | exact hcn | omega) (by first | exact hc1 | omega) (by first | exact hc6 | omega)) (by decide) (Nat.le_of_ble_eq_true rfl) (by decide) sh_77 rfl rfl rfl (Nat.le_of_ble_eq_true rfl) ?_
  refine ev_ifb_eq (tgt := 14) dX6_connect_6 (by decide) (fun h6 => ?_) (fun h6 => ?_)
  · exact absurd (hs.symm.trans h6) (by decide)
  · refine ev_iload_n dX6_connect_9 rfl 1 rfl ?_
    refine ev_iload_n dX6_connect_10 rfl 2 rfl ?_
    refine ev_ncmp_ne (tgt := 16) dX6_connect_11 (by decide) (by omega) (by omega) (fun h11 => ?_) (fun h11 => ?_)
    · refine ev_aload_n dX6_connect_16 rfl 0 rfl ?_
      refine ev_iload_n dX6_connect_17 rfl 1 rfl ?_
      refine ev_iload_n dX6_connect_18 rfl 2 rfl ?_
      refine ev_callVi (x := b2i (tb (mnet (σ 78) c a) b)) dX6_connect_19 M_X6_95 Y_X6_areConnected [.int (nI a), .int (nI b)] (c_X6_areConnected a b c (by omega) (by omega) (by first | exact hcn | omega) (by first | exact hc1 | omega) (by first | exact hc6 | omega)) (by decide) (Nat.le_of_ble_eq_true rfl) (by decide) sh_77 rfl rfl rfl (Nat.le_of_ble_eq_true rfl) ?_
      refine ev_ifb_eq (tgt := 28) dX6_connect_22 (by decide) (fun h22 => ?_) (fun h22 => ?_)
      · refine ev_aload_n dX6_connect_28 rfl 0 rfl ?_
        refine ev_callVv (σ' := av_set (av_set σ 77 (upd (σ 77) 2 (nI (svU u)))) 79 (svH (σ 79) (σ 78) u)) dX6_connect_29 M_X6_69 Y_X6_save [] (c_X6_save u (by first | exact hu | omega) (by first | exact hu8 | omega)) (by decide) (Nat.le_of_ble_eq_true rfl) (by decide) sh_77 rfl rfl rfl (Nat.le_of_ble_eq_true rfl) ?_
        refine ev_aload_n dX6_connect_32 rfl 0 rfl ?_
        refine ev_getR dX6_connect_33 C_X6 L_X6_7 (by decide) (by decide) sh_77 rfl ?_
        refine ev_iconst dX6_connect_36 (v := nI 2) (by decide) ?_
        refine ev_iconst dX6_connect_37 (v := nI 0) (by decide) ?_
        refine ev_iast (e := 2) dX6_connect_38 (by decide) sh_78 (by omega) (by decide) ?_
        refine ev_st (σ' := av_set (av_set (av_set σ 77 (upd (σ 77) 2 (nI (svU u)))) 78 (upd (σ 78) 2 (nI 0))) 79 (svH (σ 79) (σ 78) u)) (by first | rfl | (funext a; by_cases q77 : a = 77; (next => subst q77; rfl); by_cases q78 : a = 78; (next => subst q78; rfl); by_cases q79 : a = 79; (next => subst q79; rfl); simp only [av_set, q77, q78, q79, if_false]) | exact av_set_set _ _ _ _ | (funext a; unfold av_set; (repeat' split) <;> first | rfl | (exfalso; omega)) | (funext a; simp only [av_set, cpS]; (repeat' split) <;> first | rfl | (exfalso; omega))) ?_
        refine ev_aload_n dX6_connect_39 rfl 0 rfl ?_
        refine ev_getR dX6_connect_40 C_X6 L_X6_7 (by decide) (by decide) sh_77 rfl ?_
        refine ev_iconst dX6_connect_43 (v := nI 3) (by decide) ?_
        refine ev_iconst dX6_connect_44 (v := nI 0) (by decide) ?_
        refine ev_iast (e := 3) dX6_connect_45 (by decide) sh_78 (by omega) (by decide) ?_
        refine ev_st (σ' := av_set (av_set (av_set σ 77 (upd (σ 77) 2 (nI (svU u)))) 78 (upd (upd (σ 78) 2 (nI 0)) 3 (nI 0))) 79 (svH (σ 79) (σ 78) u)) (by first | rfl | (funext a; by_cases q77 : a = 77; (next => subst q77; rfl); by_cases q78 : a = 78; (next => subst q78; rfl); by_cases q79 : a = 79; (next => subst q79; rfl); simp only [av_set, q77, q78, q79, if_false]) | exact av_set_set _ _ _ _ | (funext a; unfold av_set; (repeat' split) <;> first | rfl | (exfalso; omega)) | (funext a; simp only [av_set, cpS]; (repeat' split) <;> first | rfl | (exfalso; omega))) ?_
        refine ev_aload_n dX6_connect_46 rfl 0 rfl ?_
        refine ev_aload_n dX6_connect_47 rfl 0 rfl ?_
        refine ev_iload_n dX6_connect_48 rfl 1 rfl ?_
        refine ev_callVi (x := mnet (upd (upd (σ 78) 2 (nI 0)) 3 (nI 0)) c a) dX6_connect_49 M_X6_54 Y_X6_network [.int (nI a)] (c_X6_network a c (by omega) ((mc0_lo (N := σ 78) (by decide)).trans hcn) (by first | exact hc1 | omega) (by first | exact hc6 | omega)) (by decide) (Nat.le_of_ble_eq_true rfl) (by decide) sh_77 rfl rfl rfl (Nat.le_of_ble_eq_true rfl) ?_
        refine ev_aload_n dX6_connect_52 rfl 0 rfl ?_
        refine ev_iload_n dX6_connect_53 rfl 2 rfl ?_
        refine ev_callVi (x := mnet (upd (upd (σ 78) 2 (nI 0)) 3 (nI 0)) c b) dX6_connect_54 M_X6_54 Y_X6_network [.int (nI b)] (c_X6_network b c (by omega) ((mc0_lo (N := σ 78) (by decide)).trans hcn) (by first | exact hc1 | omega) (by first | exact hc6 | omega)) (by decide) (Nat.le_of_ble_eq_true rfl) (by decide) sh_77 rfl rfl rfl (Nat.le_of_ble_eq_true rfl) ?_
        refine ev_callVi (x := nI ((mkn (upd (upd (σ 78) 2 (nI 0)) 3 (nI 0)) c (mnet (upd (upd (σ 78) 2 (nI 0)) 3 (nI 0)) c a) (mnet (upd (upd (σ 78) 2 (nI 0)) 3 (nI 0)) c b) 10).1)) dX6_connect_57 M_X6_98 Y_X6_mergeNicks [.int (mnet (upd (upd (σ 78) 2 (nI 0)) 3 (nI 0)) c a), .int (mnet (upd (upd (σ 78) 2 (nI 0)) 3 (nI 0)) c b)] (c_X6_mergeNicks (mnet (upd (upd (σ 78) 2 (nI 0)) 3 (nI 0)) c a) (mnet (upd (upd (σ 78) 2 (nI 0)) 3 (nI 0)) c b) c ((mc0_lo (N := σ 78) (by decide)).trans hcn) (by first | exact hc1 | omega) (by first | exact hc6 | omega)) (by decide) (Nat.le_of_ble_eq_true rfl) (by decide) sh_77 rfl rfl rfl (Nat.le_of_ble_eq_true rfl) ?_
        refine ev_st (σ' := av_set (av_set (av_set σ 77 (upd (σ 77) 2 (nI (svU u)))) 78 ((mkn (upd (upd (σ 78) 2 (nI 0)) 3 (nI 0)) c (mnet (upd (upd (σ 78) 2 (nI 0)) 3 (nI 0)) c a) (mnet (upd (upd (σ 78) 2 (nI 0)) 3 (nI 0)) c b) 10).2)) 79 (svH (σ 79) (σ 78) u)) (by first | rfl | (funext a; by_cases q77 : a = 77; (next => subst q77; rfl); by_cases q78 : a = 78; (next => subst q78; rfl); by_cases q79 : a = 79; (next => subst q79; rfl); simp only [av_set, q77, q78, q79, if_false]) | exact av_set_set _ _ _ _ | (funext a; unfold av_set; (repeat' split) <;> first | rfl | (exfalso; omega)) | (funext a; simp only [av_set, cpS]; (repeat' split) <;> first | rfl | (exfalso; omega))) ?_
        refine ev_istore_n (lv' := [(3, .int (nI ((mkn (upd (upd (σ 78) 2 (nI 0)) 3 (nI 0)) c (mnet (upd (upd (σ 78) 2 (nI 0)) 3 (nI 0)) c a) (mnet (upd (upd (σ 78) 2 (nI 0)) 3 (nI 0)) c b) 10).1))), (0, .ref 77), (1, .int (nI a)), (2, .int (nI b))]) dX6_connect_60 rfl (by decide) rfl ?_
        refine ev_iconst dX6_connect_61 (v := nI 0) (by decide) ?_
        refine ev_istore (lv' := [(4, .int (nI 0)), (3, .int (nI ((mkn (upd (upd (σ 78) 2 (nI 0)) 3 (nI 0)) c (mnet (upd (upd (σ 78) 2 (nI 0)) 3 (nI 0)) c a) (mnet (upd (upd (σ 78) 2 (nI 0)) 3 (nI 0)) c b) 10).1))), (0, .ref 77), (1, .int (nI a)), (2, .int (nI b))]) dX6_connect_62 (by decide) rfl ?_
        refine ev_lv (lv' := [(0, .ref 77), (1, .int (nI a)), (2, .int (nI b)), (3, .int (nI ((mkn (upd (upd (σ 78) 2 (nI 0)) 3 (nI 0)) c (mnet (upd (upd (σ 78) 2 (nI 0)) 3 (nI 0)) c a) (mnet (upd (upd (σ 78) 2 (nI 0)) 3 (nI 0)) c b) 10).1))), (4, .int (nI 0))]) [2, 3, 4, 1, 0] rfl ?_
        refine ev_st (σ' := av_set (av_set (av_set σ 77 (upd (σ 77) 2 (nI (svU u)))) 78 (fo 0 (fun ch N => mmc N c a b ch) (mcnK (σ 78) c a b).2)) 79 (svH (σ 79) (σ 78) u)) (by rfl) ?_
        refine loop_up (fun ch => av_Ev l RX6 cX6_connect 5 (some .int) av_E0 4 64 [(0, .ref 77), (1, .int (nI a)), (2, .int (nI b)), (3, .int (nI ((mkn (upd (upd (σ 78) 2 (nI 0)) 3 (nI 0)) c (mnet (upd (upd (σ 78) 2 (nI 0)) 3 (nI 0)) c a) (mnet (upd (upd (σ 78) 2 (nI 0)) 3 (nI 0)) c b) 10).1))), (4, .int (nI ch))] [] (av_set (av_set (av_set σ 77 (upd (σ 77) 2 (nI (svU u)))) 78 (fo ch (fun ch N => mmc N c a b ch) (mcnK (σ 78) c a b).2)) 79 (svH (σ 79) (σ 78) u)) Q) 4 ?_ ?_
        · show av_Ev l RX6 cX6_connect 5 (some .int) av_E0 4 64 [(0, .ref 77), (1, .int (nI a)), (2, .int (nI b)), (3, .int (nI ((mkn (upd (upd (σ 78) 2 (nI 0)) 3 (nI 0)) c (mnet (upd (upd (σ 78) 2 (nI 0)) 3 (nI 0)) c a) (mnet (upd (upd (σ 78) 2 (nI 0)) 3 (nI 0)) c b) 10).1))), (4, .int (nI 4))] [] (av_set (av_set (av_set σ 77 (upd (σ 77) 2 (nI (svU u)))) 78 (fo 4 (fun ch N => mmc N c a b ch) (mcnK (σ 78) c a b).2)) 79 (svH (σ 79) (σ 78) u)) Q
          refine ev_iload dX6_connect_64 4 rfl ?_
          refine ev_iconst dX6_connect_66 (v := nI 4) (by decide) ?_
          refine ev_ncmp_ge (tgt := 84) dX6_connect_67 (by decide) (by omega) (by omega) (fun h67 => ?_) (fun h67 => ?_)
          · refine ev_aload_n dX6_connect_84 rfl 0 rfl ?_
            refine ev_iload_n dX6_connect_85 rfl 1 rfl ?_
            refine ev_iload_n dX6_connect_86 rfl 2 rfl ?_
            refine ev_iconst dX6_connect_87 (v := nI 1) (by decide) ?_
            refine ev_callVv dX6_connect_88 M_X6_105 Y_X6_setLink [.int (nI a), .int (nI b), .int (b2i true)] (c_X6_setLink a b true (by omega) (by omega)) (by decide) (Nat.le_of_ble_eq_true rfl) (by decide) sh_77 rfl rfl rfl (Nat.le_of_ble_eq_true rfl) ?_
            refine ev_st (σ' := av_set (av_set (av_set σ 77 (upd (σ 77) 2 (nI (svU u)))) 78 (mlk (fo 4 (fun ch N => mmc N c a b ch) (mcnK (σ 78) c a b).2) a b true)) 79 (svH (σ 79) (σ 78) u)) (by first | rfl | (funext a; by_cases q77 : a = 77; (next => subst q77; rfl); by_cases q78 : a = 78; (next => subst q78; rfl); by_cases q79 : a = 79; (next => subst q79; rfl); simp only [av_set, q77, q78, q79, if_false]) | exact av_set_set _ _ _ _ | (funext a; unfold av_set; (repeat' split) <;> first | rfl | (exfalso; omega)) | (funext a; simp only [av_set, cpS]; (repeat' split) <;> first | rfl | (exfalso; omega))) ?_
            refine ev_iload_n dX6_connect_91 rfl 3 rfl ?_
            exact ev_ireturn dX6_connect_92 rfl rfl (leafI hQ (by first | rfl | (simp [h6, h11, h22, h67]; done)) rfl)
          · exact absurd h67 (by omega)
        · intro ch hch ihch
          show av_Ev l RX6 cX6_connect 5 (some .int) av_E0 4 64 [(0, .ref 77), (1, .int (nI a)), (2, .int (nI b)), (3, .int (nI ((mkn (upd (upd (σ 78) 2 (nI 0)) 3 (nI 0)) c (mnet (upd (upd (σ 78) 2 (nI 0)) 3 (nI 0)) c a) (mnet (upd (upd (σ 78) 2 (nI 0)) 3 (nI 0)) c b) 10).1))), (4, .int (nI ch))] [] (av_set (av_set (av_set σ 77 (upd (σ 77) 2 (nI (svU u)))) 78 (fo ch (fun ch N => mmc N c a b ch) (mcnK (σ 78) c a b).2)) 79 (svH (σ 79) (σ 78) u)) Q
          refine ev_iload dX6_connect_64 4 rfl ?_
          refine ev_iconst dX6_connect_66 (v := nI 4) (by decide) ?_
          refine ev_ncmp_ge (tgt := 84) dX6_connect_67 (by decide) (by omega) (by omega) (fun h67 => ?_) (fun h67 => ?_)
          · exact absurd h67 (by omega)
          · refine ev_aload_n dX6_connect_70 rfl 0 rfl ?_
            refine ev_iload_n dX6_connect_71 rfl 1 rfl ?_
            refine ev_iload_n dX6_connect_72 rfl 2 rfl ?_
            refine ev_iload dX6_connect_73 4 rfl ?_
            refine ev_callVv dX6_connect_75 M_X6_101 Y_X6_mergeChannel [.int (nI a), .int (nI b), .int (nI ch)] (c_X6_mergeChannel a b ch c (by omega) (by omega) (by omega) ((mmck_lo ch (by decide)).trans ((mkn_lo 10 (by decide)).trans ((mc0_lo (N := σ 78) (by decide)).trans hcn))) (by first | exact hc1 | omega) (by first | exact hc6 | omega)) (by decide) (Nat.le_of_ble_eq_true rfl) (by decide) sh_77 rfl rfl rfl (Nat.le_of_ble_eq_true rfl) ?_
            refine ev_st (σ' := av_set (av_set (av_set σ 77 (upd (σ 77) 2 (nI (svU u)))) 78 (mmc (fo ch (fun ch N => mmc N c a b ch) (mcnK (σ 78) c a b).2) c a b ch)) 79 (svH (σ 79) (σ 78) u)) (by first | rfl | (funext a; by_cases q77 : a = 77; (next => subst q77; rfl); by_cases q78 : a = 78; (next => subst q78; rfl); by_cases q79 : a = 79; (next => subst q79; rfl); simp only [av_set, q77, q78, q79, if_false]) | exact av_set_set _ _ _ _ | (funext a; unfold av_set; (repeat' split) <;> first | rfl | (exfalso; omega)) | (funext a; simp only [av_set, cpS]; (repeat' split) <;> first | rfl | (exfalso; omega))) ?_
            refine ev_iinc (lv' := [(4, .int (nI (ch + 1))), (0, .ref 77), (1, .int (nI a)), (2, .int (nI b)), (3, .int (nI ((mkn (upd (upd (σ 78) 2 (nI 0)) 3 (nI 0)) c (mnet (upd (upd (σ 78) 2 (nI 0)) 3 (nI 0)) c a) (mnet (upd (upd (σ 78) 2 (nI 0)) 3 (nI 0)) c b) 10).1)))]) dX6_connect_78 4 rfl (nI_inc ch) (by decide) rfl ?_
            refine ev_goto (tgt := 64) dX6_connect_81 (by decide) ?_
            refine ev_lv (lv' := [(0, .ref 77), (1, .int (nI a)), (2, .int (nI b)), (3, .int (nI ((mkn (upd (upd (σ 78) 2 (nI 0)) 3 (nI 0)) c (mnet (upd (upd (σ 78) 2 (nI 0)) 3 (nI 0)) c a) (mnet (upd (upd (σ 78) 2 (nI 0)) 3 (nI 0)) c b) 10).1))), (4, .int (nI (ch + 1)))]) [1, 2, 3, 4, 0] rfl ?_
            have ih9 : av_Ev l RX6 cX6_connect 5 (some .int) av_E0 4 64 [(0, .ref 77), (1, .int (nI a)), (2, .int (nI b)), (3, .int (nI ((mkn (upd (upd (σ 78) 2 (nI 0)) 3 (nI 0)) c (mnet (upd (upd (σ 78) 2 (nI 0)) 3 (nI 0)) c a) (mnet (upd (upd (σ 78) 2 (nI 0)) 3 (nI 0)) c b) 10).1))), (4, .int (nI (ch + 1)))] [] (av_set (av_set (av_set σ 77 (upd (σ 77) 2 (nI (svU u)))) 78 (fo (ch + 1) (fun ch N => mmc N c a b ch) (mcnK (σ 78) c a b).2)) 79 (svH (σ 79) (σ 78) u)) Q := ihch
            rw [show av_set (av_set (av_set σ 77 (upd (σ 77) 2 (nI (svU u)))) 78 (fo (ch + 1) (fun ch N => mmc N c a b ch) (mcnK (σ 78) c a b).2)) 79 (svH (σ 79) (σ 78) u) = av_set (av_set (av_set σ 77 (upd (σ 77) 2 (nI (svU u)))) 78 (mmc (fo ch (fun ch N => mmc N c a b ch) (mcnK (σ 78) c a b).2) c a b ch)) 79 (svH (σ 79) (σ 78) u) from rfl] at ih9
            exact ih9
      · exact absurd (hsh.symm.trans h22) (by decide)
    · exact absurd h11 (by omega)

set_option maxRecDepth 100000 in
set_option maxHeartbeats 1000000 in
theorem c_X6_disconnect_bad {l : Launch} {σ : av_S} (x : Int32) (y : Int32) (c : Nat) (hx : (sv (nI c) x && sv (nI c) y) = false) (hcn : σ 78 0 = nI c) (hc1 : 1 ≤ c) (hc6 : c ≤ 6) : av_M l RX6 cX6_disconnect 3 (some .int) 3 [.ref 77, .int x, .int y] σ (some (.int (-1))) σ := by
  intro Q hQ
  show av_Ev l RX6 cX6_disconnect 3 (some .int) av_E0 3 0 [(0, .ref 77), (1, .int x), (2, .int y)] [] σ Q
  refine ev_aload_n dX6_disconnect_0 rfl 0 rfl ?_
  refine ev_iload_n dX6_disconnect_1 rfl 1 rfl ?_
  refine ev_iload_n dX6_disconnect_2 rfl 2 rfl ?_
  refine ev_callVi (x := b2i (sv (nI c) x && sv (nI c) y)) dX6_disconnect_3 M_X6_92 Y_X6_areServers [.int x, .int y] (c_X6_areServers x y c (by first | exact hcn | omega) (by first | exact hc1 | omega) (by first | exact hc6 | omega)) (by decide) (Nat.le_of_ble_eq_true rfl) (by decide) sh_77 rfl rfl rfl (Nat.le_of_ble_eq_true rfl) ?_
  refine ev_ifb_eq (tgt := 14) dX6_disconnect_6 (by decide) (fun h6 => ?_) (fun h6 => ?_)
  · refine ev_iconst dX6_disconnect_14 (v := (-1)) (by decide) ?_
    exact ev_ireturn dX6_disconnect_15 rfl rfl (leafI hQ rfl rfl)
  · exact absurd hx (by simp [h6])

set_option maxRecDepth 100000 in
set_option maxHeartbeats 1000000 in
theorem c_X6_disconnect_same {l : Launch} {σ : av_S} (x : Int32) (c : Nat) (hcn : σ 78 0 = nI c) (hc1 : 1 ≤ c) (hc6 : c ≤ 6) : av_M l RX6 cX6_disconnect 3 (some .int) 3 [.ref 77, .int x, .int x] σ (some (.int (-1))) σ := by
  intro Q hQ
  show av_Ev l RX6 cX6_disconnect 3 (some .int) av_E0 3 0 [(0, .ref 77), (1, .int x), (2, .int x)] [] σ Q
  refine ev_aload_n dX6_disconnect_0 rfl 0 rfl ?_
  refine ev_iload_n dX6_disconnect_1 rfl 1 rfl ?_
  refine ev_iload_n dX6_disconnect_2 rfl 2 rfl ?_
  refine ev_callVi (x := b2i (sv (nI c) x && sv (nI c) x)) dX6_disconnect_3 M_X6_92 Y_X6_areServers [.int x, .int x] (c_X6_areServers x x c (by first | exact hcn | omega) (by first | exact hc1 | omega) (by first | exact hc6 | omega)) (by decide) (Nat.le_of_ble_eq_true rfl) (by decide) sh_77 rfl rfl rfl (Nat.le_of_ble_eq_true rfl) ?_
  refine ev_ifb_eq (tgt := 14) dX6_disconnect_6 (by decide) (fun h6 => ?_) (fun h6 => ?_)
  · refine ev_iconst dX6_disconnect_14 (v := (-1)) (by decide) ?_
    exact ev_ireturn dX6_disconnect_15 rfl rfl (leafI hQ rfl rfl)
  · refine ev_iload_n dX6_disconnect_9 rfl 1 rfl ?_
    refine ev_iload_n dX6_disconnect_10 rfl 2 rfl ?_
    refine ev_icmp_ne (tgt := 16) dX6_disconnect_11 (by decide) (fun h11 => ?_) (fun h11 => ?_)
    · exact absurd rfl h11
    · refine ev_iconst dX6_disconnect_14 (v := (-1)) (by decide) ?_
      exact ev_ireturn dX6_disconnect_15 rfl rfl (leafI hQ rfl rfl)

set_option maxRecDepth 100000 in
set_option maxHeartbeats 1000000 in
theorem c_X6_disconnect_st {l : Launch} {σ : av_S} (a : Nat) (b : Nat) (c : Nat) (ha : a < 6) (hb : b < 6) (hs : (sv (nI c) (nI a) && sv (nI c) (nI b)) = true) (hab : ¬ a = b) (hsh : tb (σ 78 (4 + a)) b = false) (hcn : σ 78 0 = nI c) (hc1 : 1 ≤ c) (hc6 : c ≤ 6) : av_M l RX6 cX6_disconnect 3 (some .int) 3 [.ref 77, .int (nI a), .int (nI b)] σ (some (.int (-2))) σ := by
  intro Q hQ
  show av_Ev l RX6 cX6_disconnect 3 (some .int) av_E0 3 0 [(0, .ref 77), (1, .int (nI a)), (2, .int (nI b))] [] σ Q
  refine ev_aload_n dX6_disconnect_0 rfl 0 rfl ?_
  refine ev_iload_n dX6_disconnect_1 rfl 1 rfl ?_
  refine ev_iload_n dX6_disconnect_2 rfl 2 rfl ?_
  refine ev_callVi (x := b2i (sv (nI c) (nI a) && sv (nI c) (nI b))) dX6_disconnect_3 M_X6_92 Y_X6_areServers [.int (nI a), .int (nI b)] (c_X6_areServers (nI a) (nI b) c (by first | exact hcn | omega) (by first | exact hc1 | omega) (by first | exact hc6 | omega)) (by decide) (Nat.le_of_ble_eq_true rfl) (by decide) sh_77 rfl rfl rfl (Nat.le_of_ble_eq_true rfl) ?_
  refine ev_ifb_eq (tgt := 14) dX6_disconnect_6 (by decide) (fun h6 => ?_) (fun h6 => ?_)
  · exact absurd (hs.symm.trans h6) (by decide)
  · refine ev_iload_n dX6_disconnect_9 rfl 1 rfl ?_
    refine ev_iload_n dX6_disconnect_10 rfl 2 rfl ?_
    refine ev_ncmp_ne (tgt := 16) dX6_disconnect_11 (by decide) (by omega) (by omega) (fun h11 => ?_) (fun h11 => ?_)
    · refine ev_aload_n dX6_disconnect_16 rfl 0 rfl ?_
      refine ev_iload_n dX6_disconnect_17 rfl 1 rfl ?_
      refine ev_iload_n dX6_disconnect_18 rfl 2 rfl ?_
      refine ev_callVi (x := b2i (tb (σ 78 (4 + a)) b)) dX6_disconnect_19 M_X6_109 Y_X6_areLinked [.int (nI a), .int (nI b)] (c_X6_areLinked a b (by omega) (by omega)) (by decide) (Nat.le_of_ble_eq_true rfl) (by decide) sh_77 rfl rfl rfl (Nat.le_of_ble_eq_true rfl) ?_
      refine ev_ifb_ne (tgt := 28) dX6_disconnect_22 (by decide) (fun h22 => ?_) (fun h22 => ?_)
      · exact absurd (hsh.symm.trans h22) (by decide)
      · refine ev_bipush dX6_disconnect_25 (v := (-2)) (by decide) ?_
        exact ev_ireturn dX6_disconnect_27 rfl rfl (leafI hQ rfl rfl)
    · exact absurd h11 (by omega)

set_option maxRecDepth 100000 in
set_option maxHeartbeats 1000000 in
theorem c_X6_disconnect_ok {l : Launch} {σ : av_S} (a : Nat) (b : Nat) (c : Nat) (u : Nat) (ha : a < 6) (hb : b < 6) (hs : (sv (nI c) (nI a) && sv (nI c) (nI b)) = true) (hab : ¬ a = b) (hsh : tb (σ 78 (4 + a)) b = true) (hcn : σ 78 0 = nI c) (hc1 : 1 ≤ c) (hc6 : c ≤ 6) (hu : σ 77 2 = nI u) (hu8 : u ≤ 8) : av_M l RX6 cX6_disconnect 3 (some .int) 3 [.ref 77, .int (nI a), .int (nI b)] σ (some (.int (nI (cb 10 (mnet (mlk (σ 78) a b false) c a))))) (av_set (av_set (av_set σ 77 (upd (σ 77) 2 (nI (svU u)))) 78 (mlk (σ 78) a b false)) 79 (svH (σ 79) (σ 78) u)) := by
  intro Q hQ
  show av_Ev l RX6 cX6_disconnect 3 (some .int) av_E0 3 0 [(0, .ref 77), (1, .int (nI a)), (2, .int (nI b))] [] σ Q
  refine ev_aload_n dX6_disconnect_0 rfl 0 rfl ?_
  refine ev_iload_n dX6_disconnect_1 rfl 1 rfl ?_
  refine ev_iload_n dX6_disconnect_2 rfl 2 rfl ?_
  refine ev_callVi (x := b2i (sv (nI c) (nI a) && sv (nI c) (nI b))) dX6_disconnect_3 M_X6_92 Y_X6_areServers [.int (nI a), .int (nI b)] (c_X6_areServers (nI a) (nI b) c (by first | exact hcn | omega) (by first | exact hc1 | omega) (by first | exact hc6 | omega)) (by decide) (Nat.le_of_ble_eq_true rfl) (by decide) sh_77 rfl rfl rfl (Nat.le_of_ble_eq_true rfl) ?_
  refine ev_ifb_eq (tgt := 14) dX6_disconnect_6 (by decide) (fun h6 => ?_) (fun h6 => ?_)
  · exact absurd (hs.symm.trans h6) (by decide)
  · refine ev_iload_n dX6_disconnect_9 rfl 1 rfl ?_
    refine ev_iload_n dX6_disconnect_10 rfl 2 rfl ?_
    refine ev_ncmp_ne (tgt := 16) dX6_disconnect_11 (by decide) (by omega) (by omega) (fun h11 => ?_) (fun h11 => ?_)
    · refine ev_aload_n dX6_disconnect_16 rfl 0 rfl ?_
      refine ev_iload_n dX6_disconnect_17 rfl 1 rfl ?_
      refine ev_iload_n dX6_disconnect_18 rfl 2 rfl ?_
      refine ev_callVi (x := b2i (tb (σ 78 (4 + a)) b)) dX6_disconnect_19 M_X6_109 Y_X6_areLinked [.int (nI a), .int (nI b)] (c_X6_areLinked a b (by omega) (by omega)) (by decide) (Nat.le_of_ble_eq_true rfl) (by decide) sh_77 rfl rfl rfl (Nat.le_of_ble_eq_true rfl) ?_
      refine ev_ifb_ne (tgt := 28) dX6_disconnect_22 (by decide) (fun h22 => ?_) (fun h22 => ?_)
      · refine ev_aload_n dX6_disconnect_28 rfl 0 rfl ?_
        refine ev_callVv (σ' := av_set (av_set σ 77 (upd (σ 77) 2 (nI (svU u)))) 79 (svH (σ 79) (σ 78) u)) dX6_disconnect_29 M_X6_69 Y_X6_save [] (c_X6_save u (by first | exact hu | omega) (by first | exact hu8 | omega)) (by decide) (Nat.le_of_ble_eq_true rfl) (by decide) sh_77 rfl rfl rfl (Nat.le_of_ble_eq_true rfl) ?_
        refine ev_aload_n dX6_disconnect_32 rfl 0 rfl ?_
        refine ev_iload_n dX6_disconnect_33 rfl 1 rfl ?_
        refine ev_iload_n dX6_disconnect_34 rfl 2 rfl ?_
        refine ev_iconst dX6_disconnect_35 (v := nI 0) (by decide) ?_
        refine ev_callVv dX6_disconnect_36 M_X6_105 Y_X6_setLink [.int (nI a), .int (nI b), .int (b2i false)] (c_X6_setLink a b false (by omega) (by omega)) (by decide) (Nat.le_of_ble_eq_true rfl) (by decide) sh_77 rfl rfl rfl (Nat.le_of_ble_eq_true rfl) ?_
        refine ev_st (σ' := av_set (av_set (av_set σ 77 (upd (σ 77) 2 (nI (svU u)))) 78 (mlk (σ 78) a b false)) 79 (svH (σ 79) (σ 78) u)) (by first | rfl | (funext a; by_cases q77 : a = 77; (next => subst q77; rfl); by_cases q78 : a = 78; (next => subst q78; rfl); by_cases q79 : a = 79; (next => subst q79; rfl); simp only [av_set, q77, q78, q79, if_false]) | exact av_set_set _ _ _ _ | (funext a; unfold av_set; (repeat' split) <;> first | rfl | (exfalso; omega)) | (funext a; simp only [av_set, cpS]; (repeat' split) <;> first | rfl | (exfalso; omega))) ?_
        refine ev_aload_n dX6_disconnect_39 rfl 0 rfl ?_
        refine ev_iload_n dX6_disconnect_40 rfl 1 rfl ?_
        refine ev_callVi (x := mnet (mlk (σ 78) a b false) c a) dX6_disconnect_41 M_X6_54 Y_X6_network [.int (nI a)] (c_X6_network a c (by omega) ((mlk_0 (by decide)).trans hcn) (by first | exact hc1 | omega) (by first | exact hc6 | omega)) (by decide) (Nat.le_of_ble_eq_true rfl) (by decide) sh_77 rfl rfl rfl (Nat.le_of_ble_eq_true rfl) ?_
        refine ev_callSi (x := nI (cb 10 (mnet (mlk (σ 78) a b false) c a))) dX6_disconnect_44 (Or.inl M_X6_79) Y_X6_bitCount [.int (mnet (mlk (σ 78) a b false) c a)] (c_X6_bitCount (mnet (mlk (σ 78) a b false) c a) ) (by decide) (Nat.le_of_ble_eq_true rfl) rfl rfl (Nat.le_of_ble_eq_true rfl) ?_
        exact ev_ireturn dX6_disconnect_47 rfl rfl (leafI hQ rfl rfl)
      · exact absurd (hsh.symm.trans h22) (by decide)
    · exact absurd h11 (by omega)

set_option maxRecDepth 100000 in
set_option maxHeartbeats 1000000 in
theorem c_X6_advance_bad {l : Launch} {σ : av_S} (x : Int32) (hx : inb x (nI 1) (nI 999) = false) : av_M l RX6 cX6_advance 2 (some .int) 1 [.ref 77, .int x] σ (some (.int (-1))) σ := by
  intro Q hQ
  show av_Ev l RX6 cX6_advance 2 (some .int) av_E0 1 0 [(0, .ref 77), (1, .int x)] [] σ Q
  refine ev_iload_n dX6_advance_0 rfl 1 rfl ?_
  refine ev_iconst dX6_advance_1 (v := nI 1) (by decide) ?_
  refine ev_sipush dX6_advance_2 (v := nI 999) (by decide) ?_
  refine ev_callSi (x := b2i (inb x (nI 1) (nI 999))) dX6_advance_5 (Or.inl M_X6_42) Y_X6_in [.int x, .int (nI 1), .int (nI 999)] (c_X6_in x (nI 1) (nI 999) ) (by decide) (Nat.le_of_ble_eq_true rfl) rfl rfl (Nat.le_of_ble_eq_true rfl) ?_
  refine ev_ifb_ne (tgt := 13) dX6_advance_8 (by decide) (fun h8 => ?_) (fun h8 => ?_)
  · exact absurd (hx.symm.trans h8) (by decide)
  · refine ev_iconst dX6_advance_11 (v := (-1)) (by decide) ?_
    exact ev_ireturn dX6_advance_12 rfl rfl (leafI hQ rfl rfl)

set_option maxRecDepth 100000 in
set_option maxHeartbeats 1000000 in
theorem c_X6_advance_lim {l : Launch} {σ : av_S} (x : Nat) (q : Nat) (hx : inb (nI x) (nI 1) (nI 999) = true) (hx9 : x ≤ 999) (hq : σ 78 1 = nI q) (hq9 : q ≤ 9999) (hl : 9999 < q + x) : av_M l RX6 cX6_advance 2 (some .int) 1 [.ref 77, .int (nI x)] σ (some (.int (-3))) σ := by
  intro Q hQ
  show av_Ev l RX6 cX6_advance 2 (some .int) av_E0 1 0 [(0, .ref 77), (1, .int (nI x))] [] σ Q
  refine ev_iload_n dX6_advance_0 rfl 1 rfl ?_
  refine ev_iconst dX6_advance_1 (v := nI 1) (by decide) ?_
  refine ev_sipush dX6_advance_2 (v := nI 999) (by decide) ?_
  refine ev_callSi (x := b2i (inb (nI x) (nI 1) (nI 999))) dX6_advance_5 (Or.inl M_X6_42) Y_X6_in [.int (nI x), .int (nI 1), .int (nI 999)] (c_X6_in (nI x) (nI 1) (nI 999) ) (by decide) (Nat.le_of_ble_eq_true rfl) rfl rfl (Nat.le_of_ble_eq_true rfl) ?_
  refine ev_ifb_ne (tgt := 13) dX6_advance_8 (by decide) (fun h8 => ?_) (fun h8 => ?_)
  · refine ev_aload_n dX6_advance_13 rfl 0 rfl ?_
    refine ev_getR dX6_advance_14 C_X6 L_X6_7 (by decide) (by decide) sh_77 rfl ?_
    refine ev_iconst dX6_advance_17 (v := nI 1) (by decide) ?_
    refine ev_iald (e := 1) (v := σ 78 1) dX6_advance_18 (by decide) sh_78 (by omega) (by decide) rfl ?_
    refine ev_top (v := nI q) hq ?_
    refine ev_iload_n dX6_advance_19 rfl 1 rfl ?_
    refine ev_iadd dX6_advance_20 ?_
    refine ev_top (v := nI (q + x)) (nI_add _ _) ?_
    refine ev_sipush dX6_advance_21 (v := nI 9999) (by decide) ?_
    refine ev_ncmp_le (tgt := 30) dX6_advance_24 (by decide) (by omega) (by omega) (fun h24 => ?_) (fun h24 => ?_)
    · exact absurd h24 (by omega)
    · refine ev_bipush dX6_advance_27 (v := (-3)) (by decide) ?_
      exact ev_ireturn dX6_advance_29 rfl rfl (leafI hQ rfl rfl)
  · exact absurd (hx.symm.trans h8) (by decide)

set_option maxRecDepth 100000 in
set_option maxHeartbeats 1000000 in
theorem c_X6_advance_ok {l : Launch} {σ : av_S} (x : Nat) (q : Nat) (u : Nat) (hx : inb (nI x) (nI 1) (nI 999) = true) (hx9 : x ≤ 999) (hq : σ 78 1 = nI q) (hq9 : q ≤ 9999) (hl : q + x ≤ 9999) (hu : σ 77 2 = nI u) (hu8 : u ≤ 8) : av_M l RX6 cX6_advance 2 (some .int) 1 [.ref 77, .int (nI x)] σ (some (.int (nI (q + x)))) (av_set (av_set (av_set σ 77 (upd (σ 77) 2 (nI (svU u)))) 78 (upd (σ 78) 1 (nI (q + x)))) 79 (svH (σ 79) (σ 78) u)) := by
  intro Q hQ
  show av_Ev l RX6 cX6_advance 2 (some .int) av_E0 1 0 [(0, .ref 77), (1, .int (nI x))] [] σ Q
  refine ev_iload_n dX6_advance_0 rfl 1 rfl ?_
  refine ev_iconst dX6_advance_1 (v := nI 1) (by decide) ?_
  refine ev_sipush dX6_advance_2 (v := nI 999) (by decide) ?_
  refine ev_callSi (x := b2i (inb (nI x) (nI 1) (nI 999))) dX6_advance_5 (Or.inl M_X6_42) Y_X6_in [.int (nI x), .int (nI 1), .int (nI 999)] (c_X6_in (nI x) (nI 1) (nI 999) ) (by decide) (Nat.le_of_ble_eq_true rfl) rfl rfl (Nat.le_of_ble_eq_true rfl) ?_
  refine ev_ifb_ne (tgt := 13) dX6_advance_8 (by decide) (fun h8 => ?_) (fun h8 => ?_)
  · refine ev_aload_n dX6_advance_13 rfl 0 rfl ?_
    refine ev_getR dX6_advance_14 C_X6 L_X6_7 (by decide) (by decide) sh_77 rfl ?_
    refine ev_iconst dX6_advance_17 (v := nI 1) (by decide) ?_
    refine ev_iald (e := 1) (v := σ 78 1) dX6_advance_18 (by decide) sh_78 (by omega) (by decide) rfl ?_
    refine ev_top (v := nI q) hq ?_
    refine ev_iload_n dX6_advance_19 rfl 1 rfl ?_
    refine ev_iadd dX6_advance_20 ?_
    refine ev_top (v := nI (q + x)) (nI_add _ _) ?_
    refine ev_sipush dX6_advance_21 (v := nI 9999) (by decide) ?_
    refine ev_ncmp_le (tgt := 30) dX6_advance_24 (by decide) (by omega) (by omega) (fun h24 => ?_) (fun h24 => ?_)
    · refine ev_aload_n dX6_advance_30 rfl 0 rfl ?_
      refine ev_callVv (σ' := av_set (av_set σ 77 (upd (σ 77) 2 (nI (svU u)))) 79 (svH (σ 79) (σ 78) u)) dX6_advance_31 M_X6_69 Y_X6_save [] (c_X6_save u (by first | exact hu | omega) (by first | exact hu8 | omega)) (by decide) (Nat.le_of_ble_eq_true rfl) (by decide) sh_77 rfl rfl rfl (Nat.le_of_ble_eq_true rfl) ?_
      refine ev_aload_n dX6_advance_34 rfl 0 rfl ?_
      refine ev_getR dX6_advance_35 C_X6 L_X6_7 (by decide) (by decide) sh_77 rfl ?_
      refine ev_iconst dX6_advance_38 (v := nI 1) (by decide) ?_
      refine ev_dup2_ia dX6_advance_39 ?_
      refine ev_iald (e := 1) (v := σ 78 1) dX6_advance_40 (by decide) sh_78 (by omega) (by decide) (by first | rfl | (simp only [av_set, cpS]; (repeat' split) <;> first | rfl | (exfalso; omega))) ?_
      refine ev_top (v := nI q) hq ?_
      refine ev_iload_n dX6_advance_41 rfl 1 rfl ?_
      refine ev_iadd dX6_advance_42 ?_
      refine ev_top (v := nI (q + x)) (nI_add _ _) ?_
      refine ev_iast (e := 1) dX6_advance_43 (by decide) sh_78 (by omega) (by decide) ?_
      refine ev_st (σ' := av_set (av_set (av_set σ 77 (upd (σ 77) 2 (nI (svU u)))) 78 (upd (σ 78) 1 (nI (q + x)))) 79 (svH (σ 79) (σ 78) u)) (by first | rfl | (funext a; by_cases q77 : a = 77; (next => subst q77; rfl); by_cases q78 : a = 78; (next => subst q78; rfl); by_cases q79 : a = 79; (next => subst q79; rfl); simp only [av_set, q77, q78, q79, if_false]) | exact av_set_set _ _ _ _ | (funext a; unfold av_set; (repeat' split) <;> first | rfl | (exfalso; omega)) | (funext a; simp only [av_set, cpS]; (repeat' split) <;> first | rfl | (exfalso; omega))) ?_
      refine ev_aload_n dX6_advance_44 rfl 0 rfl ?_
      refine ev_getR dX6_advance_45 C_X6 L_X6_7 (by decide) (by decide) sh_77 rfl ?_
      refine ev_iconst dX6_advance_48 (v := nI 1) (by decide) ?_
      refine ev_iald (e := 1) (v := nI (q + x)) dX6_advance_49 (by decide) sh_78 (by omega) (by decide) (by first | rfl | (simp only [av_set, cpS]; (repeat' split) <;> first | rfl | (exfalso; omega))) ?_
      exact ev_ireturn dX6_advance_50 rfl rfl (leafI hQ rfl rfl)
    · exact absurd h24 (by omega)
  · exact absurd (hx.symm.trans h8) (by decide)

set_option maxRecDepth 100000 in
set_option maxHeartbeats 1000000 in
theorem c_X6_time {l : Launch} {σ : av_S}   : av_M l RX6 cX6_time 1 (some .int) 0 [.ref 77] σ (some (.int (σ 78 1))) σ := by
  intro Q hQ
  show av_Ev l RX6 cX6_time 1 (some .int) av_E0 0 0 [(0, .ref 77)] [] σ Q
  refine ev_aload_n dX6_time_0 rfl 0 rfl ?_
  refine ev_getR dX6_time_1 C_X6 L_X6_7 (by decide) (by decide) sh_77 rfl ?_
  refine ev_iconst dX6_time_4 (v := nI 1) (by decide) ?_
  refine ev_iald (e := 1) (v := σ 78 1) dX6_time_5 (by decide) sh_78 (by omega) (by decide) rfl ?_
  exact ev_ireturn dX6_time_6 rfl rfl (leafI hQ rfl rfl)

set_option maxRecDepth 100000 in
set_option maxHeartbeats 1000000 in
theorem c_X6_hops_bad {l : Launch} {σ : av_S} (x : Int32) (y : Int32) (c : Nat) (hx : (sv (nI c) x && sv (nI c) y) = false) (hcn : σ 78 0 = nI c) (hc1 : 1 ≤ c) (hc6 : c ≤ 6) : av_M l RX6 cX6_hops 7 (some .int) 3 [.ref 77, .int x, .int y] σ (some (.int (-1))) σ := by
  intro Q hQ
  show av_Ev l RX6 cX6_hops 7 (some .int) av_E0 3 0 [(0, .ref 77), (1, .int x), (2, .int y)] [] σ Q
  refine ev_aload_n dX6_hops_0 rfl 0 rfl ?_
  refine ev_iload_n dX6_hops_1 rfl 1 rfl ?_
  refine ev_iload_n dX6_hops_2 rfl 2 rfl ?_
  refine ev_callVi (x := b2i (sv (nI c) x && sv (nI c) y)) dX6_hops_3 M_X6_92 Y_X6_areServers [.int x, .int y] (c_X6_areServers x y c (by first | exact hcn | omega) (by first | exact hc1 | omega) (by first | exact hc6 | omega)) (by decide) (Nat.le_of_ble_eq_true rfl) (by decide) sh_77 rfl rfl rfl (Nat.le_of_ble_eq_true rfl) ?_
  refine ev_ifb_ne (tgt := 11) dX6_hops_6 (by decide) (fun h6 => ?_) (fun h6 => ?_)
  · exact absurd hx (by simp [h6])
  · refine ev_iconst dX6_hops_9 (v := (-1)) (by decide) ?_
    exact ev_ireturn dX6_hops_10 rfl rfl (leafI hQ rfl rfl)

set_option maxRecDepth 100000 in
set_option maxHeartbeats 1000000 in
theorem c_X6_hops_no {l : Launch} {σ : av_S} (a : Nat) (b : Nat) (c : Nat) (ha : a < 6) (hb : b < 6) (hs : (sv (nI c) (nI a) && sv (nI c) (nI b)) = true) (hsh : tb (mnet (σ 78) c a) b = false) (hcn : σ 78 0 = nI c) (hc1 : 1 ≤ c) (hc6 : c ≤ 6) : av_M l RX6 cX6_hops 7 (some .int) 3 [.ref 77, .int (nI a), .int (nI b)] σ (some (.int (-9))) σ := by
  intro Q hQ
  show av_Ev l RX6 cX6_hops 7 (some .int) av_E0 3 0 [(0, .ref 77), (1, .int (nI a)), (2, .int (nI b))] [] σ Q
  refine ev_aload_n dX6_hops_0 rfl 0 rfl ?_
  refine ev_iload_n dX6_hops_1 rfl 1 rfl ?_
  refine ev_iload_n dX6_hops_2 rfl 2 rfl ?_
  refine ev_callVi (x := b2i (sv (nI c) (nI a) && sv (nI c) (nI b))) dX6_hops_3 M_X6_92 Y_X6_areServers [.int (nI a), .int (nI b)] (c_X6_areServers (nI a) (nI b) c (by first | exact hcn | omega) (by first | exact hc1 | omega) (by first | exact hc6 | omega)) (by decide) (Nat.le_of_ble_eq_true rfl) (by decide) sh_77 rfl rfl rfl (Nat.le_of_ble_eq_true rfl) ?_
  refine ev_ifb_ne (tgt := 11) dX6_hops_6 (by decide) (fun h6 => ?_) (fun h6 => ?_)
  · refine ev_aload_n dX6_hops_11 rfl 0 rfl ?_
    refine ev_iload_n dX6_hops_12 rfl 1 rfl ?_
    refine ev_iload_n dX6_hops_13 rfl 2 rfl ?_
    refine ev_callVi (x := b2i (tb (mnet (σ 78) c a) b)) dX6_hops_14 M_X6_95 Y_X6_areConnected [.int (nI a), .int (nI b)] (c_X6_areConnected a b c (by omega) (by omega) (by first | exact hcn | omega) (by first | exact hc1 | omega) (by first | exact hc6 | omega)) (by decide) (Nat.le_of_ble_eq_true rfl) (by decide) sh_77 rfl rfl rfl (Nat.le_of_ble_eq_true rfl) ?_
    refine ev_ifb_ne (tgt := 23) dX6_hops_17 (by decide) (fun h17 => ?_) (fun h17 => ?_)
    · exact absurd (hsh.symm.trans h17) (by decide)
    · refine ev_bipush dX6_hops_20 (v := (-9)) (by decide) ?_
      exact ev_ireturn dX6_hops_22 rfl rfl (leafI hQ rfl rfl)
  · exact absurd (hs.symm.trans h6) (by decide)

set_option maxRecDepth 100000 in
set_option maxHeartbeats 1000000 in
theorem c_X6_hops_ok {l : Launch} {σ : av_S} (a : Nat) (b : Nat) (K : Nat) (c : Nat) (ha : a < 6) (hb : b < 6) (hs : (sv (nI c) (nI a) && sv (nI c) (nI b)) = true) (hsh : tb (mnet (σ 78) c a) b = true) (hK : tb (mrc (σ 78) c a K) b = true) (hlt : ∀ k, k < K → tb (mrc (σ 78) c a k) b = false) (hK6 : K ≤ 6) (hcn : σ 78 0 = nI c) (hc1 : 1 ≤ c) (hc6 : c ≤ 6) : av_M l RX6 cX6_hops 7 (some .int) 3 [.ref 77, .int (nI a), .int (nI b)] σ (some (.int (nI K))) σ := by
  intro Q hQ
  show av_Ev l RX6 cX6_hops 7 (some .int) av_E0 3 0 [(0, .ref 77), (1, .int (nI a)), (2, .int (nI b))] [] σ Q
  refine ev_aload_n dX6_hops_0 rfl 0 rfl ?_
  refine ev_iload_n dX6_hops_1 rfl 1 rfl ?_
  refine ev_iload_n dX6_hops_2 rfl 2 rfl ?_
  refine ev_callVi (x := b2i (sv (nI c) (nI a) && sv (nI c) (nI b))) dX6_hops_3 M_X6_92 Y_X6_areServers [.int (nI a), .int (nI b)] (c_X6_areServers (nI a) (nI b) c (by first | exact hcn | omega) (by first | exact hc1 | omega) (by first | exact hc6 | omega)) (by decide) (Nat.le_of_ble_eq_true rfl) (by decide) sh_77 rfl rfl rfl (Nat.le_of_ble_eq_true rfl) ?_
  refine ev_ifb_ne (tgt := 11) dX6_hops_6 (by decide) (fun h6 => ?_) (fun h6 => ?_)
  · refine ev_aload_n dX6_hops_11 rfl 0 rfl ?_
    refine ev_iload_n dX6_hops_12 rfl 1 rfl ?_
    refine ev_iload_n dX6_hops_13 rfl 2 rfl ?_
    refine ev_callVi (x := b2i (tb (mnet (σ 78) c a) b)) dX6_hops_14 M_X6_95 Y_X6_areConnected [.int (nI a), .int (nI b)] (c_X6_areConnected a b c (by omega) (by omega) (by first | exact hcn | omega) (by first | exact hc1 | omega) (by first | exact hc6 | omega)) (by decide) (Nat.le_of_ble_eq_true rfl) (by decide) sh_77 rfl rfl rfl (Nat.le_of_ble_eq_true rfl) ?_
    refine ev_ifb_ne (tgt := 23) dX6_hops_17 (by decide) (fun h17 => ?_) (fun h17 => ?_)
    · refine ev_iconst dX6_hops_23 (v := nI 1) (by decide) ?_
      refine ev_iload_n dX6_hops_24 rfl 1 rfl ?_
      refine ev_ishl dX6_hops_25 ?_
      refine ev_top (v := bt a) rfl ?_
      refine ev_istore_n (lv' := [(3, .int (bt a)), (0, .ref 77), (1, .int (nI a)), (2, .int (nI b))]) dX6_hops_26 rfl (by decide) rfl ?_
      refine ev_iconst dX6_hops_27 (v := nI 0) (by decide) ?_
      refine ev_istore (lv' := [(4, .int (nI 0)), (3, .int (bt a)), (0, .ref 77), (1, .int (nI a)), (2, .int (nI b))]) dX6_hops_28 (by decide) rfl ?_
      refine ev_lv (lv' := [(0, .ref 77), (1, .int (nI a)), (2, .int (nI b)), (3, .int (bt a)), (4, .int (nI 0))]) [2, 3, 4, 1, 0] rfl ?_
      refine loop_up (fun k1 => av_Ev l RX6 cX6_hops 7 (some .int) av_E0 3 30 [(0, .ref 77), (1, .int (nI a)), (2, .int (nI b)), (3, .int (mrc (σ 78) c a k1)), (4, .int (nI k1))] [] σ Q) K ?_ ?_
      · show av_Ev l RX6 cX6_hops 7 (some .int) av_E0 3 30 [(0, .ref 77), (1, .int (nI a)), (2, .int (nI b)), (3, .int (mrc (σ 78) c a K)), (4, .int (nI K))] [] σ Q
        refine ev_iload_n dX6_hops_30 rfl 3 rfl ?_
        refine ev_iload_n dX6_hops_31 rfl 2 rfl ?_
        refine ev_callSi (x := b2i (tb (mrc (σ 78) c a K) b)) dX6_hops_32 (Or.inl M_X6_50) Y_X6_has [.int (mrc (σ 78) c a K), .int (nI b)] (c_X6_has (mrc (σ 78) c a K) b (by omega)) (by decide) (Nat.le_of_ble_eq_true rfl) rfl rfl (Nat.le_of_ble_eq_true rfl) ?_
        refine ev_ifb_ne (tgt := 97) dX6_hops_35 (by decide) (fun h35 => ?_) (fun h35 => ?_)
        · refine ev_iload dX6_hops_97 4 rfl ?_
          exact ev_ireturn dX6_hops_99 rfl rfl (leafI hQ rfl rfl)
        · exact absurd (hK.symm.trans h35) (by decide)
      · intro k1 hk1 ihk1
        show av_Ev l RX6 cX6_hops 7 (some .int) av_E0 3 30 [(0, .ref 77), (1, .int (nI a)), (2, .int (nI b)), (3, .int (mrc (σ 78) c a k1)), (4, .int (nI k1))] [] σ Q
        have hl1 := hlt k1 hk1
        refine ev_iload_n dX6_hops_30 rfl 3 rfl ?_
        refine ev_iload_n dX6_hops_31 rfl 2 rfl ?_
        refine ev_callSi (x := b2i (tb (mrc (σ 78) c a k1) b)) dX6_hops_32 (Or.inl M_X6_50) Y_X6_has [.int (mrc (σ 78) c a k1), .int (nI b)] (c_X6_has (mrc (σ 78) c a k1) b (by omega)) (by decide) (Nat.le_of_ble_eq_true rfl) rfl rfl (Nat.le_of_ble_eq_true rfl) ?_
        refine ev_ifb_ne (tgt := 97) dX6_hops_35 (by decide) (fun h35 => ?_) (fun h35 => ?_)
        · exact absurd (hl1.symm.trans h35) (by decide)
        · refine ev_iload_n dX6_hops_38 rfl 3 rfl ?_
          refine ev_istore (lv' := [(5, .int (mrc (σ 78) c a k1)), (0, .ref 77), (1, .int (nI a)), (2, .int (nI b)), (3, .int (mrc (σ 78) c a k1)), (4, .int (nI k1))]) dX6_hops_39 (by decide) rfl ?_
          refine ev_iconst dX6_hops_41 (v := nI 0) (by decide) ?_
          refine ev_istore (lv' := [(6, .int (nI 0)), (5, .int (mrc (σ 78) c a k1)), (0, .ref 77), (1, .int (nI a)), (2, .int (nI b)), (3, .int (mrc (σ 78) c a k1)), (4, .int (nI k1))]) dX6_hops_42 (by decide) rfl ?_
          refine ev_lv (lv' := [(0, .ref 77), (1, .int (nI a)), (2, .int (nI b)), (3, .int (mrc (σ 78) c a k1)), (4, .int (nI k1)), (5, .int (mrc (σ 78) c a k1)), (6, .int (nI 0))]) [2, 3, 4, 5, 6, 1, 0] rfl ?_
          refine loop_up (fun k => av_Ev l RX6 cX6_hops 7 (some .int) av_E0 3 44 [(0, .ref 77), (1, .int (nI a)), (2, .int (nI b)), (3, .int (mrc (σ 78) c a k1)), (4, .int (nI k1)), (5, .int (fo k (fun k x => x ||| (bif tb (mrc (σ 78) c a k1) k then σ 78 (4 + k) else nI 0)) (mrc (σ 78) c a k1))), (6, .int (nI k))] [] σ Q) c ?_ ?_
          · show av_Ev l RX6 cX6_hops 7 (some .int) av_E0 3 44 [(0, .ref 77), (1, .int (nI a)), (2, .int (nI b)), (3, .int (mrc (σ 78) c a k1)), (4, .int (nI k1)), (5, .int (fo c (fun k x => x ||| (bif tb (mrc (σ 78) c a k1) k then σ 78 (4 + k) else nI 0)) (mrc (σ 78) c a k1))), (6, .int (nI c))] [] σ Q
            refine ev_iload dX6_hops_44 6 rfl ?_
            refine ev_aload_n dX6_hops_46 rfl 0 rfl ?_
            refine ev_getR dX6_hops_47 C_X6 L_X6_7 (by decide) (by decide) sh_77 rfl ?_
            refine ev_iconst dX6_hops_50 (v := nI 0) (by decide) ?_
            refine ev_iald (e := 0) (v := σ 78 0) dX6_hops_51 (by decide) sh_78 (by omega) (by decide) rfl ?_
            refine ev_top (v := nI c) hcn ?_
            refine ev_ncmp_ge (tgt := 88) dX6_hops_52 (by decide) (by omega) (by omega) (fun h52 => ?_) (fun h52 => ?_)
            · refine ev_iload dX6_hops_88 5 rfl ?_
              refine ev_istore_n (lv' := [(3, .int (fo c (fun k x => x ||| (bif tb (mrc (σ 78) c a k1) k then σ 78 (4 + k) else nI 0)) (mrc (σ 78) c a k1))), (0, .ref 77), (1, .int (nI a)), (2, .int (nI b)), (4, .int (nI k1)), (5, .int (fo c (fun k x => x ||| (bif tb (mrc (σ 78) c a k1) k then σ 78 (4 + k) else nI 0)) (mrc (σ 78) c a k1))), (6, .int (nI c))]) dX6_hops_90 rfl (by decide) rfl ?_
              refine ev_iinc (lv' := [(4, .int (nI (k1 + 1))), (3, .int (fo c (fun k x => x ||| (bif tb (mrc (σ 78) c a k1) k then σ 78 (4 + k) else nI 0)) (mrc (σ 78) c a k1))), (0, .ref 77), (1, .int (nI a)), (2, .int (nI b)), (5, .int (fo c (fun k x => x ||| (bif tb (mrc (σ 78) c a k1) k then σ 78 (4 + k) else nI 0)) (mrc (σ 78) c a k1))), (6, .int (nI c))]) dX6_hops_91 4 rfl (nI_inc k1) (by decide) rfl ?_
              refine ev_goto (tgt := 30) dX6_hops_94 (by decide) ?_
              refine ev_lv (lv' := [(0, .ref 77), (1, .int (nI a)), (2, .int (nI b)), (3, .int (fo c (fun k x => x ||| (bif tb (mrc (σ 78) c a k1) k then σ 78 (4 + k) else nI 0)) (mrc (σ 78) c a k1))), (4, .int (nI (k1 + 1)))]) [2, 3, 4, 1, 0] rfl ?_
              have ih9 : av_Ev l RX6 cX6_hops 7 (some .int) av_E0 3 30 [(0, .ref 77), (1, .int (nI a)), (2, .int (nI b)), (3, .int (mrc (σ 78) c a (k1 + 1))), (4, .int (nI (k1 + 1)))] [] σ Q := ihk1
              rw [show mrc (σ 78) c a (k1 + 1) = fo c (fun k x => x ||| (bif tb (mrc (σ 78) c a k1) k then σ 78 (4 + k) else nI 0)) (mrc (σ 78) c a k1) from rfl] at ih9
              exact ih9
            · exact absurd h52 (by omega)
          · intro k hk ihk
            show av_Ev l RX6 cX6_hops 7 (some .int) av_E0 3 44 [(0, .ref 77), (1, .int (nI a)), (2, .int (nI b)), (3, .int (mrc (σ 78) c a k1)), (4, .int (nI k1)), (5, .int (fo k (fun k x => x ||| (bif tb (mrc (σ 78) c a k1) k then σ 78 (4 + k) else nI 0)) (mrc (σ 78) c a k1))), (6, .int (nI k))] [] σ Q
            refine ev_iload dX6_hops_44 6 rfl ?_
            refine ev_aload_n dX6_hops_46 rfl 0 rfl ?_
            refine ev_getR dX6_hops_47 C_X6 L_X6_7 (by decide) (by decide) sh_77 rfl ?_
            refine ev_iconst dX6_hops_50 (v := nI 0) (by decide) ?_
            refine ev_iald (e := 0) (v := σ 78 0) dX6_hops_51 (by decide) sh_78 (by omega) (by decide) rfl ?_
            refine ev_top (v := nI c) hcn ?_
            refine ev_ncmp_ge (tgt := 88) dX6_hops_52 (by decide) (by omega) (by omega) (fun h52 => ?_) (fun h52 => ?_)
            · exact absurd h52 (by omega)
            · refine ev_iload dX6_hops_55 5 rfl ?_
              refine ev_iload_n dX6_hops_57 rfl 3 rfl ?_
              refine ev_iload dX6_hops_58 6 rfl ?_
              refine ev_callSi (x := b2i (tb (mrc (σ 78) c a k1) k)) dX6_hops_60 (Or.inl M_X6_50) Y_X6_has [.int (mrc (σ 78) c a k1), .int (nI k)] (c_X6_has (mrc (σ 78) c a k1) k (by omega)) (by decide) (Nat.le_of_ble_eq_true rfl) rfl rfl (Nat.le_of_ble_eq_true rfl) ?_
              refine ev_ifb_eq (tgt := 78) dX6_hops_63 (by decide) (fun h63 => ?_) (fun h63 => ?_)
              · refine ev_iconst dX6_hops_78 (v := nI 0) (by decide) ?_
                refine ev_ior dX6_hops_79 ?_
                refine ev_istore (lv' := [(5, .int ((fo k (fun k x => x ||| (bif tb (mrc (σ 78) c a k1) k then σ 78 (4 + k) else nI 0)) (mrc (σ 78) c a k1)) ||| (nI 0))), (0, .ref 77), (1, .int (nI a)), (2, .int (nI b)), (3, .int (mrc (σ 78) c a k1)), (4, .int (nI k1)), (6, .int (nI k))]) dX6_hops_80 (by decide) rfl ?_
                refine ev_iinc (lv' := [(6, .int (nI (k + 1))), (5, .int ((fo k (fun k x => x ||| (bif tb (mrc (σ 78) c a k1) k then σ 78 (4 + k) else nI 0)) (mrc (σ 78) c a k1)) ||| (nI 0))), (0, .ref 77), (1, .int (nI a)), (2, .int (nI b)), (3, .int (mrc (σ 78) c a k1)), (4, .int (nI k1))]) dX6_hops_82 6 rfl (nI_inc k) (by decide) rfl ?_
                refine ev_goto (tgt := 44) dX6_hops_85 (by decide) ?_
                refine ev_lv (lv' := [(0, .ref 77), (1, .int (nI a)), (2, .int (nI b)), (3, .int (mrc (σ 78) c a k1)), (4, .int (nI k1)), (5, .int ((fo k (fun k x => x ||| (bif tb (mrc (σ 78) c a k1) k then σ 78 (4 + k) else nI 0)) (mrc (σ 78) c a k1)) ||| (nI 0))), (6, .int (nI (k + 1)))]) [2, 3, 4, 5, 6, 1, 0] rfl ?_
                have ih9 : av_Ev l RX6 cX6_hops 7 (some .int) av_E0 3 44 [(0, .ref 77), (1, .int (nI a)), (2, .int (nI b)), (3, .int (mrc (σ 78) c a k1)), (4, .int (nI k1)), (5, .int (fo (k + 1) (fun k x => x ||| (bif tb (mrc (σ 78) c a k1) k then σ 78 (4 + k) else nI 0)) (mrc (σ 78) c a k1))), (6, .int (nI (k + 1)))] [] σ Q := ihk
                rw [show fo (k + 1) (fun k x => x ||| (bif tb (mrc (σ 78) c a k1) k then σ 78 (4 + k) else nI 0)) (mrc (σ 78) c a k1) = (fo k (fun k x => x ||| (bif tb (mrc (σ 78) c a k1) k then σ 78 (4 + k) else nI 0)) (mrc (σ 78) c a k1)) ||| (nI 0) from (by rw [fo_s, h63]; rfl)] at ih9
                exact ih9
              · refine ev_aload_n dX6_hops_66 rfl 0 rfl ?_
                refine ev_getR dX6_hops_67 C_X6 L_X6_7 (by decide) (by decide) sh_77 rfl ?_
                refine ev_iconst dX6_hops_70 (v := nI 4) (by decide) ?_
                refine ev_iload dX6_hops_71 6 rfl ?_
                refine ev_iadd dX6_hops_73 ?_
                refine ev_top (v := nI (4 + k)) (nI_add _ _) ?_
                refine ev_iald (e := 4 + k) (v := σ 78 (4 + k)) dX6_hops_74 (by decide) sh_78 (by omega) (by decide) rfl ?_
                refine ev_goto (tgt := 79) dX6_hops_75 (by decide) ?_
                refine ev_ior dX6_hops_79 ?_
                refine ev_istore (lv' := [(5, .int ((fo k (fun k x => x ||| (bif tb (mrc (σ 78) c a k1) k then σ 78 (4 + k) else nI 0)) (mrc (σ 78) c a k1)) ||| (σ 78 (4 + k)))), (0, .ref 77), (1, .int (nI a)), (2, .int (nI b)), (3, .int (mrc (σ 78) c a k1)), (4, .int (nI k1)), (6, .int (nI k))]) dX6_hops_80 (by decide) rfl ?_
                refine ev_iinc (lv' := [(6, .int (nI (k + 1))), (5, .int ((fo k (fun k x => x ||| (bif tb (mrc (σ 78) c a k1) k then σ 78 (4 + k) else nI 0)) (mrc (σ 78) c a k1)) ||| (σ 78 (4 + k)))), (0, .ref 77), (1, .int (nI a)), (2, .int (nI b)), (3, .int (mrc (σ 78) c a k1)), (4, .int (nI k1))]) dX6_hops_82 6 rfl (nI_inc k) (by decide) rfl ?_
                refine ev_goto (tgt := 44) dX6_hops_85 (by decide) ?_
                refine ev_lv (lv' := [(0, .ref 77), (1, .int (nI a)), (2, .int (nI b)), (3, .int (mrc (σ 78) c a k1)), (4, .int (nI k1)), (5, .int ((fo k (fun k x => x ||| (bif tb (mrc (σ 78) c a k1) k then σ 78 (4 + k) else nI 0)) (mrc (σ 78) c a k1)) ||| (σ 78 (4 + k)))), (6, .int (nI (k + 1)))]) [2, 3, 4, 5, 6, 1, 0] rfl ?_
                have ih9 : av_Ev l RX6 cX6_hops 7 (some .int) av_E0 3 44 [(0, .ref 77), (1, .int (nI a)), (2, .int (nI b)), (3, .int (mrc (σ 78) c a k1)), (4, .int (nI k1)), (5, .int (fo (k + 1) (fun k x => x ||| (bif tb (mrc (σ 78) c a k1) k then σ 78 (4 + k) else nI 0)) (mrc (σ 78) c a k1))), (6, .int (nI (k + 1)))] [] σ Q := ihk
                rw [show fo (k + 1) (fun k x => x ||| (bif tb (mrc (σ 78) c a k1) k then σ 78 (4 + k) else nI 0)) (mrc (σ 78) c a k1) = (fo k (fun k x => x ||| (bif tb (mrc (σ 78) c a k1) k then σ 78 (4 + k) else nI 0)) (mrc (σ 78) c a k1)) ||| (σ 78 (4 + k)) from (by rw [fo_s, h63]; rfl)] at ih9
                exact ih9
    · exact absurd (hsh.symm.trans h17) (by decide)
  · exact absurd (hs.symm.trans h6) (by decide)

set_option maxRecDepth 100000 in
set_option maxHeartbeats 1000000 in
theorem c_X6_isPlace {l : Launch} {σ : av_S} (x : Int32) (y : Int32) (c : Nat) (hcn : σ 78 0 = nI c) (hc1 : 1 ≤ c) (hc6 : c ≤ 6) : av_M l RX6 cX6_isPlace 3 (some .boolean) 2 [.ref 77, .int x, .int y] σ (some (.int (b2i (sv (nI c) x && sv (nI 10) y)))) σ := by
  intro Q hQ
  show av_Ev l RX6 cX6_isPlace 3 (some .boolean) av_E0 2 0 [(0, .ref 77), (1, .int x), (2, .int y)] [] σ Q
  refine ev_aload_n dX6_isPlace_0 rfl 0 rfl ?_
  refine ev_iload_n dX6_isPlace_1 rfl 1 rfl ?_
  refine ev_callVi (x := b2i (sv (nI c) x)) dX6_isPlace_2 M_X6_46 Y_X6_isServer [.int x] (c_X6_isServer x c (by first | exact hcn | omega) (by first | exact hc1 | omega) (by first | exact hc6 | omega)) (by decide) (Nat.le_of_ble_eq_true rfl) (by decide) sh_77 rfl rfl rfl (Nat.le_of_ble_eq_true rfl) ?_
  refine ev_ifb_eq (tgt := 19) dX6_isPlace_5 (by decide) (fun h5 => ?_) (fun h5 => ?_)
  · refine ev_iconst dX6_isPlace_19 (v := nI 0) (by decide) ?_
    exact ev_ireturn dX6_isPlace_20 rfl (by decide) (leafI hQ (by simp [b2i, h5]) rfl)
  · refine ev_iload_n dX6_isPlace_8 rfl 2 rfl ?_
    refine ev_callSi (x := b2i (sv (nI 10) y)) dX6_isPlace_9 (Or.inl M_X6_112) Y_X6_isNick [.int y] (c_X6_isNick y ) (by decide) (Nat.le_of_ble_eq_true rfl) rfl rfl (Nat.le_of_ble_eq_true rfl) ?_
    refine ev_ifb_eq (tgt := 19) dX6_isPlace_12 (by decide) (fun h12 => ?_) (fun h12 => ?_)
    · refine ev_iconst dX6_isPlace_19 (v := nI 0) (by decide) ?_
      exact ev_ireturn dX6_isPlace_20 rfl (by decide) (leafI hQ (by simp [b2i, h5, h12]) rfl)
    · refine ev_iconst dX6_isPlace_15 (v := nI 1) (by decide) ?_
      refine ev_goto (tgt := 20) dX6_isPlace_16 (by decide) ?_
      exact ev_ireturn dX6_isPlace_20 rfl (by decide) (leafI hQ (by simp [b2i, h5, h12]) rfl)

set_option maxRecDepth 100000 in
set_option maxHeartbeats 1000000 in
theorem c_X6_signOn_bad {l : Launch} {σ : av_S} (x : Int32) (y : Int32) (c : Nat) (hx : (sv (nI c) x && sv (nI 10) y) = false) (hcn : σ 78 0 = nI c) (hc1 : 1 ≤ c) (hc6 : c ≤ 6) : av_M l RX6 cX6_signOn 4 (some .int) 3 [.ref 77, .int x, .int y] σ (some (.int (-1))) σ := by
  intro Q hQ
  show av_Ev l RX6 cX6_signOn 4 (some .int) av_E0 3 0 [(0, .ref 77), (1, .int x), (2, .int y)] [] σ Q
  refine ev_aload_n dX6_signOn_0 rfl 0 rfl ?_
  refine ev_iload_n dX6_signOn_1 rfl 1 rfl ?_
  refine ev_iload_n dX6_signOn_2 rfl 2 rfl ?_
  refine ev_callVi (x := b2i (sv (nI c) x && sv (nI 10) y)) dX6_signOn_3 M_X6_115 Y_X6_isPlace [.int x, .int y] (c_X6_isPlace x y c (by first | exact hcn | omega) (by first | exact hc1 | omega) (by first | exact hc6 | omega)) (by decide) (Nat.le_of_ble_eq_true rfl) (by decide) sh_77 rfl rfl rfl (Nat.le_of_ble_eq_true rfl) ?_
  refine ev_ifb_ne (tgt := 11) dX6_signOn_6 (by decide) (fun h6 => ?_) (fun h6 => ?_)
  · exact absurd hx (by simp [h6])
  · refine ev_iconst dX6_signOn_9 (v := (-1)) (by decide) ?_
    exact ev_ireturn dX6_signOn_10 rfl rfl (leafI hQ rfl rfl)

set_option maxRecDepth 100000 in
set_option maxHeartbeats 1000000 in
theorem c_X6_signOn_st {l : Launch} {σ : av_S} (s : Nat) (n : Nat) (h : Nat) (c : Nat) (hs : s < 6) (hn0 : n < 10) (hp : (sv (nI c) (nI s) && sv (nI 10) (nI n)) = true) (ho : mhm (σ 78) c (mnet (σ 78) c s) n = some h) (hh : h < 6) (hcn : σ 78 0 = nI c) (hc1 : 1 ≤ c) (hc6 : c ≤ 6) : av_M l RX6 cX6_signOn 4 (some .int) 3 [.ref 77, .int (nI s), .int (nI n)] σ (some (.int (-2))) σ := by
  intro Q hQ
  show av_Ev l RX6 cX6_signOn 4 (some .int) av_E0 3 0 [(0, .ref 77), (1, .int (nI s)), (2, .int (nI n))] [] σ Q
  refine ev_aload_n dX6_signOn_0 rfl 0 rfl ?_
  refine ev_iload_n dX6_signOn_1 rfl 1 rfl ?_
  refine ev_iload_n dX6_signOn_2 rfl 2 rfl ?_
  refine ev_callVi (x := b2i (sv (nI c) (nI s) && sv (nI 10) (nI n))) dX6_signOn_3 M_X6_115 Y_X6_isPlace [.int (nI s), .int (nI n)] (c_X6_isPlace (nI s) (nI n) c (by first | exact hcn | omega) (by first | exact hc1 | omega) (by first | exact hc6 | omega)) (by decide) (Nat.le_of_ble_eq_true rfl) (by decide) sh_77 rfl rfl rfl (Nat.le_of_ble_eq_true rfl) ?_
  refine ev_ifb_ne (tgt := 11) dX6_signOn_6 (by decide) (fun h6 => ?_) (fun h6 => ?_)
  · refine ev_aload_n dX6_signOn_11 rfl 0 rfl ?_
    refine ev_iload_n dX6_signOn_12 rfl 1 rfl ?_
    refine ev_callVi (x := mnet (σ 78) c s) dX6_signOn_13 M_X6_54 Y_X6_network [.int (nI s)] (c_X6_network s c (by omega) (by first | exact hcn | omega) (by first | exact hc1 | omega) (by first | exact hc6 | omega)) (by decide) (Nat.le_of_ble_eq_true rfl) (by decide) sh_77 rfl rfl rfl (Nat.le_of_ble_eq_true rfl) ?_
    refine ev_istore_n (lv' := [(3, .int (mnet (σ 78) c s)), (0, .ref 77), (1, .int (nI s)), (2, .int (nI n))]) dX6_signOn_16 rfl (by decide) rfl ?_
    refine ev_aload_n dX6_signOn_17 rfl 1 rfl ?_
    refine ev_iload_n dX6_signOn_18 rfl 0 rfl ?_
    refine ev_iload_n dX6_signOn_19 rfl 3 rfl ?_
    refine ev_callVi (x := oJ (mhm (σ 78) c (mnet (σ 78) c s) n)) dX6_signOn_20 M_X6_72 Y_X6_homeIn [.int (mnet (σ 78) c s), .int (nI n)] (c_X6_homeIn (mnet (σ 78) c s) n c (by omega) (by first | exact hcn | omega) (by first | exact hc1 | omega) (by first | exact hc6 | omega)) (by decide) (Nat.le_of_ble_eq_true rfl) (by decide) sh_77 rfl rfl rfl (Nat.le_of_ble_eq_true rfl) ?_
    refine ev_top (v := nI h) (by rw [ho]; rfl) ?_
    refine ev_bipush dX6_signOn_23 (v := (-9)) (by decide) ?_
    refine ev_icmp_eq (tgt := 31) dX6_signOn_25 (by decide) (fun h25 => ?_) (fun h25 => ?_)
    · exact absurd h25 (nI_neg (by omega) (by decide))
    · refine ev_bipush dX6_signOn_28 (v := (-2)) (by decide) ?_
      exact ev_ireturn dX6_signOn_30 rfl rfl (leafI hQ rfl rfl)
  · exact absurd (hp.symm.trans h6) (by decide)

set_option maxRecDepth 100000 in
set_option maxHeartbeats 1000000 in
theorem c_X6_signOn_ok {l : Launch} {σ : av_S} (s : Nat) (n : Nat) (c : Nat) (u : Nat) (hs : s < 6) (hn0 : n < 10) (hp : (sv (nI c) (nI s) && sv (nI 10) (nI n)) = true) (ho : mhm (σ 78) c (mnet (σ 78) c s) n = none) (hcn : σ 78 0 = nI c) (hc1 : 1 ≤ c) (hc6 : c ≤ 6) (hu : σ 77 2 = nI u) (hu8 : u ≤ 8) : av_M l RX6 cX6_signOn 4 (some .int) 3 [.ref 77, .int (nI s), .int (nI n)] σ (some (.int (nI (cb 10 (mni (mus (upd (σ 78) (10 + (10 * s + n)) (σ 78 1))) c (mnet (σ 78) c s)))))) (av_set (av_set (av_set σ 77 (upd (σ 77) 2 (nI (svU u)))) 78 (upd (σ 78) (10 + (10 * s + n)) (σ 78 1))) 79 (svH (σ 79) (σ 78) u)) := by
  intro Q hQ
  show av_Ev l RX6 cX6_signOn 4 (some .int) av_E0 3 0 [(0, .ref 77), (1, .int (nI s)), (2, .int (nI n))] [] σ Q
  refine ev_aload_n dX6_signOn_0 rfl 0 rfl ?_
  refine ev_iload_n dX6_signOn_1 rfl 1 rfl ?_
  refine ev_iload_n dX6_signOn_2 rfl 2 rfl ?_
  refine ev_callVi (x := b2i (sv (nI c) (nI s) && sv (nI 10) (nI n))) dX6_signOn_3 M_X6_115 Y_X6_isPlace [.int (nI s), .int (nI n)] (c_X6_isPlace (nI s) (nI n) c (by first | exact hcn | omega) (by first | exact hc1 | omega) (by first | exact hc6 | omega)) (by decide) (Nat.le_of_ble_eq_true rfl) (by decide) sh_77 rfl rfl rfl (Nat.le_of_ble_eq_true rfl) ?_
  refine ev_ifb_ne (tgt := 11) dX6_signOn_6 (by decide) (fun h6 => ?_) (fun h6 => ?_)
  · refine ev_aload_n dX6_signOn_11 rfl 0 rfl ?_
    refine ev_iload_n dX6_signOn_12 rfl 1 rfl ?_
    refine ev_callVi (x := mnet (σ 78) c s) dX6_signOn_13 M_X6_54 Y_X6_network [.int (nI s)] (c_X6_network s c (by omega) (by first | exact hcn | omega) (by first | exact hc1 | omega) (by first | exact hc6 | omega)) (by decide) (Nat.le_of_ble_eq_true rfl) (by decide) sh_77 rfl rfl rfl (Nat.le_of_ble_eq_true rfl) ?_
    refine ev_istore_n (lv' := [(3, .int (mnet (σ 78) c s)), (0, .ref 77), (1, .int (nI s)), (2, .int (nI n))]) dX6_signOn_16 rfl (by decide) rfl ?_
    refine ev_aload_n dX6_signOn_17 rfl 1 rfl ?_
    refine ev_iload_n dX6_signOn_18 rfl 0 rfl ?_
    refine ev_iload_n dX6_signOn_19 rfl 3 rfl ?_
    refine ev_callVi (x := oJ (mhm (σ 78) c (mnet (σ 78) c s) n)) dX6_signOn_20 M_X6_72 Y_X6_homeIn [.int (mnet (σ 78) c s), .int (nI n)] (c_X6_homeIn (mnet (σ 78) c s) n c (by omega) (by first | exact hcn | omega) (by first | exact hc1 | omega) (by first | exact hc6 | omega)) (by decide) (Nat.le_of_ble_eq_true rfl) (by decide) sh_77 rfl rfl rfl (Nat.le_of_ble_eq_true rfl) ?_
    refine ev_top (v := (-9)) (by rw [ho]; rfl) ?_
    refine ev_bipush dX6_signOn_23 (v := (-9)) (by decide) ?_
    refine ev_icmp_eq (tgt := 31) dX6_signOn_25 (by decide) (fun h25 => ?_) (fun h25 => ?_)
    · refine ev_aload_n dX6_signOn_31 rfl 1 rfl ?_
      refine ev_callVv (σ' := av_set (av_set σ 77 (upd (σ 77) 2 (nI (svU u)))) 79 (svH (σ 79) (σ 78) u)) dX6_signOn_32 M_X6_69 Y_X6_save [] (c_X6_save u (by first | exact hu | omega) (by first | exact hu8 | omega)) (by decide) (Nat.le_of_ble_eq_true rfl) (by decide) sh_77 rfl rfl rfl (Nat.le_of_ble_eq_true rfl) ?_
      refine ev_aload_n dX6_signOn_35 rfl 1 rfl ?_
      refine ev_getR dX6_signOn_36 C_X6 L_X6_7 (by decide) (by decide) sh_77 rfl ?_
      refine ev_bipush dX6_signOn_39 (v := nI 10) (by decide) ?_
      refine ev_iload_n dX6_signOn_41 rfl 2 rfl ?_
      refine ev_iload_n dX6_signOn_42 rfl 3 rfl ?_
      refine ev_callSi (x := nI (10 * s + n)) dX6_signOn_43 (Or.inl M_X6_58) Y_X6_userCell [.int (nI s), .int (nI n)] (c_X6_userCell s n ) (by decide) (Nat.le_of_ble_eq_true rfl) rfl rfl (Nat.le_of_ble_eq_true rfl) ?_
      refine ev_iadd dX6_signOn_46 ?_
      refine ev_top (v := nI (10 + (10 * s + n))) (nI_add _ _) ?_
      refine ev_aload_n dX6_signOn_47 rfl 1 rfl ?_
      refine ev_getR dX6_signOn_48 C_X6 L_X6_7 (by decide) (by decide) sh_77 rfl ?_
      refine ev_iconst dX6_signOn_51 (v := nI 1) (by decide) ?_
      refine ev_iald (e := 1) (v := σ 78 1) dX6_signOn_52 (by decide) sh_78 (by omega) (by decide) (by first | rfl | (simp only [av_set, cpS]; (repeat' split) <;> first | rfl | (exfalso; omega))) ?_
      refine ev_iast (e := 10 + (10 * s + n)) dX6_signOn_53 (by decide) sh_78 (by omega) (by decide) ?_
      refine ev_st (σ' := av_set (av_set (av_set σ 77 (upd (σ 77) 2 (nI (svU u)))) 78 (upd (σ 78) (10 + (10 * s + n)) (σ 78 1))) 79 (svH (σ 79) (σ 78) u)) (by first | rfl | (funext a; by_cases q77 : a = 77; (next => subst q77; rfl); by_cases q78 : a = 78; (next => subst q78; rfl); by_cases q79 : a = 79; (next => subst q79; rfl); simp only [av_set, q77, q78, q79, if_false]) | exact av_set_set _ _ _ _ | (funext a; unfold av_set; (repeat' split) <;> first | rfl | (exfalso; omega)) | (funext a; simp only [av_set, cpS]; (repeat' split) <;> first | rfl | (exfalso; omega))) ?_
      refine ev_aload_n dX6_signOn_54 rfl 1 rfl ?_
      refine ev_iload_n dX6_signOn_55 rfl 0 rfl ?_
      refine ev_bipush dX6_signOn_56 (v := nI 10) (by decide) ?_
      refine ev_iconst dX6_signOn_58 (v := nI 0) (by decide) ?_
      refine ev_callVi (x := mni (mus (upd (σ 78) (10 + (10 * s + n)) (σ 78 1))) c (mnet (σ 78) c s)) dX6_signOn_59 M_X6_65 Y_X6_nicksIn [.int (mnet (σ 78) c s), .int (nI 10), .int (nI 0)] (c_X6_nicksIn_s (mnet (σ 78) c s) c ((upd_ne (by omega)).trans hcn) (by first | exact hc1 | omega) (by first | exact hc6 | omega)) (by decide) (Nat.le_of_ble_eq_true rfl) (by decide) sh_77 rfl rfl rfl (Nat.le_of_ble_eq_true rfl) ?_
      refine ev_callSi (x := nI (cb 10 (mni (mus (upd (σ 78) (10 + (10 * s + n)) (σ 78 1))) c (mnet (σ 78) c s)))) dX6_signOn_62 (Or.inl M_X6_79) Y_X6_bitCount [.int (mni (mus (upd (σ 78) (10 + (10 * s + n)) (σ 78 1))) c (mnet (σ 78) c s))] (c_X6_bitCount (mni (mus (upd (σ 78) (10 + (10 * s + n)) (σ 78 1))) c (mnet (σ 78) c s)) ) (by decide) (Nat.le_of_ble_eq_true rfl) rfl rfl (Nat.le_of_ble_eq_true rfl) ?_
      exact ev_ireturn dX6_signOn_65 rfl rfl (leafI hQ rfl rfl)
    · exact absurd rfl h25
  · exact absurd (hp.symm.trans h6) (by decide)

set_option maxRecDepth 100000 in
set_option maxHeartbeats 1000000 in
theorem c_X6_signOff_bad {l : Launch} {σ : av_S} (x : Int32) (y : Int32) (c : Nat) (hx : (sv (nI c) x && sv (nI 10) y) = false) (hcn : σ 78 0 = nI c) (hc1 : 1 ≤ c) (hc6 : c ≤ 6) : av_M l RX6 cX6_signOff 4 (some .int) 3 [.ref 77, .int x, .int y] σ (some (.int (-1))) σ := by
  intro Q hQ
  show av_Ev l RX6 cX6_signOff 4 (some .int) av_E0 3 0 [(0, .ref 77), (1, .int x), (2, .int y)] [] σ Q
  refine ev_aload_n dX6_signOff_0 rfl 0 rfl ?_
  refine ev_iload_n dX6_signOff_1 rfl 1 rfl ?_
  refine ev_iload_n dX6_signOff_2 rfl 2 rfl ?_
  refine ev_callVi (x := b2i (sv (nI c) x && sv (nI 10) y)) dX6_signOff_3 M_X6_115 Y_X6_isPlace [.int x, .int y] (c_X6_isPlace x y c (by first | exact hcn | omega) (by first | exact hc1 | omega) (by first | exact hc6 | omega)) (by decide) (Nat.le_of_ble_eq_true rfl) (by decide) sh_77 rfl rfl rfl (Nat.le_of_ble_eq_true rfl) ?_
  refine ev_ifb_ne (tgt := 11) dX6_signOff_6 (by decide) (fun h6 => ?_) (fun h6 => ?_)
  · exact absurd hx (by simp [h6])
  · refine ev_iconst dX6_signOff_9 (v := (-1)) (by decide) ?_
    exact ev_ireturn dX6_signOff_10 rfl rfl (leafI hQ rfl rfl)

set_option maxRecDepth 100000 in
set_option maxHeartbeats 1000000 in
theorem c_X6_signOff_st {l : Launch} {σ : av_S} (s : Nat) (n : Nat) (c : Nat) (hs : s < 6) (hn0 : n < 10) (hp : (sv (nI c) (nI s) && sv (nI 10) (nI n)) = true) (hu0 : mus (σ 78) s n = false) (hcn : σ 78 0 = nI c) (hc1 : 1 ≤ c) (hc6 : c ≤ 6) : av_M l RX6 cX6_signOff 4 (some .int) 3 [.ref 77, .int (nI s), .int (nI n)] σ (some (.int (-2))) σ := by
  intro Q hQ
  show av_Ev l RX6 cX6_signOff 4 (some .int) av_E0 3 0 [(0, .ref 77), (1, .int (nI s)), (2, .int (nI n))] [] σ Q
  refine ev_aload_n dX6_signOff_0 rfl 0 rfl ?_
  refine ev_iload_n dX6_signOff_1 rfl 1 rfl ?_
  refine ev_iload_n dX6_signOff_2 rfl 2 rfl ?_
  refine ev_callVi (x := b2i (sv (nI c) (nI s) && sv (nI 10) (nI n))) dX6_signOff_3 M_X6_115 Y_X6_isPlace [.int (nI s), .int (nI n)] (c_X6_isPlace (nI s) (nI n) c (by first | exact hcn | omega) (by first | exact hc1 | omega) (by first | exact hc6 | omega)) (by decide) (Nat.le_of_ble_eq_true rfl) (by decide) sh_77 rfl rfl rfl (Nat.le_of_ble_eq_true rfl) ?_
  refine ev_ifb_ne (tgt := 11) dX6_signOff_6 (by decide) (fun h6 => ?_) (fun h6 => ?_)
  · refine ev_aload_n dX6_signOff_11 rfl 0 rfl ?_
    refine ev_iload_n dX6_signOff_12 rfl 1 rfl ?_
    refine ev_iload_n dX6_signOff_13 rfl 2 rfl ?_
    refine ev_callVi (x := b2i (mus (σ 78) s n)) dX6_signOff_14 M_X6_62 Y_X6_isUser [.int (nI s), .int (nI n)] (c_X6_isUser s n (by omega) (by omega)) (by decide) (Nat.le_of_ble_eq_true rfl) (by decide) sh_77 rfl rfl rfl (Nat.le_of_ble_eq_true rfl) ?_
    refine ev_ifb_ne (tgt := 23) dX6_signOff_17 (by decide) (fun h17 => ?_) (fun h17 => ?_)
    · exact absurd (hu0.symm.trans h17) (by decide)
    · refine ev_bipush dX6_signOff_20 (v := (-2)) (by decide) ?_
      exact ev_ireturn dX6_signOff_22 rfl rfl (leafI hQ rfl rfl)
  · exact absurd (hp.symm.trans h6) (by decide)

set_option maxRecDepth 100000 in
set_option maxHeartbeats 1000000 in
theorem c_X6_signOff_ok {l : Launch} {σ : av_S} (s : Nat) (n : Nat) (c : Nat) (u : Nat) (hs : s < 6) (hn0 : n < 10) (hp : (sv (nI c) (nI s) && sv (nI 10) (nI n)) = true) (hu0 : mus (σ 78) s n = true) (hcn : σ 78 0 = nI c) (hc1 : 1 ≤ c) (hc6 : c ≤ 6) (hu : σ 77 2 = nI u) (hu8 : u ≤ 8) : av_M l RX6 cX6_signOff 4 (some .int) 3 [.ref 77, .int (nI s), .int (nI n)] σ (some (.int (nI (cb 10 (σ 78 (70 + (10 * s + n))))))) (av_set (av_set (av_set σ 77 (upd (σ 77) 2 (nI (svU u)))) 78 (mrm (σ 78) s n)) 79 (svH (σ 79) (σ 78) u)) := by
  intro Q hQ
  show av_Ev l RX6 cX6_signOff 4 (some .int) av_E0 3 0 [(0, .ref 77), (1, .int (nI s)), (2, .int (nI n))] [] σ Q
  refine ev_aload_n dX6_signOff_0 rfl 0 rfl ?_
  refine ev_iload_n dX6_signOff_1 rfl 1 rfl ?_
  refine ev_iload_n dX6_signOff_2 rfl 2 rfl ?_
  refine ev_callVi (x := b2i (sv (nI c) (nI s) && sv (nI 10) (nI n))) dX6_signOff_3 M_X6_115 Y_X6_isPlace [.int (nI s), .int (nI n)] (c_X6_isPlace (nI s) (nI n) c (by first | exact hcn | omega) (by first | exact hc1 | omega) (by first | exact hc6 | omega)) (by decide) (Nat.le_of_ble_eq_true rfl) (by decide) sh_77 rfl rfl rfl (Nat.le_of_ble_eq_true rfl) ?_
  refine ev_ifb_ne (tgt := 11) dX6_signOff_6 (by decide) (fun h6 => ?_) (fun h6 => ?_)
  · refine ev_aload_n dX6_signOff_11 rfl 0 rfl ?_
    refine ev_iload_n dX6_signOff_12 rfl 1 rfl ?_
    refine ev_iload_n dX6_signOff_13 rfl 2 rfl ?_
    refine ev_callVi (x := b2i (mus (σ 78) s n)) dX6_signOff_14 M_X6_62 Y_X6_isUser [.int (nI s), .int (nI n)] (c_X6_isUser s n (by omega) (by omega)) (by decide) (Nat.le_of_ble_eq_true rfl) (by decide) sh_77 rfl rfl rfl (Nat.le_of_ble_eq_true rfl) ?_
    refine ev_ifb_ne (tgt := 23) dX6_signOff_17 (by decide) (fun h17 => ?_) (fun h17 => ?_)
    · refine ev_aload_n dX6_signOff_23 rfl 0 rfl ?_
      refine ev_callVv (σ' := av_set (av_set σ 77 (upd (σ 77) 2 (nI (svU u)))) 79 (svH (σ 79) (σ 78) u)) dX6_signOff_24 M_X6_69 Y_X6_save [] (c_X6_save u (by first | exact hu | omega) (by first | exact hu8 | omega)) (by decide) (Nat.le_of_ble_eq_true rfl) (by decide) sh_77 rfl rfl rfl (Nat.le_of_ble_eq_true rfl) ?_
      refine ev_aload_n dX6_signOff_27 rfl 0 rfl ?_
      refine ev_getR dX6_signOff_28 C_X6 L_X6_7 (by decide) (by decide) sh_77 rfl ?_
      refine ev_bipush dX6_signOff_31 (v := nI 70) (by decide) ?_
      refine ev_iload_n dX6_signOff_33 rfl 1 rfl ?_
      refine ev_iload_n dX6_signOff_34 rfl 2 rfl ?_
      refine ev_callSi (x := nI (10 * s + n)) dX6_signOff_35 (Or.inl M_X6_58) Y_X6_userCell [.int (nI s), .int (nI n)] (c_X6_userCell s n ) (by decide) (Nat.le_of_ble_eq_true rfl) rfl rfl (Nat.le_of_ble_eq_true rfl) ?_
      refine ev_iadd dX6_signOff_38 ?_
      refine ev_top (v := nI (70 + (10 * s + n))) (nI_add _ _) ?_
      refine ev_iald (e := 70 + (10 * s + n)) (v := σ 78 (70 + (10 * s + n))) dX6_signOff_39 (by decide) sh_78 (by omega) (by decide) (by first | rfl | (simp only [av_set, cpS]; (repeat' split) <;> first | rfl | (exfalso; omega))) ?_
      refine ev_callSi (x := nI (cb 10 (σ 78 (70 + (10 * s + n))))) dX6_signOff_40 (Or.inl M_X6_79) Y_X6_bitCount [.int (σ 78 (70 + (10 * s + n)))] (c_X6_bitCount (σ 78 (70 + (10 * s + n))) ) (by decide) (Nat.le_of_ble_eq_true rfl) rfl rfl (Nat.le_of_ble_eq_true rfl) ?_
      refine ev_istore_n (lv' := [(3, .int (nI (cb 10 (σ 78 (70 + (10 * s + n)))))), (0, .ref 77), (1, .int (nI s)), (2, .int (nI n))]) dX6_signOff_43 rfl (by decide) rfl ?_
      refine ev_aload_n dX6_signOff_44 rfl 1 rfl ?_
      refine ev_iload_n dX6_signOff_45 rfl 2 rfl ?_
      refine ev_iload_n dX6_signOff_46 rfl 3 rfl ?_
      refine ev_callVv dX6_signOff_47 M_X6_75 Y_X6_removeUser [.int (nI s), .int (nI n)] (c_X6_removeUser s n (by omega) (by omega)) (by decide) (Nat.le_of_ble_eq_true rfl) (by decide) sh_77 rfl rfl rfl (Nat.le_of_ble_eq_true rfl) ?_
      refine ev_st (σ' := av_set (av_set (av_set σ 77 (upd (σ 77) 2 (nI (svU u)))) 78 (mrm (σ 78) s n)) 79 (svH (σ 79) (σ 78) u)) (by first | rfl | (funext a; by_cases q77 : a = 77; (next => subst q77; rfl); by_cases q78 : a = 78; (next => subst q78; rfl); by_cases q79 : a = 79; (next => subst q79; rfl); simp only [av_set, q77, q78, q79, if_false]) | exact av_set_set _ _ _ _ | (funext a; unfold av_set; (repeat' split) <;> first | rfl | (exfalso; omega)) | (funext a; simp only [av_set, cpS]; (repeat' split) <;> first | rfl | (exfalso; omega))) ?_
      refine ev_iload_n dX6_signOff_50 rfl 0 rfl ?_
      exact ev_ireturn dX6_signOff_51 rfl rfl (leafI hQ rfl rfl)
    · exact absurd (hu0.symm.trans h17) (by decide)
  · exact absurd (hp.symm.trans h6) (by decide)

set_option maxRecDepth 100000 in
set_option maxHeartbeats 1000000 in
theorem c_X6_changeNick_bad {l : Launch} {σ : av_S} (x : Int32) (y : Int32) (z : Int32) (c : Nat) (hx : (sv (nI c) x && sv (nI 10) y && sv (nI 10) z) = false) (hcn : σ 78 0 = nI c) (hc1 : 1 ≤ c) (hc6 : c ≤ 6) : av_M l RX6 cX6_changeNick 7 (some .int) 3 [.ref 77, .int x, .int y, .int z] σ (some (.int (-1))) σ := by
  intro Q hQ
  show av_Ev l RX6 cX6_changeNick 7 (some .int) av_E0 3 0 [(0, .ref 77), (1, .int x), (2, .int y), (3, .int z)] [] σ Q
  refine ev_aload_n dX6_changeNick_0 rfl 0 rfl ?_
  refine ev_iload_n dX6_changeNick_1 rfl 1 rfl ?_
  refine ev_iload_n dX6_changeNick_2 rfl 2 rfl ?_
  refine ev_callVi (x := b2i (sv (nI c) x && sv (nI 10) y)) dX6_changeNick_3 M_X6_115 Y_X6_isPlace [.int x, .int y] (c_X6_isPlace x y c (by first | exact hcn | omega) (by first | exact hc1 | omega) (by first | exact hc6 | omega)) (by decide) (Nat.le_of_ble_eq_true rfl) (by decide) sh_77 rfl rfl rfl (Nat.le_of_ble_eq_true rfl) ?_
  refine ev_ifb_eq (tgt := 16) dX6_changeNick_6 (by decide) (fun h6 => ?_) (fun h6 => ?_)
  · refine ev_iconst dX6_changeNick_16 (v := (-1)) (by decide) ?_
    exact ev_ireturn dX6_changeNick_17 rfl rfl (leafI hQ rfl rfl)
  · refine ev_iload_n dX6_changeNick_9 rfl 3 rfl ?_
    refine ev_callSi (x := b2i (sv (nI 10) z)) dX6_changeNick_10 (Or.inl M_X6_112) Y_X6_isNick [.int z] (c_X6_isNick z ) (by decide) (Nat.le_of_ble_eq_true rfl) rfl rfl (Nat.le_of_ble_eq_true rfl) ?_
    refine ev_ifb_ne (tgt := 18) dX6_changeNick_13 (by decide) (fun h13 => ?_) (fun h13 => ?_)
    · exact absurd hx (by simp [h6, h13])
    · refine ev_iconst dX6_changeNick_16 (v := (-1)) (by decide) ?_
      exact ev_ireturn dX6_changeNick_17 rfl rfl (leafI hQ rfl rfl)

set_option maxRecDepth 100000 in
set_option maxHeartbeats 1000000 in
theorem c_X6_changeNick_st1 {l : Launch} {σ : av_S} (s : Nat) (n : Nat) (q : Nat) (c : Nat) (hs : s < 6) (hn0 : n < 10) (hp : (sv (nI c) (nI s) && sv (nI 10) (nI n)) = true) (hq0 : q < 10) (hq1 : sv (nI 10) (nI q) = true) (hu0 : mus (σ 78) s n = false) (hcn : σ 78 0 = nI c) (hc1 : 1 ≤ c) (hc6 : c ≤ 6) : av_M l RX6 cX6_changeNick 7 (some .int) 3 [.ref 77, .int (nI s), .int (nI n), .int (nI q)] σ (some (.int (-2))) σ := by
  intro Q hQ
  show av_Ev l RX6 cX6_changeNick 7 (some .int) av_E0 3 0 [(0, .ref 77), (1, .int (nI s)), (2, .int (nI n)), (3, .int (nI q))] [] σ Q
  refine ev_aload_n dX6_changeNick_0 rfl 0 rfl ?_
  refine ev_iload_n dX6_changeNick_1 rfl 1 rfl ?_
  refine ev_iload_n dX6_changeNick_2 rfl 2 rfl ?_
  refine ev_callVi (x := b2i (sv (nI c) (nI s) && sv (nI 10) (nI n))) dX6_changeNick_3 M_X6_115 Y_X6_isPlace [.int (nI s), .int (nI n)] (c_X6_isPlace (nI s) (nI n) c (by first | exact hcn | omega) (by first | exact hc1 | omega) (by first | exact hc6 | omega)) (by decide) (Nat.le_of_ble_eq_true rfl) (by decide) sh_77 rfl rfl rfl (Nat.le_of_ble_eq_true rfl) ?_
  refine ev_ifb_eq (tgt := 16) dX6_changeNick_6 (by decide) (fun h6 => ?_) (fun h6 => ?_)
  · exact absurd (hp.symm.trans h6) (by decide)
  · refine ev_iload_n dX6_changeNick_9 rfl 3 rfl ?_
    refine ev_callSi (x := b2i (sv (nI 10) (nI q))) dX6_changeNick_10 (Or.inl M_X6_112) Y_X6_isNick [.int (nI q)] (c_X6_isNick (nI q) ) (by decide) (Nat.le_of_ble_eq_true rfl) rfl rfl (Nat.le_of_ble_eq_true rfl) ?_
    refine ev_ifb_ne (tgt := 18) dX6_changeNick_13 (by decide) (fun h13 => ?_) (fun h13 => ?_)
    · refine ev_aload_n dX6_changeNick_18 rfl 0 rfl ?_
      refine ev_iload_n dX6_changeNick_19 rfl 1 rfl ?_
      refine ev_iload_n dX6_changeNick_20 rfl 2 rfl ?_
      refine ev_callVi (x := b2i (mus (σ 78) s n)) dX6_changeNick_21 M_X6_62 Y_X6_isUser [.int (nI s), .int (nI n)] (c_X6_isUser s n (by omega) (by omega)) (by decide) (Nat.le_of_ble_eq_true rfl) (by decide) sh_77 rfl rfl rfl (Nat.le_of_ble_eq_true rfl) ?_
      refine ev_ifb_eq (tgt := 42) dX6_changeNick_24 (by decide) (fun h24 => ?_) (fun h24 => ?_)
      · refine ev_bipush dX6_changeNick_42 (v := (-2)) (by decide) ?_
        exact ev_ireturn dX6_changeNick_44 rfl rfl (leafI hQ rfl rfl)
      · exact absurd (hu0.symm.trans h24) (by decide)
    · exact absurd (hq1.symm.trans h13) (by decide)

set_option maxRecDepth 100000 in
set_option maxHeartbeats 1000000 in
theorem c_X6_changeNick_st2 {l : Launch} {σ : av_S} (s : Nat) (n : Nat) (q : Nat) (h : Nat) (c : Nat) (hs : s < 6) (hn0 : n < 10) (hp : (sv (nI c) (nI s) && sv (nI 10) (nI n)) = true) (hq0 : q < 10) (hq1 : sv (nI 10) (nI q) = true) (hu0 : mus (σ 78) s n = true) (ho : mhm (σ 78) c (mnet (σ 78) c s) q = some h) (hh : h < 6) (hcn : σ 78 0 = nI c) (hc1 : 1 ≤ c) (hc6 : c ≤ 6) : av_M l RX6 cX6_changeNick 7 (some .int) 3 [.ref 77, .int (nI s), .int (nI n), .int (nI q)] σ (some (.int (-2))) σ := by
  intro Q hQ
  show av_Ev l RX6 cX6_changeNick 7 (some .int) av_E0 3 0 [(0, .ref 77), (1, .int (nI s)), (2, .int (nI n)), (3, .int (nI q))] [] σ Q
  refine ev_aload_n dX6_changeNick_0 rfl 0 rfl ?_
  refine ev_iload_n dX6_changeNick_1 rfl 1 rfl ?_
  refine ev_iload_n dX6_changeNick_2 rfl 2 rfl ?_
  refine ev_callVi (x := b2i (sv (nI c) (nI s) && sv (nI 10) (nI n))) dX6_changeNick_3 M_X6_115 Y_X6_isPlace [.int (nI s), .int (nI n)] (c_X6_isPlace (nI s) (nI n) c (by first | exact hcn | omega) (by first | exact hc1 | omega) (by first | exact hc6 | omega)) (by decide) (Nat.le_of_ble_eq_true rfl) (by decide) sh_77 rfl rfl rfl (Nat.le_of_ble_eq_true rfl) ?_
  refine ev_ifb_eq (tgt := 16) dX6_changeNick_6 (by decide) (fun h6 => ?_) (fun h6 => ?_)
  · exact absurd (hp.symm.trans h6) (by decide)
  · refine ev_iload_n dX6_changeNick_9 rfl 3 rfl ?_
    refine ev_callSi (x := b2i (sv (nI 10) (nI q))) dX6_changeNick_10 (Or.inl M_X6_112) Y_X6_isNick [.int (nI q)] (c_X6_isNick (nI q) ) (by decide) (Nat.le_of_ble_eq_true rfl) rfl rfl (Nat.le_of_ble_eq_true rfl) ?_
    refine ev_ifb_ne (tgt := 18) dX6_changeNick_13 (by decide) (fun h13 => ?_) (fun h13 => ?_)
    · refine ev_aload_n dX6_changeNick_18 rfl 0 rfl ?_
      refine ev_iload_n dX6_changeNick_19 rfl 1 rfl ?_
      refine ev_iload_n dX6_changeNick_20 rfl 2 rfl ?_
      refine ev_callVi (x := b2i (mus (σ 78) s n)) dX6_changeNick_21 M_X6_62 Y_X6_isUser [.int (nI s), .int (nI n)] (c_X6_isUser s n (by omega) (by omega)) (by decide) (Nat.le_of_ble_eq_true rfl) (by decide) sh_77 rfl rfl rfl (Nat.le_of_ble_eq_true rfl) ?_
      refine ev_ifb_eq (tgt := 42) dX6_changeNick_24 (by decide) (fun h24 => ?_) (fun h24 => ?_)
      · exact absurd (hu0.symm.trans h24) (by decide)
      · refine ev_aload_n dX6_changeNick_27 rfl 0 rfl ?_
        refine ev_aload_n dX6_changeNick_28 rfl 0 rfl ?_
        refine ev_iload_n dX6_changeNick_29 rfl 1 rfl ?_
        refine ev_callVi (x := mnet (σ 78) c s) dX6_changeNick_30 M_X6_54 Y_X6_network [.int (nI s)] (c_X6_network s c (by omega) (by first | exact hcn | omega) (by first | exact hc1 | omega) (by first | exact hc6 | omega)) (by decide) (Nat.le_of_ble_eq_true rfl) (by decide) sh_77 rfl rfl rfl (Nat.le_of_ble_eq_true rfl) ?_
        refine ev_iload_n dX6_changeNick_33 rfl 3 rfl ?_
        refine ev_callVi (x := oJ (mhm (σ 78) c (mnet (σ 78) c s) q)) dX6_changeNick_34 M_X6_72 Y_X6_homeIn [.int (mnet (σ 78) c s), .int (nI q)] (c_X6_homeIn (mnet (σ 78) c s) q c (by omega) (by first | exact hcn | omega) (by first | exact hc1 | omega) (by first | exact hc6 | omega)) (by decide) (Nat.le_of_ble_eq_true rfl) (by decide) sh_77 rfl rfl rfl (Nat.le_of_ble_eq_true rfl) ?_
        refine ev_top (v := nI h) (by rw [ho]; rfl) ?_
        refine ev_bipush dX6_changeNick_37 (v := (-9)) (by decide) ?_
        refine ev_icmp_eq (tgt := 45) dX6_changeNick_39 (by decide) (fun h39 => ?_) (fun h39 => ?_)
        · exact absurd h39 (nI_neg (by omega) (by decide))
        · refine ev_bipush dX6_changeNick_42 (v := (-2)) (by decide) ?_
          exact ev_ireturn dX6_changeNick_44 rfl rfl (leafI hQ rfl rfl)
    · exact absurd (hq1.symm.trans h13) (by decide)

set_option maxRecDepth 100000 in
set_option maxHeartbeats 1000000 in
theorem c_X6_changeNick_ok {l : Launch} {σ : av_S} (s : Nat) (n : Nat) (q : Nat) (c : Nat) (u : Nat) (hs : s < 6) (hn0 : n < 10) (hp : (sv (nI c) (nI s) && sv (nI 10) (nI n)) = true) (hq0 : q < 10) (hq1 : sv (nI 10) (nI q) = true) (hu0 : mus (σ 78) s n = true) (ho : mhm (σ 78) c (mnet (σ 78) c s) q = none) (hcn : σ 78 0 = nI c) (hc1 : 1 ≤ c) (hc6 : c ≤ 6) (hu : σ 77 2 = nI u) (hu8 : u ≤ 8) : av_M l RX6 cX6_changeNick 7 (some .int) 3 [.ref 77, .int (nI s), .int (nI n), .int (nI q)] σ (some (.int (σ 78 (10 + (10 * s + n))))) (av_set (av_set (av_set σ 77 (upd (σ 77) 2 (nI (svU u)))) 78 (mch (σ 78) s q n)) 79 (svH (σ 79) (σ 78) u)) := by
  intro Q hQ
  show av_Ev l RX6 cX6_changeNick 7 (some .int) av_E0 3 0 [(0, .ref 77), (1, .int (nI s)), (2, .int (nI n)), (3, .int (nI q))] [] σ Q
  refine ev_aload_n dX6_changeNick_0 rfl 0 rfl ?_
  refine ev_iload_n dX6_changeNick_1 rfl 1 rfl ?_
  refine ev_iload_n dX6_changeNick_2 rfl 2 rfl ?_
  refine ev_callVi (x := b2i (sv (nI c) (nI s) && sv (nI 10) (nI n))) dX6_changeNick_3 M_X6_115 Y_X6_isPlace [.int (nI s), .int (nI n)] (c_X6_isPlace (nI s) (nI n) c (by first | exact hcn | omega) (by first | exact hc1 | omega) (by first | exact hc6 | omega)) (by decide) (Nat.le_of_ble_eq_true rfl) (by decide) sh_77 rfl rfl rfl (Nat.le_of_ble_eq_true rfl) ?_
  refine ev_ifb_eq (tgt := 16) dX6_changeNick_6 (by decide) (fun h6 => ?_) (fun h6 => ?_)
  · exact absurd (hp.symm.trans h6) (by decide)
  · refine ev_iload_n dX6_changeNick_9 rfl 3 rfl ?_
    refine ev_callSi (x := b2i (sv (nI 10) (nI q))) dX6_changeNick_10 (Or.inl M_X6_112) Y_X6_isNick [.int (nI q)] (c_X6_isNick (nI q) ) (by decide) (Nat.le_of_ble_eq_true rfl) rfl rfl (Nat.le_of_ble_eq_true rfl) ?_
    refine ev_ifb_ne (tgt := 18) dX6_changeNick_13 (by decide) (fun h13 => ?_) (fun h13 => ?_)
    · refine ev_aload_n dX6_changeNick_18 rfl 0 rfl ?_
      refine ev_iload_n dX6_changeNick_19 rfl 1 rfl ?_
      refine ev_iload_n dX6_changeNick_20 rfl 2 rfl ?_
      refine ev_callVi (x := b2i (mus (σ 78) s n)) dX6_changeNick_21 M_X6_62 Y_X6_isUser [.int (nI s), .int (nI n)] (c_X6_isUser s n (by omega) (by omega)) (by decide) (Nat.le_of_ble_eq_true rfl) (by decide) sh_77 rfl rfl rfl (Nat.le_of_ble_eq_true rfl) ?_
      refine ev_ifb_eq (tgt := 42) dX6_changeNick_24 (by decide) (fun h24 => ?_) (fun h24 => ?_)
      · exact absurd (hu0.symm.trans h24) (by decide)
      · refine ev_aload_n dX6_changeNick_27 rfl 0 rfl ?_
        refine ev_aload_n dX6_changeNick_28 rfl 0 rfl ?_
        refine ev_iload_n dX6_changeNick_29 rfl 1 rfl ?_
        refine ev_callVi (x := mnet (σ 78) c s) dX6_changeNick_30 M_X6_54 Y_X6_network [.int (nI s)] (c_X6_network s c (by omega) (by first | exact hcn | omega) (by first | exact hc1 | omega) (by first | exact hc6 | omega)) (by decide) (Nat.le_of_ble_eq_true rfl) (by decide) sh_77 rfl rfl rfl (Nat.le_of_ble_eq_true rfl) ?_
        refine ev_iload_n dX6_changeNick_33 rfl 3 rfl ?_
        refine ev_callVi (x := oJ (mhm (σ 78) c (mnet (σ 78) c s) q)) dX6_changeNick_34 M_X6_72 Y_X6_homeIn [.int (mnet (σ 78) c s), .int (nI q)] (c_X6_homeIn (mnet (σ 78) c s) q c (by omega) (by first | exact hcn | omega) (by first | exact hc1 | omega) (by first | exact hc6 | omega)) (by decide) (Nat.le_of_ble_eq_true rfl) (by decide) sh_77 rfl rfl rfl (Nat.le_of_ble_eq_true rfl) ?_
        refine ev_top (v := (-9)) (by rw [ho]; rfl) ?_
        refine ev_bipush dX6_changeNick_37 (v := (-9)) (by decide) ?_
        refine ev_icmp_eq (tgt := 45) dX6_changeNick_39 (by decide) (fun h39 => ?_) (fun h39 => ?_)
        · refine ev_aload_n dX6_changeNick_45 rfl 0 rfl ?_
          refine ev_callVv (σ' := av_set (av_set σ 77 (upd (σ 77) 2 (nI (svU u)))) 79 (svH (σ 79) (σ 78) u)) dX6_changeNick_46 M_X6_69 Y_X6_save [] (c_X6_save u (by first | exact hu | omega) (by first | exact hu8 | omega)) (by decide) (Nat.le_of_ble_eq_true rfl) (by decide) sh_77 rfl rfl rfl (Nat.le_of_ble_eq_true rfl) ?_
          refine ev_iload_n dX6_changeNick_49 rfl 1 rfl ?_
          refine ev_iload_n dX6_changeNick_50 rfl 2 rfl ?_
          refine ev_callSi (x := nI (10 * s + n)) dX6_changeNick_51 (Or.inl M_X6_58) Y_X6_userCell [.int (nI s), .int (nI n)] (c_X6_userCell s n ) (by decide) (Nat.le_of_ble_eq_true rfl) rfl rfl (Nat.le_of_ble_eq_true rfl) ?_
          refine ev_istore (lv' := [(4, .int (nI (10 * s + n))), (0, .ref 77), (1, .int (nI s)), (2, .int (nI n)), (3, .int (nI q))]) dX6_changeNick_54 (by decide) rfl ?_
          refine ev_iload_n dX6_changeNick_56 rfl 2 rfl ?_
          refine ev_iload_n dX6_changeNick_57 rfl 4 rfl ?_
          refine ev_callSi (x := nI (10 * s + q)) dX6_changeNick_58 (Or.inl M_X6_58) Y_X6_userCell [.int (nI s), .int (nI q)] (c_X6_userCell s q ) (by decide) (Nat.le_of_ble_eq_true rfl) rfl rfl (Nat.le_of_ble_eq_true rfl) ?_
          refine ev_istore (lv' := [(5, .int (nI (10 * s + q))), (4, .int (nI (10 * s + n))), (0, .ref 77), (1, .int (nI s)), (2, .int (nI n)), (3, .int (nI q))]) dX6_changeNick_61 (by decide) rfl ?_
          refine ev_aload_n dX6_changeNick_63 rfl 2 rfl ?_
          refine ev_getR dX6_changeNick_64 C_X6 L_X6_7 (by decide) (by decide) sh_77 rfl ?_
          refine ev_bipush dX6_changeNick_67 (v := nI 10) (by decide) ?_
          refine ev_iload dX6_changeNick_69 1 rfl ?_
          refine ev_iadd dX6_changeNick_71 ?_
          refine ev_top (v := nI (10 + (10 * s + n))) (nI_add _ _) ?_
          refine ev_iald (e := 10 + (10 * s + n)) (v := σ 78 (10 + (10 * s + n))) dX6_changeNick_72 (by decide) sh_78 (by omega) (by decide) (by first | rfl | (simp only [av_set, cpS]; (repeat' split) <;> first | rfl | (exfalso; omega))) ?_
          refine ev_istore (lv' := [(6, .int (σ 78 (10 + (10 * s + n)))), (5, .int (nI (10 * s + q))), (4, .int (nI (10 * s + n))), (0, .ref 77), (1, .int (nI s)), (2, .int (nI n)), (3, .int (nI q))]) dX6_changeNick_73 (by decide) rfl ?_
          refine ev_aload_n dX6_changeNick_75 rfl 3 rfl ?_
          refine ev_getR dX6_changeNick_76 C_X6 L_X6_7 (by decide) (by decide) sh_77 rfl ?_
          refine ev_bipush dX6_changeNick_79 (v := nI 10) (by decide) ?_
          refine ev_iload dX6_changeNick_81 1 rfl ?_
          refine ev_iadd dX6_changeNick_83 ?_
          refine ev_top (v := nI (10 + (10 * s + q))) (nI_add _ _) ?_
          refine ev_aload_n dX6_changeNick_84 rfl 3 rfl ?_
          refine ev_getR dX6_changeNick_85 C_X6 L_X6_7 (by decide) (by decide) sh_77 rfl ?_
          refine ev_iconst dX6_changeNick_88 (v := nI 1) (by decide) ?_
          refine ev_iald (e := 1) (v := σ 78 1) dX6_changeNick_89 (by decide) sh_78 (by omega) (by decide) (by first | rfl | (simp only [av_set, cpS]; (repeat' split) <;> first | rfl | (exfalso; omega))) ?_
          refine ev_iast (e := 10 + (10 * s + q)) dX6_changeNick_90 (by decide) sh_78 (by omega) (by decide) ?_
          refine ev_st (σ' := av_set (av_set (av_set σ 77 (upd (σ 77) 2 (nI (svU u)))) 78 (upd (σ 78) (10 + (10 * s + q)) (σ 78 1))) 79 (svH (σ 79) (σ 78) u)) (by first | rfl | (funext a; by_cases q77 : a = 77; (next => subst q77; rfl); by_cases q78 : a = 78; (next => subst q78; rfl); by_cases q79 : a = 79; (next => subst q79; rfl); simp only [av_set, q77, q78, q79, if_false]) | exact av_set_set _ _ _ _ | (funext a; unfold av_set; (repeat' split) <;> first | rfl | (exfalso; omega)) | (funext a; simp only [av_set, cpS]; (repeat' split) <;> first | rfl | (exfalso; omega))) ?_
          refine ev_aload_n dX6_changeNick_91 rfl 3 rfl ?_
          refine ev_getR dX6_changeNick_92 C_X6 L_X6_7 (by decide) (by decide) sh_77 rfl ?_
          refine ev_bipush dX6_changeNick_95 (v := nI 70) (by decide) ?_
          refine ev_iload dX6_changeNick_97 1 rfl ?_
          refine ev_iadd dX6_changeNick_99 ?_
          refine ev_top (v := nI (70 + (10 * s + q))) (nI_add _ _) ?_
          refine ev_aload_n dX6_changeNick_100 rfl 3 rfl ?_
          refine ev_getR dX6_changeNick_101 C_X6 L_X6_7 (by decide) (by decide) sh_77 rfl ?_
          refine ev_bipush dX6_changeNick_104 (v := nI 70) (by decide) ?_
          refine ev_iload dX6_changeNick_106 2 rfl ?_
          refine ev_iadd dX6_changeNick_108 ?_
          refine ev_top (v := nI (70 + (10 * s + n))) (nI_add _ _) ?_
          refine ev_iald (e := 70 + (10 * s + n)) (v := (upd (σ 78) (10 + (10 * s + q)) (σ 78 1)) (70 + (10 * s + n))) dX6_changeNick_109 (by decide) sh_78 (by omega) (by decide) (by first | rfl | (simp only [av_set, cpS]; (repeat' split) <;> first | rfl | (exfalso; omega))) ?_
          refine ev_iast (e := 70 + (10 * s + q)) dX6_changeNick_110 (by decide) sh_78 (by omega) (by decide) ?_
          refine ev_st (σ' := av_set (av_set (av_set σ 77 (upd (σ 77) 2 (nI (svU u)))) 78 (upd (upd (σ 78) (10 + (10 * s + q)) (σ 78 1)) (70 + (10 * s + q)) ((upd (σ 78) (10 + (10 * s + q)) (σ 78 1)) (70 + (10 * s + n))))) 79 (svH (σ 79) (σ 78) u)) (by first | rfl | (funext a; by_cases q77 : a = 77; (next => subst q77; rfl); by_cases q78 : a = 78; (next => subst q78; rfl); by_cases q79 : a = 79; (next => subst q79; rfl); simp only [av_set, q77, q78, q79, if_false]) | exact av_set_set _ _ _ _ | (funext a; unfold av_set; (repeat' split) <;> first | rfl | (exfalso; omega)) | (funext a; simp only [av_set, cpS]; (repeat' split) <;> first | rfl | (exfalso; omega))) ?_
          refine ev_aload_n dX6_changeNick_111 rfl 3 rfl ?_
          refine ev_getR dX6_changeNick_112 C_X6 L_X6_7 (by decide) (by decide) sh_77 rfl ?_
          refine ev_sipush dX6_changeNick_115 (v := nI 130) (by decide) ?_
          refine ev_iload dX6_changeNick_118 1 rfl ?_
          refine ev_iadd dX6_changeNick_120 ?_
          refine ev_top (v := nI (130 + (10 * s + q))) (nI_add _ _) ?_
          refine ev_aload_n dX6_changeNick_121 rfl 3 rfl ?_
          refine ev_getR dX6_changeNick_122 C_X6 L_X6_7 (by decide) (by decide) sh_77 rfl ?_
          refine ev_sipush dX6_changeNick_125 (v := nI 130) (by decide) ?_
          refine ev_iload dX6_changeNick_128 2 rfl ?_
          refine ev_iadd dX6_changeNick_130 ?_
          refine ev_top (v := nI (130 + (10 * s + n))) (nI_add _ _) ?_
          refine ev_iald (e := 130 + (10 * s + n)) (v := (upd (upd (σ 78) (10 + (10 * s + q)) (σ 78 1)) (70 + (10 * s + q)) ((upd (σ 78) (10 + (10 * s + q)) (σ 78 1)) (70 + (10 * s + n)))) (130 + (10 * s + n))) dX6_changeNick_131 (by decide) sh_78 (by omega) (by decide) (by first | rfl | (simp only [av_set, cpS]; (repeat' split) <;> first | rfl | (exfalso; omega))) ?_
          refine ev_iast (e := 130 + (10 * s + q)) dX6_changeNick_132 (by decide) sh_78 (by omega) (by decide) ?_
          refine ev_st (σ' := av_set (av_set (av_set σ 77 (upd (σ 77) 2 (nI (svU u)))) 78 (upd (upd (upd (σ 78) (10 + (10 * s + q)) (σ 78 1)) (70 + (10 * s + q)) ((upd (σ 78) (10 + (10 * s + q)) (σ 78 1)) (70 + (10 * s + n)))) (130 + (10 * s + q)) ((upd (upd (σ 78) (10 + (10 * s + q)) (σ 78 1)) (70 + (10 * s + q)) ((upd (σ 78) (10 + (10 * s + q)) (σ 78 1)) (70 + (10 * s + n)))) (130 + (10 * s + n))))) 79 (svH (σ 79) (σ 78) u)) (by first | rfl | (funext a; by_cases q77 : a = 77; (next => subst q77; rfl); by_cases q78 : a = 78; (next => subst q78; rfl); by_cases q79 : a = 79; (next => subst q79; rfl); simp only [av_set, q77, q78, q79, if_false]) | exact av_set_set _ _ _ _ | (funext a; unfold av_set; (repeat' split) <;> first | rfl | (exfalso; omega)) | (funext a; simp only [av_set, cpS]; (repeat' split) <;> first | rfl | (exfalso; omega))) ?_
          refine ev_aload_n dX6_changeNick_133 rfl 3 rfl ?_
          refine ev_iload_n dX6_changeNick_134 rfl 4 rfl ?_
          refine ev_iload_n dX6_changeNick_135 rfl 5 rfl ?_
          refine ev_callVv dX6_changeNick_136 M_X6_75 Y_X6_removeUser [.int (nI s), .int (nI n)] (c_X6_removeUser s n (by omega) (by omega)) (by decide) (Nat.le_of_ble_eq_true rfl) (by decide) sh_77 rfl rfl rfl (Nat.le_of_ble_eq_true rfl) ?_
          refine ev_st (σ' := av_set (av_set (av_set σ 77 (upd (σ 77) 2 (nI (svU u)))) 78 (mrm (upd (upd (upd (σ 78) (10 + (10 * s + q)) (σ 78 1)) (70 + (10 * s + q)) ((upd (σ 78) (10 + (10 * s + q)) (σ 78 1)) (70 + (10 * s + n)))) (130 + (10 * s + q)) ((upd (upd (σ 78) (10 + (10 * s + q)) (σ 78 1)) (70 + (10 * s + q)) ((upd (σ 78) (10 + (10 * s + q)) (σ 78 1)) (70 + (10 * s + n)))) (130 + (10 * s + n)))) s n)) 79 (svH (σ 79) (σ 78) u)) (by first | rfl | (funext a; by_cases q77 : a = 77; (next => subst q77; rfl); by_cases q78 : a = 78; (next => subst q78; rfl); by_cases q79 : a = 79; (next => subst q79; rfl); simp only [av_set, q77, q78, q79, if_false]) | exact av_set_set _ _ _ _ | (funext a; unfold av_set; (repeat' split) <;> first | rfl | (exfalso; omega)) | (funext a; simp only [av_set, cpS]; (repeat' split) <;> first | rfl | (exfalso; omega))) ?_
          refine ev_iload dX6_changeNick_139 0 rfl ?_
          exact ev_ireturn dX6_changeNick_141 rfl rfl (leafI hQ rfl (by unfold mch; rfl))
        · exact absurd rfl h39
    · exact absurd (hq1.symm.trans h13) (by decide)

set_option maxRecDepth 100000 in
set_option maxHeartbeats 1000000 in
theorem c_X6_homeServer_bad {l : Launch} {σ : av_S} (x : Int32) (y : Int32) (c : Nat) (hx : (sv (nI c) x && sv (nI 10) y) = false) (hcn : σ 78 0 = nI c) (hc1 : 1 ≤ c) (hc6 : c ≤ 6) : av_M l RX6 cX6_homeServer 3 (some .int) 3 [.ref 77, .int x, .int y] σ (some (.int (-1))) σ := by
  intro Q hQ
  show av_Ev l RX6 cX6_homeServer 3 (some .int) av_E0 3 0 [(0, .ref 77), (1, .int x), (2, .int y)] [] σ Q
  refine ev_aload_n dX6_homeServer_0 rfl 0 rfl ?_
  refine ev_iload_n dX6_homeServer_1 rfl 1 rfl ?_
  refine ev_iload_n dX6_homeServer_2 rfl 2 rfl ?_
  refine ev_callVi (x := b2i (sv (nI c) x && sv (nI 10) y)) dX6_homeServer_3 M_X6_115 Y_X6_isPlace [.int x, .int y] (c_X6_isPlace x y c (by first | exact hcn | omega) (by first | exact hc1 | omega) (by first | exact hc6 | omega)) (by decide) (Nat.le_of_ble_eq_true rfl) (by decide) sh_77 rfl rfl rfl (Nat.le_of_ble_eq_true rfl) ?_
  refine ev_ifb_eq (tgt := 22) dX6_homeServer_6 (by decide) (fun h6 => ?_) (fun h6 => ?_)
  · refine ev_iconst dX6_homeServer_22 (v := (-1)) (by decide) ?_
    exact ev_ireturn dX6_homeServer_23 rfl rfl (leafI hQ rfl rfl)
  · exact absurd hx (by simp [h6])

set_option maxRecDepth 100000 in
set_option maxHeartbeats 1000000 in
theorem c_X6_homeServer_no {l : Launch} {σ : av_S} (s : Nat) (n : Nat) (c : Nat) (hs : s < 6) (hn0 : n < 10) (hp : (sv (nI c) (nI s) && sv (nI 10) (nI n)) = true) (ho : mhm (σ 78) c (mnet (σ 78) c s) n = none) (hcn : σ 78 0 = nI c) (hc1 : 1 ≤ c) (hc6 : c ≤ 6) : av_M l RX6 cX6_homeServer 3 (some .int) 3 [.ref 77, .int (nI s), .int (nI n)] σ (some (.int (-9))) σ := by
  intro Q hQ
  show av_Ev l RX6 cX6_homeServer 3 (some .int) av_E0 3 0 [(0, .ref 77), (1, .int (nI s)), (2, .int (nI n))] [] σ Q
  refine ev_aload_n dX6_homeServer_0 rfl 0 rfl ?_
  refine ev_iload_n dX6_homeServer_1 rfl 1 rfl ?_
  refine ev_iload_n dX6_homeServer_2 rfl 2 rfl ?_
  refine ev_callVi (x := b2i (sv (nI c) (nI s) && sv (nI 10) (nI n))) dX6_homeServer_3 M_X6_115 Y_X6_isPlace [.int (nI s), .int (nI n)] (c_X6_isPlace (nI s) (nI n) c (by first | exact hcn | omega) (by first | exact hc1 | omega) (by first | exact hc6 | omega)) (by decide) (Nat.le_of_ble_eq_true rfl) (by decide) sh_77 rfl rfl rfl (Nat.le_of_ble_eq_true rfl) ?_
  refine ev_ifb_eq (tgt := 22) dX6_homeServer_6 (by decide) (fun h6 => ?_) (fun h6 => ?_)
  · exact absurd (hp.symm.trans h6) (by decide)
  · refine ev_aload_n dX6_homeServer_9 rfl 0 rfl ?_
    refine ev_aload_n dX6_homeServer_10 rfl 0 rfl ?_
    refine ev_iload_n dX6_homeServer_11 rfl 1 rfl ?_
    refine ev_callVi (x := mnet (σ 78) c s) dX6_homeServer_12 M_X6_54 Y_X6_network [.int (nI s)] (c_X6_network s c (by omega) (by first | exact hcn | omega) (by first | exact hc1 | omega) (by first | exact hc6 | omega)) (by decide) (Nat.le_of_ble_eq_true rfl) (by decide) sh_77 rfl rfl rfl (Nat.le_of_ble_eq_true rfl) ?_
    refine ev_iload_n dX6_homeServer_15 rfl 2 rfl ?_
    refine ev_callVi (x := oJ (mhm (σ 78) c (mnet (σ 78) c s) n)) dX6_homeServer_16 M_X6_72 Y_X6_homeIn [.int (mnet (σ 78) c s), .int (nI n)] (c_X6_homeIn (mnet (σ 78) c s) n c (by omega) (by first | exact hcn | omega) (by first | exact hc1 | omega) (by first | exact hc6 | omega)) (by decide) (Nat.le_of_ble_eq_true rfl) (by decide) sh_77 rfl rfl rfl (Nat.le_of_ble_eq_true rfl) ?_
    refine ev_top (v := (-9)) (by rw [ho]; rfl) ?_
    refine ev_goto (tgt := 23) dX6_homeServer_19 (by decide) ?_
    exact ev_ireturn dX6_homeServer_23 rfl rfl (leafI hQ rfl rfl)

set_option maxRecDepth 100000 in
set_option maxHeartbeats 1000000 in
theorem c_X6_homeServer_ok {l : Launch} {σ : av_S} (s : Nat) (n : Nat) (h : Nat) (c : Nat) (hs : s < 6) (hn0 : n < 10) (hp : (sv (nI c) (nI s) && sv (nI 10) (nI n)) = true) (ho : mhm (σ 78) c (mnet (σ 78) c s) n = some h) (hh : h < 6) (hcn : σ 78 0 = nI c) (hc1 : 1 ≤ c) (hc6 : c ≤ 6) : av_M l RX6 cX6_homeServer 3 (some .int) 3 [.ref 77, .int (nI s), .int (nI n)] σ (some (.int (nI h))) σ := by
  intro Q hQ
  show av_Ev l RX6 cX6_homeServer 3 (some .int) av_E0 3 0 [(0, .ref 77), (1, .int (nI s)), (2, .int (nI n))] [] σ Q
  refine ev_aload_n dX6_homeServer_0 rfl 0 rfl ?_
  refine ev_iload_n dX6_homeServer_1 rfl 1 rfl ?_
  refine ev_iload_n dX6_homeServer_2 rfl 2 rfl ?_
  refine ev_callVi (x := b2i (sv (nI c) (nI s) && sv (nI 10) (nI n))) dX6_homeServer_3 M_X6_115 Y_X6_isPlace [.int (nI s), .int (nI n)] (c_X6_isPlace (nI s) (nI n) c (by first | exact hcn | omega) (by first | exact hc1 | omega) (by first | exact hc6 | omega)) (by decide) (Nat.le_of_ble_eq_true rfl) (by decide) sh_77 rfl rfl rfl (Nat.le_of_ble_eq_true rfl) ?_
  refine ev_ifb_eq (tgt := 22) dX6_homeServer_6 (by decide) (fun h6 => ?_) (fun h6 => ?_)
  · exact absurd (hp.symm.trans h6) (by decide)
  · refine ev_aload_n dX6_homeServer_9 rfl 0 rfl ?_
    refine ev_aload_n dX6_homeServer_10 rfl 0 rfl ?_
    refine ev_iload_n dX6_homeServer_11 rfl 1 rfl ?_
    refine ev_callVi (x := mnet (σ 78) c s) dX6_homeServer_12 M_X6_54 Y_X6_network [.int (nI s)] (c_X6_network s c (by omega) (by first | exact hcn | omega) (by first | exact hc1 | omega) (by first | exact hc6 | omega)) (by decide) (Nat.le_of_ble_eq_true rfl) (by decide) sh_77 rfl rfl rfl (Nat.le_of_ble_eq_true rfl) ?_
    refine ev_iload_n dX6_homeServer_15 rfl 2 rfl ?_
    refine ev_callVi (x := oJ (mhm (σ 78) c (mnet (σ 78) c s) n)) dX6_homeServer_16 M_X6_72 Y_X6_homeIn [.int (mnet (σ 78) c s), .int (nI n)] (c_X6_homeIn (mnet (σ 78) c s) n c (by omega) (by first | exact hcn | omega) (by first | exact hc1 | omega) (by first | exact hc6 | omega)) (by decide) (Nat.le_of_ble_eq_true rfl) (by decide) sh_77 rfl rfl rfl (Nat.le_of_ble_eq_true rfl) ?_
    refine ev_top (v := nI h) (by rw [ho]; rfl) ?_
    refine ev_goto (tgt := 23) dX6_homeServer_19 (by decide) ?_
    exact ev_ireturn dX6_homeServer_23 rfl rfl (leafI hQ rfl rfl)

set_option maxRecDepth 100000 in
set_option maxHeartbeats 1000000 in
theorem c_X6_userTimestamp_bad {l : Launch} {σ : av_S} (x : Int32) (y : Int32) (c : Nat) (hx : (sv (nI c) x && sv (nI 10) y) = false) (hcn : σ 78 0 = nI c) (hc1 : 1 ≤ c) (hc6 : c ≤ 6) : av_M l RX6 cX6_userTimestamp 4 (some .int) 3 [.ref 77, .int x, .int y] σ (some (.int (-1))) σ := by
  intro Q hQ
  show av_Ev l RX6 cX6_userTimestamp 4 (some .int) av_E0 3 0 [(0, .ref 77), (1, .int x), (2, .int y)] [] σ Q
  refine ev_aload_n dX6_userTimestamp_0 rfl 0 rfl ?_
  refine ev_iload_n dX6_userTimestamp_1 rfl 1 rfl ?_
  refine ev_iload_n dX6_userTimestamp_2 rfl 2 rfl ?_
  refine ev_callVi (x := b2i (sv (nI c) x && sv (nI 10) y)) dX6_userTimestamp_3 M_X6_115 Y_X6_isPlace [.int x, .int y] (c_X6_isPlace x y c (by first | exact hcn | omega) (by first | exact hc1 | omega) (by first | exact hc6 | omega)) (by decide) (Nat.le_of_ble_eq_true rfl) (by decide) sh_77 rfl rfl rfl (Nat.le_of_ble_eq_true rfl) ?_
  refine ev_ifb_ne (tgt := 11) dX6_userTimestamp_6 (by decide) (fun h6 => ?_) (fun h6 => ?_)
  · exact absurd hx (by simp [h6])
  · refine ev_iconst dX6_userTimestamp_9 (v := (-1)) (by decide) ?_
    exact ev_ireturn dX6_userTimestamp_10 rfl rfl (leafI hQ rfl rfl)

set_option maxRecDepth 100000 in
set_option maxHeartbeats 1000000 in
theorem c_X6_userTimestamp_no {l : Launch} {σ : av_S} (s : Nat) (n : Nat) (c : Nat) (hs : s < 6) (hn0 : n < 10) (hp : (sv (nI c) (nI s) && sv (nI 10) (nI n)) = true) (ho : mhm (σ 78) c (mnet (σ 78) c s) n = none) (hcn : σ 78 0 = nI c) (hc1 : 1 ≤ c) (hc6 : c ≤ 6) : av_M l RX6 cX6_userTimestamp 4 (some .int) 3 [.ref 77, .int (nI s), .int (nI n)] σ (some (.int (-9))) σ := by
  intro Q hQ
  show av_Ev l RX6 cX6_userTimestamp 4 (some .int) av_E0 3 0 [(0, .ref 77), (1, .int (nI s)), (2, .int (nI n))] [] σ Q
  refine ev_aload_n dX6_userTimestamp_0 rfl 0 rfl ?_
  refine ev_iload_n dX6_userTimestamp_1 rfl 1 rfl ?_
  refine ev_iload_n dX6_userTimestamp_2 rfl 2 rfl ?_
  refine ev_callVi (x := b2i (sv (nI c) (nI s) && sv (nI 10) (nI n))) dX6_userTimestamp_3 M_X6_115 Y_X6_isPlace [.int (nI s), .int (nI n)] (c_X6_isPlace (nI s) (nI n) c (by first | exact hcn | omega) (by first | exact hc1 | omega) (by first | exact hc6 | omega)) (by decide) (Nat.le_of_ble_eq_true rfl) (by decide) sh_77 rfl rfl rfl (Nat.le_of_ble_eq_true rfl) ?_
  refine ev_ifb_ne (tgt := 11) dX6_userTimestamp_6 (by decide) (fun h6 => ?_) (fun h6 => ?_)
  · refine ev_aload_n dX6_userTimestamp_11 rfl 0 rfl ?_
    refine ev_aload_n dX6_userTimestamp_12 rfl 0 rfl ?_
    refine ev_iload_n dX6_userTimestamp_13 rfl 1 rfl ?_
    refine ev_callVi (x := mnet (σ 78) c s) dX6_userTimestamp_14 M_X6_54 Y_X6_network [.int (nI s)] (c_X6_network s c (by omega) (by first | exact hcn | omega) (by first | exact hc1 | omega) (by first | exact hc6 | omega)) (by decide) (Nat.le_of_ble_eq_true rfl) (by decide) sh_77 rfl rfl rfl (Nat.le_of_ble_eq_true rfl) ?_
    refine ev_iload_n dX6_userTimestamp_17 rfl 2 rfl ?_
    refine ev_callVi (x := oJ (mhm (σ 78) c (mnet (σ 78) c s) n)) dX6_userTimestamp_18 M_X6_72 Y_X6_homeIn [.int (mnet (σ 78) c s), .int (nI n)] (c_X6_homeIn (mnet (σ 78) c s) n c (by omega) (by first | exact hcn | omega) (by first | exact hc1 | omega) (by first | exact hc6 | omega)) (by decide) (Nat.le_of_ble_eq_true rfl) (by decide) sh_77 rfl rfl rfl (Nat.le_of_ble_eq_true rfl) ?_
    refine ev_top (v := (-9)) (by rw [ho]; rfl) ?_
    refine ev_istore_n (lv' := [(3, .int (-9)), (0, .ref 77), (1, .int (nI s)), (2, .int (nI n))]) dX6_userTimestamp_21 rfl (by decide) rfl ?_
    refine ev_iload_n dX6_userTimestamp_22 rfl 0 rfl ?_
    refine ev_bipush dX6_userTimestamp_23 (v := (-9)) (by decide) ?_
    refine ev_icmp_ne (tgt := 33) dX6_userTimestamp_25 (by decide) (fun h25 => ?_) (fun h25 => ?_)
    · exact absurd rfl h25
    · refine ev_bipush dX6_userTimestamp_28 (v := (-9)) (by decide) ?_
      refine ev_goto (tgt := 46) dX6_userTimestamp_30 (by decide) ?_
      exact ev_ireturn dX6_userTimestamp_46 rfl rfl (leafI hQ rfl rfl)
  · exact absurd (hp.symm.trans h6) (by decide)

set_option maxRecDepth 100000 in
set_option maxHeartbeats 1000000 in
theorem c_X6_userTimestamp_ok {l : Launch} {σ : av_S} (s : Nat) (n : Nat) (h : Nat) (c : Nat) (hs : s < 6) (hn0 : n < 10) (hp : (sv (nI c) (nI s) && sv (nI 10) (nI n)) = true) (ho : mhm (σ 78) c (mnet (σ 78) c s) n = some h) (hh : h < 6) (hcn : σ 78 0 = nI c) (hc1 : 1 ≤ c) (hc6 : c ≤ 6) : av_M l RX6 cX6_userTimestamp 4 (some .int) 3 [.ref 77, .int (nI s), .int (nI n)] σ (some (.int (σ 78 (10 + (10 * h + n))))) σ := by
  intro Q hQ
  show av_Ev l RX6 cX6_userTimestamp 4 (some .int) av_E0 3 0 [(0, .ref 77), (1, .int (nI s)), (2, .int (nI n))] [] σ Q
  refine ev_aload_n dX6_userTimestamp_0 rfl 0 rfl ?_
  refine ev_iload_n dX6_userTimestamp_1 rfl 1 rfl ?_
  refine ev_iload_n dX6_userTimestamp_2 rfl 2 rfl ?_
  refine ev_callVi (x := b2i (sv (nI c) (nI s) && sv (nI 10) (nI n))) dX6_userTimestamp_3 M_X6_115 Y_X6_isPlace [.int (nI s), .int (nI n)] (c_X6_isPlace (nI s) (nI n) c (by first | exact hcn | omega) (by first | exact hc1 | omega) (by first | exact hc6 | omega)) (by decide) (Nat.le_of_ble_eq_true rfl) (by decide) sh_77 rfl rfl rfl (Nat.le_of_ble_eq_true rfl) ?_
  refine ev_ifb_ne (tgt := 11) dX6_userTimestamp_6 (by decide) (fun h6 => ?_) (fun h6 => ?_)
  · refine ev_aload_n dX6_userTimestamp_11 rfl 0 rfl ?_
    refine ev_aload_n dX6_userTimestamp_12 rfl 0 rfl ?_
    refine ev_iload_n dX6_userTimestamp_13 rfl 1 rfl ?_
    refine ev_callVi (x := mnet (σ 78) c s) dX6_userTimestamp_14 M_X6_54 Y_X6_network [.int (nI s)] (c_X6_network s c (by omega) (by first | exact hcn | omega) (by first | exact hc1 | omega) (by first | exact hc6 | omega)) (by decide) (Nat.le_of_ble_eq_true rfl) (by decide) sh_77 rfl rfl rfl (Nat.le_of_ble_eq_true rfl) ?_
    refine ev_iload_n dX6_userTimestamp_17 rfl 2 rfl ?_
    refine ev_callVi (x := oJ (mhm (σ 78) c (mnet (σ 78) c s) n)) dX6_userTimestamp_18 M_X6_72 Y_X6_homeIn [.int (mnet (σ 78) c s), .int (nI n)] (c_X6_homeIn (mnet (σ 78) c s) n c (by omega) (by first | exact hcn | omega) (by first | exact hc1 | omega) (by first | exact hc6 | omega)) (by decide) (Nat.le_of_ble_eq_true rfl) (by decide) sh_77 rfl rfl rfl (Nat.le_of_ble_eq_true rfl) ?_
    refine ev_top (v := nI h) (by rw [ho]; rfl) ?_
    refine ev_istore_n (lv' := [(3, .int (nI h)), (0, .ref 77), (1, .int (nI s)), (2, .int (nI n))]) dX6_userTimestamp_21 rfl (by decide) rfl ?_
    refine ev_iload_n dX6_userTimestamp_22 rfl 0 rfl ?_
    refine ev_bipush dX6_userTimestamp_23 (v := (-9)) (by decide) ?_
    refine ev_icmp_ne (tgt := 33) dX6_userTimestamp_25 (by decide) (fun h25 => ?_) (fun h25 => ?_)
    · refine ev_aload_n dX6_userTimestamp_33 rfl 1 rfl ?_
      refine ev_getR dX6_userTimestamp_34 C_X6 L_X6_7 (by decide) (by decide) sh_77 rfl ?_
      refine ev_bipush dX6_userTimestamp_37 (v := nI 10) (by decide) ?_
      refine ev_iload_n dX6_userTimestamp_39 rfl 0 rfl ?_
      refine ev_iload_n dX6_userTimestamp_40 rfl 3 rfl ?_
      refine ev_callSi (x := nI (10 * h + n)) dX6_userTimestamp_41 (Or.inl M_X6_58) Y_X6_userCell [.int (nI h), .int (nI n)] (c_X6_userCell h n ) (by decide) (Nat.le_of_ble_eq_true rfl) rfl rfl (Nat.le_of_ble_eq_true rfl) ?_
      refine ev_iadd dX6_userTimestamp_44 ?_
      refine ev_top (v := nI (10 + (10 * h + n))) (nI_add _ _) ?_
      refine ev_iald (e := 10 + (10 * h + n)) (v := σ 78 (10 + (10 * h + n))) dX6_userTimestamp_45 (by decide) sh_78 (by omega) (by decide) rfl ?_
      exact ev_ireturn dX6_userTimestamp_46 rfl rfl (leafI hQ rfl rfl)
    · exact absurd h25 (nI_neg (by omega) (by decide))
  · exact absurd (hp.symm.trans h6) (by decide)

set_option maxRecDepth 100000 in
set_option maxHeartbeats 1000000 in
theorem c_X6_visibleUsers_bad {l : Launch} {σ : av_S} (x : Int32) (c : Nat) (hx : (sv (nI c) x) = false) (hcn : σ 78 0 = nI c) (hc1 : 1 ≤ c) (hc6 : c ≤ 6) : av_M l RX6 cX6_visibleUsers 2 (some .int) 2 [.ref 77, .int x] σ (some (.int (-1))) σ := by
  intro Q hQ
  show av_Ev l RX6 cX6_visibleUsers 2 (some .int) av_E0 2 0 [(0, .ref 77), (1, .int x)] [] σ Q
  refine ev_aload_n dX6_visibleUsers_0 rfl 0 rfl ?_
  refine ev_iload_n dX6_visibleUsers_1 rfl 1 rfl ?_
  refine ev_callVi (x := b2i (sv (nI c) x)) dX6_visibleUsers_2 M_X6_46 Y_X6_isServer [.int x] (c_X6_isServer x c (by first | exact hcn | omega) (by first | exact hc1 | omega) (by first | exact hc6 | omega)) (by decide) (Nat.le_of_ble_eq_true rfl) (by decide) sh_77 rfl rfl rfl (Nat.le_of_ble_eq_true rfl) ?_
  refine ev_ifb_eq (tgt := 23) dX6_visibleUsers_5 (by decide) (fun h5 => ?_) (fun h5 => ?_)
  · refine ev_iconst dX6_visibleUsers_23 (v := (-1)) (by decide) ?_
    exact ev_ireturn dX6_visibleUsers_24 rfl rfl (leafI hQ rfl rfl)
  · exact absurd hx (by simp [h5])

set_option maxRecDepth 100000 in
set_option maxHeartbeats 1000000 in
theorem c_X6_visibleUsers_ok {l : Launch} {σ : av_S} (s : Nat) (c : Nat) (hs : s < 6) (hs1 : sv (nI c) (nI s) = true) (hcn : σ 78 0 = nI c) (hc1 : 1 ≤ c) (hc6 : c ≤ 6) : av_M l RX6 cX6_visibleUsers 2 (some .int) 2 [.ref 77, .int (nI s)] σ (some (.int (mni (mus (σ 78)) c (mnet (σ 78) c s)))) σ := by
  intro Q hQ
  show av_Ev l RX6 cX6_visibleUsers 2 (some .int) av_E0 2 0 [(0, .ref 77), (1, .int (nI s))] [] σ Q
  refine ev_aload_n dX6_visibleUsers_0 rfl 0 rfl ?_
  refine ev_iload_n dX6_visibleUsers_1 rfl 1 rfl ?_
  refine ev_callVi (x := b2i (sv (nI c) (nI s))) dX6_visibleUsers_2 M_X6_46 Y_X6_isServer [.int (nI s)] (c_X6_isServer (nI s) c (by first | exact hcn | omega) (by first | exact hc1 | omega) (by first | exact hc6 | omega)) (by decide) (Nat.le_of_ble_eq_true rfl) (by decide) sh_77 rfl rfl rfl (Nat.le_of_ble_eq_true rfl) ?_
  refine ev_ifb_eq (tgt := 23) dX6_visibleUsers_5 (by decide) (fun h5 => ?_) (fun h5 => ?_)
  · exact absurd (hs1.symm.trans h5) (by decide)
  · refine ev_aload_n dX6_visibleUsers_8 rfl 0 rfl ?_
    refine ev_aload_n dX6_visibleUsers_9 rfl 0 rfl ?_
    refine ev_iload_n dX6_visibleUsers_10 rfl 1 rfl ?_
    refine ev_callVi (x := mnet (σ 78) c s) dX6_visibleUsers_11 M_X6_54 Y_X6_network [.int (nI s)] (c_X6_network s c (by omega) (by first | exact hcn | omega) (by first | exact hc1 | omega) (by first | exact hc6 | omega)) (by decide) (Nat.le_of_ble_eq_true rfl) (by decide) sh_77 rfl rfl rfl (Nat.le_of_ble_eq_true rfl) ?_
    refine ev_bipush dX6_visibleUsers_14 (v := nI 10) (by decide) ?_
    refine ev_iconst dX6_visibleUsers_16 (v := nI 0) (by decide) ?_
    refine ev_callVi (x := mni (mus (σ 78)) c (mnet (σ 78) c s)) dX6_visibleUsers_17 M_X6_65 Y_X6_nicksIn [.int (mnet (σ 78) c s), .int (nI 10), .int (nI 0)] (c_X6_nicksIn_s (mnet (σ 78) c s) c (by first | exact hcn | omega) (by first | exact hc1 | omega) (by first | exact hc6 | omega)) (by decide) (Nat.le_of_ble_eq_true rfl) (by decide) sh_77 rfl rfl rfl (Nat.le_of_ble_eq_true rfl) ?_
    refine ev_goto (tgt := 24) dX6_visibleUsers_20 (by decide) ?_
    exact ev_ireturn dX6_visibleUsers_24 rfl rfl (leafI hQ rfl rfl)

