/-! ===== the reference: contracts, fourth part ===== -/
set_option maxRecDepth 100000 in
set_option maxHeartbeats 1000000 in
theorem c_X6_setOperator {l : Launch} {σ : av_S} (h : Nat) (n : Nat) (ch : Nat) (p : Bool) (hh : h < 6) (hn0 : n < 10) (hch : ch < 4) : av_M l RX6 cX6_setOperator 6 none 1 [.ref 77, .int (nI h), .int (nI n), .int (nI ch), .int (b2i p)] σ none (av_set σ 78 (mso (σ 78) h n ch p)) := by
  intro Q hQ
  show av_Ev l RX6 cX6_setOperator 6 none av_E0 1 0 [(0, .ref 77), (1, .int (nI h)), (2, .int (nI n)), (3, .int (nI ch)), (4, .int (b2i p))] [] σ Q
  refine ev_sipush dX6_setOperator_0 (v := nI 130) (by decide) ?_
  refine ev_iload_n dX6_setOperator_3 rfl 1 rfl ?_
  refine ev_iload_n dX6_setOperator_4 rfl 2 rfl ?_
  refine ev_callSi (x := nI (10 * h + n)) dX6_setOperator_5 (Or.inl M_X6_58) Y_X6_userCell [.int (nI h), .int (nI n)] (c_X6_userCell h n ) (by decide) (Nat.le_of_ble_eq_true rfl) rfl rfl (Nat.le_of_ble_eq_true rfl) ?_
  refine ev_iadd dX6_setOperator_8 ?_
  refine ev_top (v := nI (130 + (10 * h + n))) (nI_add _ _) ?_
  refine ev_istore (lv' := [(5, .int (nI (130 + (10 * h + n)))), (0, .ref 77), (1, .int (nI h)), (2, .int (nI n)), (3, .int (nI ch)), (4, .int (b2i p))]) dX6_setOperator_9 (by decide) rfl ?_
  refine ev_aload_n dX6_setOperator_11 rfl 1 rfl ?_
  refine ev_getR dX6_setOperator_12 C_X6 L_X6_7 (by decide) (by decide) sh_77 rfl ?_
  refine ev_iload dX6_setOperator_15 0 rfl ?_
  refine ev_aload_n dX6_setOperator_17 rfl 1 rfl ?_
  refine ev_getR dX6_setOperator_18 C_X6 L_X6_7 (by decide) (by decide) sh_77 rfl ?_
  refine ev_iload dX6_setOperator_21 0 rfl ?_
  refine ev_iald (e := 130 + (10 * h + n)) (v := σ 78 (130 + (10 * h + n))) dX6_setOperator_23 (by decide) sh_78 (by omega) (by decide) rfl ?_
  refine ev_iconst dX6_setOperator_24 (v := nI 1) (by decide) ?_
  refine ev_iload_n dX6_setOperator_25 rfl 4 rfl ?_
  refine ev_ishl dX6_setOperator_26 ?_
  refine ev_top (v := bt ch) rfl ?_
  refine ev_iconst dX6_setOperator_27 (v := (-1)) (by decide) ?_
  refine ev_ixor dX6_setOperator_28 ?_
  refine ev_iand dX6_setOperator_29 ?_
  refine ev_iload dX6_setOperator_30 5 rfl ?_
  refine ev_ifb_eq (tgt := 41) dX6_setOperator_32 (by decide) (fun h32 => ?_) (fun h32 => ?_)
  · refine ev_iconst dX6_setOperator_41 (v := nI 0) (by decide) ?_
    refine ev_ior dX6_setOperator_42 ?_
    refine ev_iast (e := 130 + (10 * h + n)) dX6_setOperator_43 (by decide) sh_78 (by omega) (by decide) ?_
    exact ev_return dX6_setOperator_44 rfl (leafV hQ (by simp only [mso, ml1, h32, cond_true, cond_false]))
  · refine ev_iconst dX6_setOperator_35 (v := nI 1) (by decide) ?_
    refine ev_iload_n dX6_setOperator_36 rfl 4 rfl ?_
    refine ev_ishl dX6_setOperator_37 ?_
    refine ev_top (v := bt ch) rfl ?_
    refine ev_goto (tgt := 42) dX6_setOperator_38 (by decide) ?_
    refine ev_ior dX6_setOperator_42 ?_
    refine ev_iast (e := 130 + (10 * h + n)) dX6_setOperator_43 (by decide) sh_78 (by omega) (by decide) ?_
    exact ev_return dX6_setOperator_44 rfl (leafV hQ (by simp only [mso, ml1, h32, cond_true, cond_false]))

set_option maxRecDepth 100000 in
set_option maxHeartbeats 1000000 in
theorem c_X6_applyText {l : Launch} {σ : av_S} (s : Nat) (ch : Nat) (t : Nat → Nat) (g : Nat → Nat) (n : Nat) (c : Nat) (hs : s < 6) (hch : ch < 4) (hn : σ 77 4 = nI n) (hn4 : n ≤ 40) (ht : ∀ i, i < n → σ 80 i = nI (t i) ∧ t i < 256) (hg : ∀ k, k < n → dg (t k) = true → mhm (σ 78) c (mnet (σ 78) c s) (t k - 48) = some (g k)) (hcn : σ 78 0 = nI c) (hc1 : 1 ≤ c) (hc6 : c ≤ 6) : av_M l RX6 cX6_applyText 9 none 3 [.ref 77, .int (nI s), .int (nI ch)] σ none (av_set σ 78 (msc (atx t g ch n (σ 78 (214 + 4 * s + ch), true, σ 78)).2.2 c (mnet (σ 78) c s) ch ((atx t g ch n (σ 78 (214 + 4 * s + ch), true, σ 78)).2.2 (190 + 4 * s + ch)) (atx t g ch n (σ 78 (214 + 4 * s + ch), true, σ 78)).1)) := by
  intro Q hQ
  show av_Ev l RX6 cX6_applyText 9 none av_E0 3 0 [(0, .ref 77), (1, .int (nI s)), (2, .int (nI ch))] [] σ Q
  refine ev_aload_n dX6_applyText_0 rfl 0 rfl ?_
  refine ev_iload_n dX6_applyText_1 rfl 1 rfl ?_
  refine ev_callVi (x := mnet (σ 78) c s) dX6_applyText_2 M_X6_54 Y_X6_network [.int (nI s)] (c_X6_network s c (by omega) (by first | exact hcn | omega) (by first | exact hc1 | omega) (by first | exact hc6 | omega)) (by decide) (Nat.le_of_ble_eq_true rfl) (by decide) sh_77 rfl rfl rfl (Nat.le_of_ble_eq_true rfl) ?_
  refine ev_istore_n (lv' := [(3, .int (mnet (σ 78) c s)), (0, .ref 77), (1, .int (nI s)), (2, .int (nI ch))]) dX6_applyText_5 rfl (by decide) rfl ?_
  refine ev_aload_n dX6_applyText_6 rfl 1 rfl ?_
  refine ev_getR dX6_applyText_7 C_X6 L_X6_7 (by decide) (by decide) sh_77 rfl ?_
  refine ev_sipush dX6_applyText_10 (v := nI 214) (by decide) ?_
  refine ev_iconst dX6_applyText_13 (v := nI 4) (by decide) ?_
  refine ev_iload_n dX6_applyText_14 rfl 2 rfl ?_
  refine ev_imul dX6_applyText_15 ?_
  refine ev_top (v := nI (4 * s)) (pk_mul _ _) ?_
  refine ev_iadd dX6_applyText_16 ?_
  refine ev_top (v := nI (214 + (4 * s))) (nI_add _ _) ?_
  refine ev_iload_n dX6_applyText_17 rfl 3 rfl ?_
  refine ev_iadd dX6_applyText_18 ?_
  refine ev_top (v := nI (214 + (4 * s) + ch)) (nI_add _ _) ?_
  refine ev_iald (e := 214 + (4 * s) + ch) (v := σ 78 (214 + (4 * s) + ch)) dX6_applyText_19 (by decide) sh_78 (by omega) (by decide) rfl ?_
  refine ev_istore (lv' := [(4, .int (σ 78 (214 + (4 * s) + ch))), (3, .int (mnet (σ 78) c s)), (0, .ref 77), (1, .int (nI s)), (2, .int (nI ch))]) dX6_applyText_20 (by decide) rfl ?_
  refine ev_iconst dX6_applyText_22 (v := nI 1) (by decide) ?_
  refine ev_istore (lv' := [(5, .int (nI 1)), (4, .int (σ 78 (214 + (4 * s) + ch))), (3, .int (mnet (σ 78) c s)), (0, .ref 77), (1, .int (nI s)), (2, .int (nI ch))]) dX6_applyText_23 (by decide) rfl ?_
  refine ev_iconst dX6_applyText_25 (v := nI 0) (by decide) ?_
  refine ev_istore (lv' := [(6, .int (nI 0)), (5, .int (nI 1)), (4, .int (σ 78 (214 + (4 * s) + ch))), (3, .int (mnet (σ 78) c s)), (0, .ref 77), (1, .int (nI s)), (2, .int (nI ch))]) dX6_applyText_26 (by decide) rfl ?_
  refine ev_lv (lv' := [(0, .ref 77), (1, .int (nI s)), (2, .int (nI ch)), (3, .int (mnet (σ 78) c s)), (4, .int (σ 78 (214 + (4 * s) + ch))), (5, .int (nI 1)), (6, .int (nI 0))]) [4, 5, 6, 3, 2, 1, 0] rfl ?_
  refine ev_st (σ' := av_set σ 78 ((atx t g ch 0 (σ 78 (214 + 4 * s + ch), true, σ 78)).2.2)) (by exact (av_set_self _ _).symm) ?_
  refine loop_up (fun k => av_Ev l RX6 cX6_applyText 9 none av_E0 3 28 [(0, .ref 77), (1, .int (nI s)), (2, .int (nI ch)), (3, .int (mnet (σ 78) c s)), (4, .int ((atx t g ch k (σ 78 (214 + 4 * s + ch), true, σ 78)).1)), (5, .int (b2i ((atx t g ch k (σ 78 (214 + 4 * s + ch), true, σ 78)).2.1))), (6, .int (nI k))] [] (av_set σ 78 ((atx t g ch k (σ 78 (214 + 4 * s + ch), true, σ 78)).2.2)) Q) n ?_ ?_
  · show av_Ev l RX6 cX6_applyText 9 none av_E0 3 28 [(0, .ref 77), (1, .int (nI s)), (2, .int (nI ch)), (3, .int (mnet (σ 78) c s)), (4, .int ((atx t g ch n (σ 78 (214 + 4 * s + ch), true, σ 78)).1)), (5, .int (b2i ((atx t g ch n (σ 78 (214 + 4 * s + ch), true, σ 78)).2.1))), (6, .int (nI n))] [] (av_set σ 78 ((atx t g ch n (σ 78 (214 + 4 * s + ch), true, σ 78)).2.2)) Q
    refine ev_iload dX6_applyText_28 6 rfl ?_
    refine ev_aload_n dX6_applyText_30 rfl 0 rfl ?_
    refine ev_getI dX6_applyText_31 C_X6 L_X6_133 (by decide) (by decide) sh_77 rfl ?_
    refine ev_top (v := σ 77 4) (by first | rfl | (simp only [av_set, cpS]; (repeat' split) <;> first | rfl | (exfalso; omega))) ?_
    refine ev_top (v := nI n) hn ?_
    refine ev_ncmp_ge (tgt := 158) dX6_applyText_34 (by decide) (by omega) (by omega) (fun h34 => ?_) (fun h34 => ?_)
    · refine ev_aload_n dX6_applyText_158 rfl 0 rfl ?_
      refine ev_iload_n dX6_applyText_159 rfl 3 rfl ?_
      refine ev_iload_n dX6_applyText_160 rfl 2 rfl ?_
      refine ev_aload_n dX6_applyText_161 rfl 0 rfl ?_
      refine ev_getR dX6_applyText_162 C_X6 L_X6_7 (by decide) (by decide) sh_77 rfl ?_
      refine ev_sipush dX6_applyText_165 (v := nI 190) (by decide) ?_
      refine ev_iconst dX6_applyText_168 (v := nI 4) (by decide) ?_
      refine ev_iload_n dX6_applyText_169 rfl 1 rfl ?_
      refine ev_imul dX6_applyText_170 ?_
      refine ev_top (v := nI (4 * s)) (pk_mul _ _) ?_
      refine ev_iadd dX6_applyText_171 ?_
      refine ev_top (v := nI (190 + (4 * s))) (nI_add _ _) ?_
      refine ev_iload_n dX6_applyText_172 rfl 2 rfl ?_
      refine ev_iadd dX6_applyText_173 ?_
      refine ev_top (v := nI (190 + (4 * s) + ch)) (nI_add _ _) ?_
      refine ev_iald (e := 190 + (4 * s) + ch) (v := ((atx t g ch n (σ 78 (214 + 4 * s + ch), true, σ 78)).2.2) (190 + (4 * s) + ch)) dX6_applyText_174 (by decide) sh_78 (by omega) (by decide) (by first | rfl | (simp only [av_set, cpS]; (repeat' split) <;> first | rfl | (exfalso; omega))) ?_
      refine ev_iload dX6_applyText_175 4 rfl ?_
      refine ev_callVv dX6_applyText_177 M_X6_85 Y_X6_setChannel [.int (mnet (σ 78) c s), .int (nI ch), .int (((atx t g ch n (σ 78 (214 + 4 * s + ch), true, σ 78)).2.2) (190 + (4 * s) + ch)), .int ((atx t g ch n (σ 78 (214 + 4 * s + ch), true, σ 78)).1)] (c_X6_setChannel (mnet (σ 78) c s) ch (((atx t g ch n (σ 78 (214 + 4 * s + ch), true, σ 78)).2.2) (190 + (4 * s) + ch)) ((atx t g ch n (σ 78 (214 + 4 * s + ch), true, σ 78)).1) c (by omega) ((atx_lo n (by decide)).trans hcn) (by first | exact hc1 | omega) (by first | exact hc6 | omega)) (by decide) (Nat.le_of_ble_eq_true rfl) (by decide) sh_77 rfl rfl rfl (Nat.le_of_ble_eq_true rfl) ?_
      refine ev_st (σ' := av_set σ 78 (msc ((atx t g ch n (σ 78 (214 + 4 * s + ch), true, σ 78)).2.2) c (mnet (σ 78) c s) ch (((atx t g ch n (σ 78 (214 + 4 * s + ch), true, σ 78)).2.2) (190 + (4 * s) + ch)) ((atx t g ch n (σ 78 (214 + 4 * s + ch), true, σ 78)).1))) (by first | rfl | (funext a; by_cases q78 : a = 78; (next => subst q78; rfl); simp only [av_set, q78, if_false]) | exact av_set_set _ _ _ _ | (funext a; unfold av_set; (repeat' split) <;> first | rfl | (exfalso; omega)) | (funext a; simp only [av_set, cpS]; (repeat' split) <;> first | rfl | (exfalso; omega))) ?_
      exact ev_return dX6_applyText_180 rfl (leafV hQ rfl)
    · exact absurd h34 (by omega)
  · intro k hk ihk
    show av_Ev l RX6 cX6_applyText 9 none av_E0 3 28 [(0, .ref 77), (1, .int (nI s)), (2, .int (nI ch)), (3, .int (mnet (σ 78) c s)), (4, .int ((atx t g ch k (σ 78 (214 + 4 * s + ch), true, σ 78)).1)), (5, .int (b2i ((atx t g ch k (σ 78 (214 + 4 * s + ch), true, σ 78)).2.1))), (6, .int (nI k))] [] (av_set σ 78 ((atx t g ch k (σ 78 (214 + 4 * s + ch), true, σ 78)).2.2)) Q
    refine ev_iload dX6_applyText_28 6 rfl ?_
    refine ev_aload_n dX6_applyText_30 rfl 0 rfl ?_
    refine ev_getI dX6_applyText_31 C_X6 L_X6_133 (by decide) (by decide) sh_77 rfl ?_
    refine ev_top (v := σ 77 4) (by first | rfl | (simp only [av_set, cpS]; (repeat' split) <;> first | rfl | (exfalso; omega))) ?_
    refine ev_top (v := nI n) hn ?_
    refine ev_ncmp_ge (tgt := 158) dX6_applyText_34 (by decide) (by omega) (by omega) (fun h34 => ?_) (fun h34 => ?_)
    · exact absurd h34 (by omega)
    · refine ev_aload_n dX6_applyText_37 rfl 0 rfl ?_
      refine ev_getR dX6_applyText_38 C_X6 L_X6_16 (by decide) (by decide) sh_77 rfl ?_
      refine ev_iload dX6_applyText_41 6 rfl ?_
      refine ev_iald (e := k) (v := σ 80 k) dX6_applyText_43 (by decide) sh_80 (by omega) (by decide) (by first | rfl | (simp only [av_set, cpS]; (repeat' split) <;> first | rfl | (exfalso; omega))) ?_
      refine ev_top (v := nI (t k)) (ht k (by omega)).1 ?_
      refine ev_istore (lv' := [(7, .int (nI (t k))), (0, .ref 77), (1, .int (nI s)), (2, .int (nI ch)), (3, .int (mnet (σ 78) c s)), (4, .int ((atx t g ch k (σ 78 (214 + 4 * s + ch), true, σ 78)).1)), (5, .int (b2i ((atx t g ch k (σ 78 (214 + 4 * s + ch), true, σ 78)).2.1))), (6, .int (nI k))]) dX6_applyText_44 (by decide) rfl ?_
      have ht9 := (ht k (by omega)).2
      refine ev_iload dX6_applyText_46 0 rfl ?_
      refine ev_callSi (x := oJ (ix (t k))) dX6_applyText_48 (Or.inl M_X6_142) Y_X6_modeOf [.int (nI (t k))] (c_X6_modeOf (t k) (by omega)) (by decide) (Nat.le_of_ble_eq_true rfl) rfl rfl (Nat.le_of_ble_eq_true rfl) ?_
      rcases ho48 : ix (t k) with _ | u48
      · refine ev_top (v := (-9)) rfl ?_
        refine ev_istore (lv' := [(8, .int (-9)), (7, .int (nI (t k))), (0, .ref 77), (1, .int (nI s)), (2, .int (nI ch)), (3, .int (mnet (σ 78) c s)), (4, .int ((atx t g ch k (σ 78 (214 + 4 * s + ch), true, σ 78)).1)), (5, .int (b2i ((atx t g ch k (σ 78 (214 + 4 * s + ch), true, σ 78)).2.1))), (6, .int (nI k))]) dX6_applyText_51 (by decide) rfl ?_
        refine ev_iload dX6_applyText_53 1 rfl ?_
        refine ev_callSi (x := b2i (sg (t k))) dX6_applyText_55 (Or.inl M_X6_139) Y_X6_isSign [.int (nI (t k))] (c_X6_isSign (t k) (by omega)) (by decide) (Nat.le_of_ble_eq_true rfl) rfl rfl (Nat.le_of_ble_eq_true rfl) ?_
        refine ev_ifb_eq (tgt := 76) dX6_applyText_58 (by decide) (fun h58 => ?_) (fun h58 => ?_)
        · refine ev_iload dX6_applyText_76 7 rfl ?_
          refine ev_istore (lv' := [(5, .int (b2i ((atx t g ch k (σ 78 (214 + 4 * s + ch), true, σ 78)).2.1))), (8, .int (-9)), (7, .int (nI (t k))), (0, .ref 77), (1, .int (nI s)), (2, .int (nI ch)), (3, .int (mnet (σ 78) c s)), (4, .int ((atx t g ch k (σ 78 (214 + 4 * s + ch), true, σ 78)).1)), (6, .int (nI k))]) dX6_applyText_78 (by decide) rfl ?_
          refine ev_iload dX6_applyText_80 1 rfl ?_
          refine ev_bipush dX6_applyText_82 (v := (-9)) (by decide) ?_
          refine ev_icmp_ne (tgt := 92) dX6_applyText_84 (by decide) (fun h84 => ?_) (fun h84 => ?_)
          · exact absurd rfl h84
          · refine ev_iload dX6_applyText_87 7 rfl ?_
            refine ev_goto (tgt := 116) dX6_applyText_89 (by decide) ?_
            refine ev_istore (lv' := [(4, .int ((atx t g ch k (σ 78 (214 + 4 * s + ch), true, σ 78)).1)), (5, .int (b2i ((atx t g ch k (σ 78 (214 + 4 * s + ch), true, σ 78)).2.1))), (8, .int (-9)), (7, .int (nI (t k))), (0, .ref 77), (1, .int (nI s)), (2, .int (nI ch)), (3, .int (mnet (σ 78) c s)), (6, .int (nI k))]) dX6_applyText_116 (by decide) rfl ?_
            refine ev_iload dX6_applyText_118 3 rfl ?_
            refine ev_bipush dX6_applyText_120 (v := nI 48) (by decide) ?_
            refine ev_bipush dX6_applyText_122 (v := nI 57) (by decide) ?_
            refine ev_callSi (x := b2i (inb (nI (t k)) (nI 48) (nI 57))) dX6_applyText_124 (Or.inl M_X6_42) Y_X6_in [.int (nI (t k)), .int (nI 48), .int (nI 57)] (c_X6_in (nI (t k)) (nI 48) (nI 57) ) (by decide) (Nat.le_of_ble_eq_true rfl) rfl rfl (Nat.le_of_ble_eq_true rfl) ?_
            refine ev_top (v := b2i (dg (t k))) (congrArg b2i (inb_dg (by omega))) ?_
            refine ev_ifb_eq (tgt := 152) dX6_applyText_127 (by decide) (fun h127 => ?_) (fun h127 => ?_)
            · refine ev_iinc (lv' := [(6, .int (nI (k + 1))), (4, .int ((atx t g ch k (σ 78 (214 + 4 * s + ch), true, σ 78)).1)), (5, .int (b2i ((atx t g ch k (σ 78 (214 + 4 * s + ch), true, σ 78)).2.1))), (8, .int (-9)), (7, .int (nI (t k))), (0, .ref 77), (1, .int (nI s)), (2, .int (nI ch)), (3, .int (mnet (σ 78) c s))]) dX6_applyText_152 8 rfl (nI_inc k) (by decide) rfl ?_
              refine ev_goto (tgt := 28) dX6_applyText_155 (by decide) ?_
              refine ev_lv (lv' := [(0, .ref 77), (1, .int (nI s)), (2, .int (nI ch)), (3, .int (mnet (σ 78) c s)), (4, .int ((atx t g ch k (σ 78 (214 + 4 * s + ch), true, σ 78)).1)), (5, .int (b2i ((atx t g ch k (σ 78 (214 + 4 * s + ch), true, σ 78)).2.1))), (6, .int (nI (k + 1)))]) [5, 6, 7, 8, 1, 2, 0] rfl ?_
              have ih9 : av_Ev l RX6 cX6_applyText 9 none av_E0 3 28 [(0, .ref 77), (1, .int (nI s)), (2, .int (nI ch)), (3, .int (mnet (σ 78) c s)), (4, .int ((atx t g ch (k + 1) (σ 78 (214 + 4 * s + ch), true, σ 78)).1)), (5, .int (b2i ((atx t g ch (k + 1) (σ 78 (214 + 4 * s + ch), true, σ 78)).2.1))), (6, .int (nI (k + 1)))] [] (av_set σ 78 ((atx t g ch (k + 1) (σ 78 (214 + 4 * s + ch), true, σ 78)).2.2)) Q := ihk
              rw [show (atx t g ch (k + 1) (σ 78 (214 + 4 * s + ch), true, σ 78)).1 = (atx t g ch k (σ 78 (214 + 4 * s + ch), true, σ 78)).1 from (by show  (atF (g k) ch (t k) (atx t g ch k (σ 78 (214 + 4 * s + ch), true, σ 78))).1 = _; unfold atF; dsimp only; (simp only [h58, ho48, h127, cond_true, cond_false] <;> first | rfl | (simp only [h94, cond_true, cond_false]; done) | (simp [b2i, h65]; done) | (simp [b2i, h65, h94]; done)))] at ih9
              rw [show b2i ((atx t g ch (k + 1) (σ 78 (214 + 4 * s + ch), true, σ 78)).2.1) = b2i ((atx t g ch k (σ 78 (214 + 4 * s + ch), true, σ 78)).2.1) from (by show b2i (atF (g k) ch (t k) (atx t g ch k (σ 78 (214 + 4 * s + ch), true, σ 78))).2.1 = _; unfold atF; dsimp only; (simp only [h58, ho48, h127, cond_true, cond_false] <;> first | rfl | (simp only [h94, cond_true, cond_false]; done) | (simp [b2i, h65]; done) | (simp [b2i, h65, h94]; done)))] at ih9
              rw [show av_set σ 78 ((atx t g ch (k + 1) (σ 78 (214 + 4 * s + ch), true, σ 78)).2.2) = av_set σ 78 ((atx t g ch k (σ 78 (214 + 4 * s + ch), true, σ 78)).2.2) from (by show av_set σ 78 (atF (g k) ch (t k) (atx t g ch k (σ 78 (214 + 4 * s + ch), true, σ 78))).2.2 = _; unfold atF; dsimp only; (simp only [h58, ho48, h127, cond_true, cond_false] <;> first | rfl | (simp only [h94, cond_true, cond_false]; done) | (simp [b2i, h65]; done) | (simp [b2i, h65, h94]; done)))] at ih9
              exact ih9
            · have hd9 := dg_ge h127
              have hg9 := hg k (by omega) h127
              have hg6 := mhm_lt hg9
              refine ev_aload_n dX6_applyText_130 rfl 4 rfl ?_
              refine ev_aload_n dX6_applyText_131 rfl 4 rfl ?_
              refine ev_iload_n dX6_applyText_132 rfl 7 rfl ?_
              refine ev_iload dX6_applyText_133 3 rfl ?_
              refine ev_bipush dX6_applyText_135 (v := nI 48) (by decide) ?_
              refine ev_isub dX6_applyText_137 ?_
              refine ev_top (v := nI (t k - 48)) (pk_sub (by omega)) ?_
              refine ev_callVi (x := oJ (mhm ((atx t g ch k (σ 78 (214 + 4 * s + ch), true, σ 78)).2.2) c (mnet (σ 78) c s) (t k - 48))) dX6_applyText_138 M_X6_72 Y_X6_homeIn [.int (mnet (σ 78) c s), .int (nI (t k - 48))] (c_X6_homeIn (mnet (σ 78) c s) (t k - 48) c (by omega) ((atx_lo k (by decide)).trans hcn) (by first | exact hc1 | omega) (by first | exact hc6 | omega)) (by decide) (Nat.le_of_ble_eq_true rfl) (by decide) sh_77 rfl rfl rfl (Nat.le_of_ble_eq_true rfl) ?_
              refine ev_top (v := nI (g k)) (by rw [mhm_of (M := σ 78) (fun i hi => atx_lo k hi) (by omega) hc6, hg9]; rfl) ?_
              refine ev_iload dX6_applyText_141 3 rfl ?_
              refine ev_bipush dX6_applyText_143 (v := nI 48) (by decide) ?_
              refine ev_isub dX6_applyText_145 ?_
              refine ev_top (v := nI (t k - 48)) (pk_sub (by omega)) ?_
              refine ev_iload_n dX6_applyText_146 rfl 6 rfl ?_
              refine ev_iload dX6_applyText_147 1 rfl ?_
              refine ev_callVv dX6_applyText_149 M_X6_145 Y_X6_setOperator [.int (nI (g k)), .int (nI (t k - 48)), .int (nI ch), .int (b2i ((atx t g ch k (σ 78 (214 + 4 * s + ch), true, σ 78)).2.1))] (c_X6_setOperator (g k) (t k - 48) ch ((atx t g ch k (σ 78 (214 + 4 * s + ch), true, σ 78)).2.1) (by omega) (by omega) (by omega)) (by decide) (Nat.le_of_ble_eq_true rfl) (by decide) sh_77 rfl rfl rfl (Nat.le_of_ble_eq_true rfl) ?_
              refine ev_st (σ' := av_set σ 78 (mso ((atx t g ch k (σ 78 (214 + 4 * s + ch), true, σ 78)).2.2) (g k) (t k - 48) ch ((atx t g ch k (σ 78 (214 + 4 * s + ch), true, σ 78)).2.1))) (by first | rfl | (funext a; by_cases q78 : a = 78; (next => subst q78; rfl); simp only [av_set, q78, if_false]) | exact av_set_set _ _ _ _ | (funext a; unfold av_set; (repeat' split) <;> first | rfl | (exfalso; omega)) | (funext a; simp only [av_set, cpS]; (repeat' split) <;> first | rfl | (exfalso; omega))) ?_
              refine ev_iinc (lv' := [(6, .int (nI (k + 1))), (4, .int ((atx t g ch k (σ 78 (214 + 4 * s + ch), true, σ 78)).1)), (5, .int (b2i ((atx t g ch k (σ 78 (214 + 4 * s + ch), true, σ 78)).2.1))), (8, .int (-9)), (7, .int (nI (t k))), (0, .ref 77), (1, .int (nI s)), (2, .int (nI ch)), (3, .int (mnet (σ 78) c s))]) dX6_applyText_152 8 rfl (nI_inc k) (by decide) rfl ?_
              refine ev_goto (tgt := 28) dX6_applyText_155 (by decide) ?_
              refine ev_lv (lv' := [(0, .ref 77), (1, .int (nI s)), (2, .int (nI ch)), (3, .int (mnet (σ 78) c s)), (4, .int ((atx t g ch k (σ 78 (214 + 4 * s + ch), true, σ 78)).1)), (5, .int (b2i ((atx t g ch k (σ 78 (214 + 4 * s + ch), true, σ 78)).2.1))), (6, .int (nI (k + 1)))]) [5, 6, 7, 8, 1, 2, 0] rfl ?_
              have ih9 : av_Ev l RX6 cX6_applyText 9 none av_E0 3 28 [(0, .ref 77), (1, .int (nI s)), (2, .int (nI ch)), (3, .int (mnet (σ 78) c s)), (4, .int ((atx t g ch (k + 1) (σ 78 (214 + 4 * s + ch), true, σ 78)).1)), (5, .int (b2i ((atx t g ch (k + 1) (σ 78 (214 + 4 * s + ch), true, σ 78)).2.1))), (6, .int (nI (k + 1)))] [] (av_set σ 78 ((atx t g ch (k + 1) (σ 78 (214 + 4 * s + ch), true, σ 78)).2.2)) Q := ihk
              rw [show (atx t g ch (k + 1) (σ 78 (214 + 4 * s + ch), true, σ 78)).1 = (atx t g ch k (σ 78 (214 + 4 * s + ch), true, σ 78)).1 from (by show  (atF (g k) ch (t k) (atx t g ch k (σ 78 (214 + 4 * s + ch), true, σ 78))).1 = _; unfold atF; dsimp only; (simp only [h58, ho48, h127, cond_true, cond_false] <;> first | rfl | (simp only [h94, cond_true, cond_false]; done) | (simp [b2i, h65]; done) | (simp [b2i, h65, h94]; done)))] at ih9
              rw [show b2i ((atx t g ch (k + 1) (σ 78 (214 + 4 * s + ch), true, σ 78)).2.1) = b2i ((atx t g ch k (σ 78 (214 + 4 * s + ch), true, σ 78)).2.1) from (by show b2i (atF (g k) ch (t k) (atx t g ch k (σ 78 (214 + 4 * s + ch), true, σ 78))).2.1 = _; unfold atF; dsimp only; (simp only [h58, ho48, h127, cond_true, cond_false] <;> first | rfl | (simp only [h94, cond_true, cond_false]; done) | (simp [b2i, h65]; done) | (simp [b2i, h65, h94]; done)))] at ih9
              rw [show av_set σ 78 ((atx t g ch (k + 1) (σ 78 (214 + 4 * s + ch), true, σ 78)).2.2) = av_set σ 78 (mso ((atx t g ch k (σ 78 (214 + 4 * s + ch), true, σ 78)).2.2) (g k) (t k - 48) ch ((atx t g ch k (σ 78 (214 + 4 * s + ch), true, σ 78)).2.1)) from (by show av_set σ 78 (atF (g k) ch (t k) (atx t g ch k (σ 78 (214 + 4 * s + ch), true, σ 78))).2.2 = _; unfold atF; dsimp only; (simp only [h58, ho48, h127, cond_true, cond_false] <;> first | rfl | (simp only [h94, cond_true, cond_false]; done) | (simp [b2i, h65]; done) | (simp [b2i, h65, h94]; done)))] at ih9
              exact ih9
        · refine ev_iload dX6_applyText_61 1 rfl ?_
          refine ev_bipush dX6_applyText_63 (v := nI 43) (by decide) ?_
          refine ev_ncmp_ne (tgt := 72) dX6_applyText_65 (by decide) (by omega) (by omega) (fun h65 => ?_) (fun h65 => ?_)
          · refine ev_iconst dX6_applyText_72 (v := nI 0) (by decide) ?_
            refine ev_goto (tgt := 78) dX6_applyText_73 (by decide) ?_
            refine ev_istore (lv' := [(5, .int (nI 0)), (8, .int (-9)), (7, .int (nI (t k))), (0, .ref 77), (1, .int (nI s)), (2, .int (nI ch)), (3, .int (mnet (σ 78) c s)), (4, .int ((atx t g ch k (σ 78 (214 + 4 * s + ch), true, σ 78)).1)), (6, .int (nI k))]) dX6_applyText_78 (by decide) rfl ?_
            refine ev_iload dX6_applyText_80 1 rfl ?_
            refine ev_bipush dX6_applyText_82 (v := (-9)) (by decide) ?_
            refine ev_icmp_ne (tgt := 92) dX6_applyText_84 (by decide) (fun h84 => ?_) (fun h84 => ?_)
            · exact absurd rfl h84
            · refine ev_iload dX6_applyText_87 7 rfl ?_
              refine ev_goto (tgt := 116) dX6_applyText_89 (by decide) ?_
              refine ev_istore (lv' := [(4, .int ((atx t g ch k (σ 78 (214 + 4 * s + ch), true, σ 78)).1)), (5, .int (nI 0)), (8, .int (-9)), (7, .int (nI (t k))), (0, .ref 77), (1, .int (nI s)), (2, .int (nI ch)), (3, .int (mnet (σ 78) c s)), (6, .int (nI k))]) dX6_applyText_116 (by decide) rfl ?_
              refine ev_iload dX6_applyText_118 3 rfl ?_
              refine ev_bipush dX6_applyText_120 (v := nI 48) (by decide) ?_
              refine ev_bipush dX6_applyText_122 (v := nI 57) (by decide) ?_
              refine ev_callSi (x := b2i (inb (nI (t k)) (nI 48) (nI 57))) dX6_applyText_124 (Or.inl M_X6_42) Y_X6_in [.int (nI (t k)), .int (nI 48), .int (nI 57)] (c_X6_in (nI (t k)) (nI 48) (nI 57) ) (by decide) (Nat.le_of_ble_eq_true rfl) rfl rfl (Nat.le_of_ble_eq_true rfl) ?_
              refine ev_top (v := b2i (dg (t k))) (congrArg b2i (inb_dg (by omega))) ?_
              refine ev_ifb_eq (tgt := 152) dX6_applyText_127 (by decide) (fun h127 => ?_) (fun h127 => ?_)
              · refine ev_iinc (lv' := [(6, .int (nI (k + 1))), (4, .int ((atx t g ch k (σ 78 (214 + 4 * s + ch), true, σ 78)).1)), (5, .int (nI 0)), (8, .int (-9)), (7, .int (nI (t k))), (0, .ref 77), (1, .int (nI s)), (2, .int (nI ch)), (3, .int (mnet (σ 78) c s))]) dX6_applyText_152 8 rfl (nI_inc k) (by decide) rfl ?_
                refine ev_goto (tgt := 28) dX6_applyText_155 (by decide) ?_
                refine ev_lv (lv' := [(0, .ref 77), (1, .int (nI s)), (2, .int (nI ch)), (3, .int (mnet (σ 78) c s)), (4, .int ((atx t g ch k (σ 78 (214 + 4 * s + ch), true, σ 78)).1)), (5, .int (nI 0)), (6, .int (nI (k + 1)))]) [5, 6, 7, 8, 1, 2, 0] rfl ?_
                have ih9 : av_Ev l RX6 cX6_applyText 9 none av_E0 3 28 [(0, .ref 77), (1, .int (nI s)), (2, .int (nI ch)), (3, .int (mnet (σ 78) c s)), (4, .int ((atx t g ch (k + 1) (σ 78 (214 + 4 * s + ch), true, σ 78)).1)), (5, .int (b2i ((atx t g ch (k + 1) (σ 78 (214 + 4 * s + ch), true, σ 78)).2.1))), (6, .int (nI (k + 1)))] [] (av_set σ 78 ((atx t g ch (k + 1) (σ 78 (214 + 4 * s + ch), true, σ 78)).2.2)) Q := ihk
                rw [show (atx t g ch (k + 1) (σ 78 (214 + 4 * s + ch), true, σ 78)).1 = (atx t g ch k (σ 78 (214 + 4 * s + ch), true, σ 78)).1 from (by show  (atF (g k) ch (t k) (atx t g ch k (σ 78 (214 + 4 * s + ch), true, σ 78))).1 = _; unfold atF; dsimp only; (simp only [h58, ho48, h127, cond_true, cond_false] <;> first | rfl | (simp only [h94, cond_true, cond_false]; done) | (simp [b2i, h65]; done) | (simp [b2i, h65, h94]; done)))] at ih9
                rw [show b2i ((atx t g ch (k + 1) (σ 78 (214 + 4 * s + ch), true, σ 78)).2.1) = nI 0 from (by show b2i (atF (g k) ch (t k) (atx t g ch k (σ 78 (214 + 4 * s + ch), true, σ 78))).2.1 = _; unfold atF; dsimp only; (simp only [h58, ho48, h127, cond_true, cond_false] <;> first | rfl | (simp only [h94, cond_true, cond_false]; done) | (simp [b2i, h65]; done) | (simp [b2i, h65, h94]; done)))] at ih9
                rw [show av_set σ 78 ((atx t g ch (k + 1) (σ 78 (214 + 4 * s + ch), true, σ 78)).2.2) = av_set σ 78 ((atx t g ch k (σ 78 (214 + 4 * s + ch), true, σ 78)).2.2) from (by show av_set σ 78 (atF (g k) ch (t k) (atx t g ch k (σ 78 (214 + 4 * s + ch), true, σ 78))).2.2 = _; unfold atF; dsimp only; (simp only [h58, ho48, h127, cond_true, cond_false] <;> first | rfl | (simp only [h94, cond_true, cond_false]; done) | (simp [b2i, h65]; done) | (simp [b2i, h65, h94]; done)))] at ih9
                exact ih9
              · have hd9 := dg_ge h127
                have hg9 := hg k (by omega) h127
                have hg6 := mhm_lt hg9
                refine ev_aload_n dX6_applyText_130 rfl 4 rfl ?_
                refine ev_aload_n dX6_applyText_131 rfl 4 rfl ?_
                refine ev_iload_n dX6_applyText_132 rfl 7 rfl ?_
                refine ev_iload dX6_applyText_133 3 rfl ?_
                refine ev_bipush dX6_applyText_135 (v := nI 48) (by decide) ?_
                refine ev_isub dX6_applyText_137 ?_
                refine ev_top (v := nI (t k - 48)) (pk_sub (by omega)) ?_
                refine ev_callVi (x := oJ (mhm ((atx t g ch k (σ 78 (214 + 4 * s + ch), true, σ 78)).2.2) c (mnet (σ 78) c s) (t k - 48))) dX6_applyText_138 M_X6_72 Y_X6_homeIn [.int (mnet (σ 78) c s), .int (nI (t k - 48))] (c_X6_homeIn (mnet (σ 78) c s) (t k - 48) c (by omega) ((atx_lo k (by decide)).trans hcn) (by first | exact hc1 | omega) (by first | exact hc6 | omega)) (by decide) (Nat.le_of_ble_eq_true rfl) (by decide) sh_77 rfl rfl rfl (Nat.le_of_ble_eq_true rfl) ?_
                refine ev_top (v := nI (g k)) (by rw [mhm_of (M := σ 78) (fun i hi => atx_lo k hi) (by omega) hc6, hg9]; rfl) ?_
                refine ev_iload dX6_applyText_141 3 rfl ?_
                refine ev_bipush dX6_applyText_143 (v := nI 48) (by decide) ?_
                refine ev_isub dX6_applyText_145 ?_
                refine ev_top (v := nI (t k - 48)) (pk_sub (by omega)) ?_
                refine ev_iload_n dX6_applyText_146 rfl 6 rfl ?_
                refine ev_iload dX6_applyText_147 1 rfl ?_
                refine ev_callVv dX6_applyText_149 M_X6_145 Y_X6_setOperator [.int (nI (g k)), .int (nI (t k - 48)), .int (nI ch), .int (b2i false)] (c_X6_setOperator (g k) (t k - 48) ch false (by omega) (by omega) (by omega)) (by decide) (Nat.le_of_ble_eq_true rfl) (by decide) sh_77 rfl rfl rfl (Nat.le_of_ble_eq_true rfl) ?_
                refine ev_st (σ' := av_set σ 78 (mso ((atx t g ch k (σ 78 (214 + 4 * s + ch), true, σ 78)).2.2) (g k) (t k - 48) ch false)) (by first | rfl | (funext a; by_cases q78 : a = 78; (next => subst q78; rfl); simp only [av_set, q78, if_false]) | exact av_set_set _ _ _ _ | (funext a; unfold av_set; (repeat' split) <;> first | rfl | (exfalso; omega)) | (funext a; simp only [av_set, cpS]; (repeat' split) <;> first | rfl | (exfalso; omega))) ?_
                refine ev_iinc (lv' := [(6, .int (nI (k + 1))), (4, .int ((atx t g ch k (σ 78 (214 + 4 * s + ch), true, σ 78)).1)), (5, .int (nI 0)), (8, .int (-9)), (7, .int (nI (t k))), (0, .ref 77), (1, .int (nI s)), (2, .int (nI ch)), (3, .int (mnet (σ 78) c s))]) dX6_applyText_152 8 rfl (nI_inc k) (by decide) rfl ?_
                refine ev_goto (tgt := 28) dX6_applyText_155 (by decide) ?_
                refine ev_lv (lv' := [(0, .ref 77), (1, .int (nI s)), (2, .int (nI ch)), (3, .int (mnet (σ 78) c s)), (4, .int ((atx t g ch k (σ 78 (214 + 4 * s + ch), true, σ 78)).1)), (5, .int (nI 0)), (6, .int (nI (k + 1)))]) [5, 6, 7, 8, 1, 2, 0] rfl ?_
                have ih9 : av_Ev l RX6 cX6_applyText 9 none av_E0 3 28 [(0, .ref 77), (1, .int (nI s)), (2, .int (nI ch)), (3, .int (mnet (σ 78) c s)), (4, .int ((atx t g ch (k + 1) (σ 78 (214 + 4 * s + ch), true, σ 78)).1)), (5, .int (b2i ((atx t g ch (k + 1) (σ 78 (214 + 4 * s + ch), true, σ 78)).2.1))), (6, .int (nI (k + 1)))] [] (av_set σ 78 ((atx t g ch (k + 1) (σ 78 (214 + 4 * s + ch), true, σ 78)).2.2)) Q := ihk
                rw [show (atx t g ch (k + 1) (σ 78 (214 + 4 * s + ch), true, σ 78)).1 = (atx t g ch k (σ 78 (214 + 4 * s + ch), true, σ 78)).1 from (by show  (atF (g k) ch (t k) (atx t g ch k (σ 78 (214 + 4 * s + ch), true, σ 78))).1 = _; unfold atF; dsimp only; (simp only [h58, ho48, h127, cond_true, cond_false] <;> first | rfl | (simp only [h94, cond_true, cond_false]; done) | (simp [b2i, h65]; done) | (simp [b2i, h65, h94]; done)))] at ih9
                rw [show b2i ((atx t g ch (k + 1) (σ 78 (214 + 4 * s + ch), true, σ 78)).2.1) = nI 0 from (by show b2i (atF (g k) ch (t k) (atx t g ch k (σ 78 (214 + 4 * s + ch), true, σ 78))).2.1 = _; unfold atF; dsimp only; (simp only [h58, ho48, h127, cond_true, cond_false] <;> first | rfl | (simp only [h94, cond_true, cond_false]; done) | (simp [b2i, h65]; done) | (simp [b2i, h65, h94]; done)))] at ih9
                rw [show av_set σ 78 ((atx t g ch (k + 1) (σ 78 (214 + 4 * s + ch), true, σ 78)).2.2) = av_set σ 78 (mso ((atx t g ch k (σ 78 (214 + 4 * s + ch), true, σ 78)).2.2) (g k) (t k - 48) ch false) from (by show av_set σ 78 (atF (g k) ch (t k) (atx t g ch k (σ 78 (214 + 4 * s + ch), true, σ 78))).2.2 = _; unfold atF; dsimp only; (simp only [h58, ho48, h127, cond_true, cond_false] <;> first | rfl | (simp only [h94, cond_true, cond_false]; done) | (simp [b2i, h65]; done) | (simp [b2i, h65, h94]; done)))] at ih9
                exact ih9
          · refine ev_iconst dX6_applyText_68 (v := nI 1) (by decide) ?_
            refine ev_goto (tgt := 78) dX6_applyText_69 (by decide) ?_
            refine ev_istore (lv' := [(5, .int (nI 1)), (8, .int (-9)), (7, .int (nI (t k))), (0, .ref 77), (1, .int (nI s)), (2, .int (nI ch)), (3, .int (mnet (σ 78) c s)), (4, .int ((atx t g ch k (σ 78 (214 + 4 * s + ch), true, σ 78)).1)), (6, .int (nI k))]) dX6_applyText_78 (by decide) rfl ?_
            refine ev_iload dX6_applyText_80 1 rfl ?_
            refine ev_bipush dX6_applyText_82 (v := (-9)) (by decide) ?_
            refine ev_icmp_ne (tgt := 92) dX6_applyText_84 (by decide) (fun h84 => ?_) (fun h84 => ?_)
            · exact absurd rfl h84
            · refine ev_iload dX6_applyText_87 7 rfl ?_
              refine ev_goto (tgt := 116) dX6_applyText_89 (by decide) ?_
              refine ev_istore (lv' := [(4, .int ((atx t g ch k (σ 78 (214 + 4 * s + ch), true, σ 78)).1)), (5, .int (nI 1)), (8, .int (-9)), (7, .int (nI (t k))), (0, .ref 77), (1, .int (nI s)), (2, .int (nI ch)), (3, .int (mnet (σ 78) c s)), (6, .int (nI k))]) dX6_applyText_116 (by decide) rfl ?_
              refine ev_iload dX6_applyText_118 3 rfl ?_
              refine ev_bipush dX6_applyText_120 (v := nI 48) (by decide) ?_
              refine ev_bipush dX6_applyText_122 (v := nI 57) (by decide) ?_
              refine ev_callSi (x := b2i (inb (nI (t k)) (nI 48) (nI 57))) dX6_applyText_124 (Or.inl M_X6_42) Y_X6_in [.int (nI (t k)), .int (nI 48), .int (nI 57)] (c_X6_in (nI (t k)) (nI 48) (nI 57) ) (by decide) (Nat.le_of_ble_eq_true rfl) rfl rfl (Nat.le_of_ble_eq_true rfl) ?_
              refine ev_top (v := b2i (dg (t k))) (congrArg b2i (inb_dg (by omega))) ?_
              refine ev_ifb_eq (tgt := 152) dX6_applyText_127 (by decide) (fun h127 => ?_) (fun h127 => ?_)
              · refine ev_iinc (lv' := [(6, .int (nI (k + 1))), (4, .int ((atx t g ch k (σ 78 (214 + 4 * s + ch), true, σ 78)).1)), (5, .int (nI 1)), (8, .int (-9)), (7, .int (nI (t k))), (0, .ref 77), (1, .int (nI s)), (2, .int (nI ch)), (3, .int (mnet (σ 78) c s))]) dX6_applyText_152 8 rfl (nI_inc k) (by decide) rfl ?_
                refine ev_goto (tgt := 28) dX6_applyText_155 (by decide) ?_
                refine ev_lv (lv' := [(0, .ref 77), (1, .int (nI s)), (2, .int (nI ch)), (3, .int (mnet (σ 78) c s)), (4, .int ((atx t g ch k (σ 78 (214 + 4 * s + ch), true, σ 78)).1)), (5, .int (nI 1)), (6, .int (nI (k + 1)))]) [5, 6, 7, 8, 1, 2, 0] rfl ?_
                have ih9 : av_Ev l RX6 cX6_applyText 9 none av_E0 3 28 [(0, .ref 77), (1, .int (nI s)), (2, .int (nI ch)), (3, .int (mnet (σ 78) c s)), (4, .int ((atx t g ch (k + 1) (σ 78 (214 + 4 * s + ch), true, σ 78)).1)), (5, .int (b2i ((atx t g ch (k + 1) (σ 78 (214 + 4 * s + ch), true, σ 78)).2.1))), (6, .int (nI (k + 1)))] [] (av_set σ 78 ((atx t g ch (k + 1) (σ 78 (214 + 4 * s + ch), true, σ 78)).2.2)) Q := ihk
                rw [show (atx t g ch (k + 1) (σ 78 (214 + 4 * s + ch), true, σ 78)).1 = (atx t g ch k (σ 78 (214 + 4 * s + ch), true, σ 78)).1 from (by show  (atF (g k) ch (t k) (atx t g ch k (σ 78 (214 + 4 * s + ch), true, σ 78))).1 = _; unfold atF; dsimp only; (simp only [h58, ho48, h127, cond_true, cond_false] <;> first | rfl | (simp only [h94, cond_true, cond_false]; done) | (simp [b2i, h65]; done) | (simp [b2i, h65, h94]; done)))] at ih9
                rw [show b2i ((atx t g ch (k + 1) (σ 78 (214 + 4 * s + ch), true, σ 78)).2.1) = nI 1 from (by show b2i (atF (g k) ch (t k) (atx t g ch k (σ 78 (214 + 4 * s + ch), true, σ 78))).2.1 = _; unfold atF; dsimp only; (simp only [h58, ho48, h127, cond_true, cond_false] <;> first | rfl | (simp only [h94, cond_true, cond_false]; done) | (simp [b2i, h65]; done) | (simp [b2i, h65, h94]; done)))] at ih9
                rw [show av_set σ 78 ((atx t g ch (k + 1) (σ 78 (214 + 4 * s + ch), true, σ 78)).2.2) = av_set σ 78 ((atx t g ch k (σ 78 (214 + 4 * s + ch), true, σ 78)).2.2) from (by show av_set σ 78 (atF (g k) ch (t k) (atx t g ch k (σ 78 (214 + 4 * s + ch), true, σ 78))).2.2 = _; unfold atF; dsimp only; (simp only [h58, ho48, h127, cond_true, cond_false] <;> first | rfl | (simp only [h94, cond_true, cond_false]; done) | (simp [b2i, h65]; done) | (simp [b2i, h65, h94]; done)))] at ih9
                exact ih9
              · have hd9 := dg_ge h127
                have hg9 := hg k (by omega) h127
                have hg6 := mhm_lt hg9
                refine ev_aload_n dX6_applyText_130 rfl 4 rfl ?_
                refine ev_aload_n dX6_applyText_131 rfl 4 rfl ?_
                refine ev_iload_n dX6_applyText_132 rfl 7 rfl ?_
                refine ev_iload dX6_applyText_133 3 rfl ?_
                refine ev_bipush dX6_applyText_135 (v := nI 48) (by decide) ?_
                refine ev_isub dX6_applyText_137 ?_
                refine ev_top (v := nI (t k - 48)) (pk_sub (by omega)) ?_
                refine ev_callVi (x := oJ (mhm ((atx t g ch k (σ 78 (214 + 4 * s + ch), true, σ 78)).2.2) c (mnet (σ 78) c s) (t k - 48))) dX6_applyText_138 M_X6_72 Y_X6_homeIn [.int (mnet (σ 78) c s), .int (nI (t k - 48))] (c_X6_homeIn (mnet (σ 78) c s) (t k - 48) c (by omega) ((atx_lo k (by decide)).trans hcn) (by first | exact hc1 | omega) (by first | exact hc6 | omega)) (by decide) (Nat.le_of_ble_eq_true rfl) (by decide) sh_77 rfl rfl rfl (Nat.le_of_ble_eq_true rfl) ?_
                refine ev_top (v := nI (g k)) (by rw [mhm_of (M := σ 78) (fun i hi => atx_lo k hi) (by omega) hc6, hg9]; rfl) ?_
                refine ev_iload dX6_applyText_141 3 rfl ?_
                refine ev_bipush dX6_applyText_143 (v := nI 48) (by decide) ?_
                refine ev_isub dX6_applyText_145 ?_
                refine ev_top (v := nI (t k - 48)) (pk_sub (by omega)) ?_
                refine ev_iload_n dX6_applyText_146 rfl 6 rfl ?_
                refine ev_iload dX6_applyText_147 1 rfl ?_
                refine ev_callVv dX6_applyText_149 M_X6_145 Y_X6_setOperator [.int (nI (g k)), .int (nI (t k - 48)), .int (nI ch), .int (b2i true)] (c_X6_setOperator (g k) (t k - 48) ch true (by omega) (by omega) (by omega)) (by decide) (Nat.le_of_ble_eq_true rfl) (by decide) sh_77 rfl rfl rfl (Nat.le_of_ble_eq_true rfl) ?_
                refine ev_st (σ' := av_set σ 78 (mso ((atx t g ch k (σ 78 (214 + 4 * s + ch), true, σ 78)).2.2) (g k) (t k - 48) ch true)) (by first | rfl | (funext a; by_cases q78 : a = 78; (next => subst q78; rfl); simp only [av_set, q78, if_false]) | exact av_set_set _ _ _ _ | (funext a; unfold av_set; (repeat' split) <;> first | rfl | (exfalso; omega)) | (funext a; simp only [av_set, cpS]; (repeat' split) <;> first | rfl | (exfalso; omega))) ?_
                refine ev_iinc (lv' := [(6, .int (nI (k + 1))), (4, .int ((atx t g ch k (σ 78 (214 + 4 * s + ch), true, σ 78)).1)), (5, .int (nI 1)), (8, .int (-9)), (7, .int (nI (t k))), (0, .ref 77), (1, .int (nI s)), (2, .int (nI ch)), (3, .int (mnet (σ 78) c s))]) dX6_applyText_152 8 rfl (nI_inc k) (by decide) rfl ?_
                refine ev_goto (tgt := 28) dX6_applyText_155 (by decide) ?_
                refine ev_lv (lv' := [(0, .ref 77), (1, .int (nI s)), (2, .int (nI ch)), (3, .int (mnet (σ 78) c s)), (4, .int ((atx t g ch k (σ 78 (214 + 4 * s + ch), true, σ 78)).1)), (5, .int (nI 1)), (6, .int (nI (k + 1)))]) [5, 6, 7, 8, 1, 2, 0] rfl ?_
                have ih9 : av_Ev l RX6 cX6_applyText 9 none av_E0 3 28 [(0, .ref 77), (1, .int (nI s)), (2, .int (nI ch)), (3, .int (mnet (σ 78) c s)), (4, .int ((atx t g ch (k + 1) (σ 78 (214 + 4 * s + ch), true, σ 78)).1)), (5, .int (b2i ((atx t g ch (k + 1) (σ 78 (214 + 4 * s + ch), true, σ 78)).2.1))), (6, .int (nI (k + 1)))] [] (av_set σ 78 ((atx t g ch (k + 1) (σ 78 (214 + 4 * s + ch), true, σ 78)).2.2)) Q := ihk
                rw [show (atx t g ch (k + 1) (σ 78 (214 + 4 * s + ch), true, σ 78)).1 = (atx t g ch k (σ 78 (214 + 4 * s + ch), true, σ 78)).1 from (by show  (atF (g k) ch (t k) (atx t g ch k (σ 78 (214 + 4 * s + ch), true, σ 78))).1 = _; unfold atF; dsimp only; (simp only [h58, ho48, h127, cond_true, cond_false] <;> first | rfl | (simp only [h94, cond_true, cond_false]; done) | (simp [b2i, h65]; done) | (simp [b2i, h65, h94]; done)))] at ih9
                rw [show b2i ((atx t g ch (k + 1) (σ 78 (214 + 4 * s + ch), true, σ 78)).2.1) = nI 1 from (by show b2i (atF (g k) ch (t k) (atx t g ch k (σ 78 (214 + 4 * s + ch), true, σ 78))).2.1 = _; unfold atF; dsimp only; (simp only [h58, ho48, h127, cond_true, cond_false] <;> first | rfl | (simp only [h94, cond_true, cond_false]; done) | (simp [b2i, h65]; done) | (simp [b2i, h65, h94]; done)))] at ih9
                rw [show av_set σ 78 ((atx t g ch (k + 1) (σ 78 (214 + 4 * s + ch), true, σ 78)).2.2) = av_set σ 78 (mso ((atx t g ch k (σ 78 (214 + 4 * s + ch), true, σ 78)).2.2) (g k) (t k - 48) ch true) from (by show av_set σ 78 (atF (g k) ch (t k) (atx t g ch k (σ 78 (214 + 4 * s + ch), true, σ 78))).2.2 = _; unfold atF; dsimp only; (simp only [h58, ho48, h127, cond_true, cond_false] <;> first | rfl | (simp only [h94, cond_true, cond_false]; done) | (simp [b2i, h65]; done) | (simp [b2i, h65, h94]; done)))] at ih9
                exact ih9
      · have hu48 : u48 < 6 := ix_lt ho48
        refine ev_top (v := nI u48) rfl ?_
        refine ev_istore (lv' := [(8, .int (nI u48)), (7, .int (nI (t k))), (0, .ref 77), (1, .int (nI s)), (2, .int (nI ch)), (3, .int (mnet (σ 78) c s)), (4, .int ((atx t g ch k (σ 78 (214 + 4 * s + ch), true, σ 78)).1)), (5, .int (b2i ((atx t g ch k (σ 78 (214 + 4 * s + ch), true, σ 78)).2.1))), (6, .int (nI k))]) dX6_applyText_51 (by decide) rfl ?_
        refine ev_iload dX6_applyText_53 1 rfl ?_
        refine ev_callSi (x := b2i (sg (t k))) dX6_applyText_55 (Or.inl M_X6_139) Y_X6_isSign [.int (nI (t k))] (c_X6_isSign (t k) (by omega)) (by decide) (Nat.le_of_ble_eq_true rfl) rfl rfl (Nat.le_of_ble_eq_true rfl) ?_
        refine ev_ifb_eq (tgt := 76) dX6_applyText_58 (by decide) (fun h58 => ?_) (fun h58 => ?_)
        · refine ev_iload dX6_applyText_76 7 rfl ?_
          refine ev_istore (lv' := [(5, .int (b2i ((atx t g ch k (σ 78 (214 + 4 * s + ch), true, σ 78)).2.1))), (8, .int (nI u48)), (7, .int (nI (t k))), (0, .ref 77), (1, .int (nI s)), (2, .int (nI ch)), (3, .int (mnet (σ 78) c s)), (4, .int ((atx t g ch k (σ 78 (214 + 4 * s + ch), true, σ 78)).1)), (6, .int (nI k))]) dX6_applyText_78 (by decide) rfl ?_
          refine ev_iload dX6_applyText_80 1 rfl ?_
          refine ev_bipush dX6_applyText_82 (v := (-9)) (by decide) ?_
          refine ev_icmp_ne (tgt := 92) dX6_applyText_84 (by decide) (fun h84 => ?_) (fun h84 => ?_)
          · refine ev_iload dX6_applyText_92 0 rfl ?_
            refine ev_ifb_eq (tgt := 107) dX6_applyText_94 (by decide) (fun h94 => ?_) (fun h94 => ?_)
            · refine ev_iload dX6_applyText_107 7 rfl ?_
              refine ev_iconst dX6_applyText_109 (v := nI 1) (by decide) ?_
              refine ev_iload dX6_applyText_110 1 rfl ?_
              refine ev_ishl dX6_applyText_112 ?_
              refine ev_top (v := bt u48) rfl ?_
              refine ev_iconst dX6_applyText_113 (v := (-1)) (by decide) ?_
              refine ev_ixor dX6_applyText_114 ?_
              refine ev_iand dX6_applyText_115 ?_
              refine ev_istore (lv' := [(4, .int (((atx t g ch k (σ 78 (214 + 4 * s + ch), true, σ 78)).1) &&& ((bt u48) ^^^ (-1)))), (5, .int (b2i ((atx t g ch k (σ 78 (214 + 4 * s + ch), true, σ 78)).2.1))), (8, .int (nI u48)), (7, .int (nI (t k))), (0, .ref 77), (1, .int (nI s)), (2, .int (nI ch)), (3, .int (mnet (σ 78) c s)), (6, .int (nI k))]) dX6_applyText_116 (by decide) rfl ?_
              refine ev_iload dX6_applyText_118 3 rfl ?_
              refine ev_bipush dX6_applyText_120 (v := nI 48) (by decide) ?_
              refine ev_bipush dX6_applyText_122 (v := nI 57) (by decide) ?_
              refine ev_callSi (x := b2i (inb (nI (t k)) (nI 48) (nI 57))) dX6_applyText_124 (Or.inl M_X6_42) Y_X6_in [.int (nI (t k)), .int (nI 48), .int (nI 57)] (c_X6_in (nI (t k)) (nI 48) (nI 57) ) (by decide) (Nat.le_of_ble_eq_true rfl) rfl rfl (Nat.le_of_ble_eq_true rfl) ?_
              refine ev_top (v := b2i (dg (t k))) (congrArg b2i (inb_dg (by omega))) ?_
              refine ev_ifb_eq (tgt := 152) dX6_applyText_127 (by decide) (fun h127 => ?_) (fun h127 => ?_)
              · refine ev_iinc (lv' := [(6, .int (nI (k + 1))), (4, .int (((atx t g ch k (σ 78 (214 + 4 * s + ch), true, σ 78)).1) &&& ((bt u48) ^^^ (-1)))), (5, .int (b2i ((atx t g ch k (σ 78 (214 + 4 * s + ch), true, σ 78)).2.1))), (8, .int (nI u48)), (7, .int (nI (t k))), (0, .ref 77), (1, .int (nI s)), (2, .int (nI ch)), (3, .int (mnet (σ 78) c s))]) dX6_applyText_152 8 rfl (nI_inc k) (by decide) rfl ?_
                refine ev_goto (tgt := 28) dX6_applyText_155 (by decide) ?_
                refine ev_lv (lv' := [(0, .ref 77), (1, .int (nI s)), (2, .int (nI ch)), (3, .int (mnet (σ 78) c s)), (4, .int (((atx t g ch k (σ 78 (214 + 4 * s + ch), true, σ 78)).1) &&& ((bt u48) ^^^ (-1)))), (5, .int (b2i ((atx t g ch k (σ 78 (214 + 4 * s + ch), true, σ 78)).2.1))), (6, .int (nI (k + 1)))]) [5, 6, 7, 8, 1, 2, 0] rfl ?_
                have ih9 : av_Ev l RX6 cX6_applyText 9 none av_E0 3 28 [(0, .ref 77), (1, .int (nI s)), (2, .int (nI ch)), (3, .int (mnet (σ 78) c s)), (4, .int ((atx t g ch (k + 1) (σ 78 (214 + 4 * s + ch), true, σ 78)).1)), (5, .int (b2i ((atx t g ch (k + 1) (σ 78 (214 + 4 * s + ch), true, σ 78)).2.1))), (6, .int (nI (k + 1)))] [] (av_set σ 78 ((atx t g ch (k + 1) (σ 78 (214 + 4 * s + ch), true, σ 78)).2.2)) Q := ihk
                rw [show (atx t g ch (k + 1) (σ 78 (214 + 4 * s + ch), true, σ 78)).1 = ((atx t g ch k (σ 78 (214 + 4 * s + ch), true, σ 78)).1) &&& ((bt u48) ^^^ (-1)) from (by show  (atF (g k) ch (t k) (atx t g ch k (σ 78 (214 + 4 * s + ch), true, σ 78))).1 = _; unfold atF; dsimp only; (simp only [h58, ho48, h127, cond_true, cond_false] <;> first | rfl | (simp only [h94, cond_true, cond_false]; done) | (simp [b2i, h65]; done) | (simp [b2i, h65, h94]; done)))] at ih9
                rw [show b2i ((atx t g ch (k + 1) (σ 78 (214 + 4 * s + ch), true, σ 78)).2.1) = b2i ((atx t g ch k (σ 78 (214 + 4 * s + ch), true, σ 78)).2.1) from (by show b2i (atF (g k) ch (t k) (atx t g ch k (σ 78 (214 + 4 * s + ch), true, σ 78))).2.1 = _; unfold atF; dsimp only; (simp only [h58, ho48, h127, cond_true, cond_false] <;> first | rfl | (simp only [h94, cond_true, cond_false]; done) | (simp [b2i, h65]; done) | (simp [b2i, h65, h94]; done)))] at ih9
                rw [show av_set σ 78 ((atx t g ch (k + 1) (σ 78 (214 + 4 * s + ch), true, σ 78)).2.2) = av_set σ 78 ((atx t g ch k (σ 78 (214 + 4 * s + ch), true, σ 78)).2.2) from (by show av_set σ 78 (atF (g k) ch (t k) (atx t g ch k (σ 78 (214 + 4 * s + ch), true, σ 78))).2.2 = _; unfold atF; dsimp only; (simp only [h58, ho48, h127, cond_true, cond_false] <;> first | rfl | (simp only [h94, cond_true, cond_false]; done) | (simp [b2i, h65]; done) | (simp [b2i, h65, h94]; done)))] at ih9
                exact ih9
              · have hd9 := dg_ge h127
                have hg9 := hg k (by omega) h127
                have hg6 := mhm_lt hg9
                refine ev_aload_n dX6_applyText_130 rfl 4 rfl ?_
                refine ev_aload_n dX6_applyText_131 rfl 4 rfl ?_
                refine ev_iload_n dX6_applyText_132 rfl 7 rfl ?_
                refine ev_iload dX6_applyText_133 3 rfl ?_
                refine ev_bipush dX6_applyText_135 (v := nI 48) (by decide) ?_
                refine ev_isub dX6_applyText_137 ?_
                refine ev_top (v := nI (t k - 48)) (pk_sub (by omega)) ?_
                refine ev_callVi (x := oJ (mhm ((atx t g ch k (σ 78 (214 + 4 * s + ch), true, σ 78)).2.2) c (mnet (σ 78) c s) (t k - 48))) dX6_applyText_138 M_X6_72 Y_X6_homeIn [.int (mnet (σ 78) c s), .int (nI (t k - 48))] (c_X6_homeIn (mnet (σ 78) c s) (t k - 48) c (by omega) ((atx_lo k (by decide)).trans hcn) (by first | exact hc1 | omega) (by first | exact hc6 | omega)) (by decide) (Nat.le_of_ble_eq_true rfl) (by decide) sh_77 rfl rfl rfl (Nat.le_of_ble_eq_true rfl) ?_
                refine ev_top (v := nI (g k)) (by rw [mhm_of (M := σ 78) (fun i hi => atx_lo k hi) (by omega) hc6, hg9]; rfl) ?_
                refine ev_iload dX6_applyText_141 3 rfl ?_
                refine ev_bipush dX6_applyText_143 (v := nI 48) (by decide) ?_
                refine ev_isub dX6_applyText_145 ?_
                refine ev_top (v := nI (t k - 48)) (pk_sub (by omega)) ?_
                refine ev_iload_n dX6_applyText_146 rfl 6 rfl ?_
                refine ev_iload dX6_applyText_147 1 rfl ?_
                refine ev_callVv dX6_applyText_149 M_X6_145 Y_X6_setOperator [.int (nI (g k)), .int (nI (t k - 48)), .int (nI ch), .int (b2i ((atx t g ch k (σ 78 (214 + 4 * s + ch), true, σ 78)).2.1))] (c_X6_setOperator (g k) (t k - 48) ch ((atx t g ch k (σ 78 (214 + 4 * s + ch), true, σ 78)).2.1) (by omega) (by omega) (by omega)) (by decide) (Nat.le_of_ble_eq_true rfl) (by decide) sh_77 rfl rfl rfl (Nat.le_of_ble_eq_true rfl) ?_
                refine ev_st (σ' := av_set σ 78 (mso ((atx t g ch k (σ 78 (214 + 4 * s + ch), true, σ 78)).2.2) (g k) (t k - 48) ch ((atx t g ch k (σ 78 (214 + 4 * s + ch), true, σ 78)).2.1))) (by first | rfl | (funext a; by_cases q78 : a = 78; (next => subst q78; rfl); simp only [av_set, q78, if_false]) | exact av_set_set _ _ _ _ | (funext a; unfold av_set; (repeat' split) <;> first | rfl | (exfalso; omega)) | (funext a; simp only [av_set, cpS]; (repeat' split) <;> first | rfl | (exfalso; omega))) ?_
                refine ev_iinc (lv' := [(6, .int (nI (k + 1))), (4, .int (((atx t g ch k (σ 78 (214 + 4 * s + ch), true, σ 78)).1) &&& ((bt u48) ^^^ (-1)))), (5, .int (b2i ((atx t g ch k (σ 78 (214 + 4 * s + ch), true, σ 78)).2.1))), (8, .int (nI u48)), (7, .int (nI (t k))), (0, .ref 77), (1, .int (nI s)), (2, .int (nI ch)), (3, .int (mnet (σ 78) c s))]) dX6_applyText_152 8 rfl (nI_inc k) (by decide) rfl ?_
                refine ev_goto (tgt := 28) dX6_applyText_155 (by decide) ?_
                refine ev_lv (lv' := [(0, .ref 77), (1, .int (nI s)), (2, .int (nI ch)), (3, .int (mnet (σ 78) c s)), (4, .int (((atx t g ch k (σ 78 (214 + 4 * s + ch), true, σ 78)).1) &&& ((bt u48) ^^^ (-1)))), (5, .int (b2i ((atx t g ch k (σ 78 (214 + 4 * s + ch), true, σ 78)).2.1))), (6, .int (nI (k + 1)))]) [5, 6, 7, 8, 1, 2, 0] rfl ?_
                have ih9 : av_Ev l RX6 cX6_applyText 9 none av_E0 3 28 [(0, .ref 77), (1, .int (nI s)), (2, .int (nI ch)), (3, .int (mnet (σ 78) c s)), (4, .int ((atx t g ch (k + 1) (σ 78 (214 + 4 * s + ch), true, σ 78)).1)), (5, .int (b2i ((atx t g ch (k + 1) (σ 78 (214 + 4 * s + ch), true, σ 78)).2.1))), (6, .int (nI (k + 1)))] [] (av_set σ 78 ((atx t g ch (k + 1) (σ 78 (214 + 4 * s + ch), true, σ 78)).2.2)) Q := ihk
                rw [show (atx t g ch (k + 1) (σ 78 (214 + 4 * s + ch), true, σ 78)).1 = ((atx t g ch k (σ 78 (214 + 4 * s + ch), true, σ 78)).1) &&& ((bt u48) ^^^ (-1)) from (by show  (atF (g k) ch (t k) (atx t g ch k (σ 78 (214 + 4 * s + ch), true, σ 78))).1 = _; unfold atF; dsimp only; (simp only [h58, ho48, h127, cond_true, cond_false] <;> first | rfl | (simp only [h94, cond_true, cond_false]; done) | (simp [b2i, h65]; done) | (simp [b2i, h65, h94]; done)))] at ih9
                rw [show b2i ((atx t g ch (k + 1) (σ 78 (214 + 4 * s + ch), true, σ 78)).2.1) = b2i ((atx t g ch k (σ 78 (214 + 4 * s + ch), true, σ 78)).2.1) from (by show b2i (atF (g k) ch (t k) (atx t g ch k (σ 78 (214 + 4 * s + ch), true, σ 78))).2.1 = _; unfold atF; dsimp only; (simp only [h58, ho48, h127, cond_true, cond_false] <;> first | rfl | (simp only [h94, cond_true, cond_false]; done) | (simp [b2i, h65]; done) | (simp [b2i, h65, h94]; done)))] at ih9
                rw [show av_set σ 78 ((atx t g ch (k + 1) (σ 78 (214 + 4 * s + ch), true, σ 78)).2.2) = av_set σ 78 (mso ((atx t g ch k (σ 78 (214 + 4 * s + ch), true, σ 78)).2.2) (g k) (t k - 48) ch ((atx t g ch k (σ 78 (214 + 4 * s + ch), true, σ 78)).2.1)) from (by show av_set σ 78 (atF (g k) ch (t k) (atx t g ch k (σ 78 (214 + 4 * s + ch), true, σ 78))).2.2 = _; unfold atF; dsimp only; (simp only [h58, ho48, h127, cond_true, cond_false] <;> first | rfl | (simp only [h94, cond_true, cond_false]; done) | (simp [b2i, h65]; done) | (simp [b2i, h65, h94]; done)))] at ih9
                exact ih9
            · refine ev_iload dX6_applyText_97 7 rfl ?_
              refine ev_iconst dX6_applyText_99 (v := nI 1) (by decide) ?_
              refine ev_iload dX6_applyText_100 1 rfl ?_
              refine ev_ishl dX6_applyText_102 ?_
              refine ev_top (v := bt u48) rfl ?_
              refine ev_ior dX6_applyText_103 ?_
              refine ev_goto (tgt := 116) dX6_applyText_104 (by decide) ?_
              refine ev_istore (lv' := [(4, .int (((atx t g ch k (σ 78 (214 + 4 * s + ch), true, σ 78)).1) ||| (bt u48))), (5, .int (b2i ((atx t g ch k (σ 78 (214 + 4 * s + ch), true, σ 78)).2.1))), (8, .int (nI u48)), (7, .int (nI (t k))), (0, .ref 77), (1, .int (nI s)), (2, .int (nI ch)), (3, .int (mnet (σ 78) c s)), (6, .int (nI k))]) dX6_applyText_116 (by decide) rfl ?_
              refine ev_iload dX6_applyText_118 3 rfl ?_
              refine ev_bipush dX6_applyText_120 (v := nI 48) (by decide) ?_
              refine ev_bipush dX6_applyText_122 (v := nI 57) (by decide) ?_
              refine ev_callSi (x := b2i (inb (nI (t k)) (nI 48) (nI 57))) dX6_applyText_124 (Or.inl M_X6_42) Y_X6_in [.int (nI (t k)), .int (nI 48), .int (nI 57)] (c_X6_in (nI (t k)) (nI 48) (nI 57) ) (by decide) (Nat.le_of_ble_eq_true rfl) rfl rfl (Nat.le_of_ble_eq_true rfl) ?_
              refine ev_top (v := b2i (dg (t k))) (congrArg b2i (inb_dg (by omega))) ?_
              refine ev_ifb_eq (tgt := 152) dX6_applyText_127 (by decide) (fun h127 => ?_) (fun h127 => ?_)
              · refine ev_iinc (lv' := [(6, .int (nI (k + 1))), (4, .int (((atx t g ch k (σ 78 (214 + 4 * s + ch), true, σ 78)).1) ||| (bt u48))), (5, .int (b2i ((atx t g ch k (σ 78 (214 + 4 * s + ch), true, σ 78)).2.1))), (8, .int (nI u48)), (7, .int (nI (t k))), (0, .ref 77), (1, .int (nI s)), (2, .int (nI ch)), (3, .int (mnet (σ 78) c s))]) dX6_applyText_152 8 rfl (nI_inc k) (by decide) rfl ?_
                refine ev_goto (tgt := 28) dX6_applyText_155 (by decide) ?_
                refine ev_lv (lv' := [(0, .ref 77), (1, .int (nI s)), (2, .int (nI ch)), (3, .int (mnet (σ 78) c s)), (4, .int (((atx t g ch k (σ 78 (214 + 4 * s + ch), true, σ 78)).1) ||| (bt u48))), (5, .int (b2i ((atx t g ch k (σ 78 (214 + 4 * s + ch), true, σ 78)).2.1))), (6, .int (nI (k + 1)))]) [5, 6, 7, 8, 1, 2, 0] rfl ?_
                have ih9 : av_Ev l RX6 cX6_applyText 9 none av_E0 3 28 [(0, .ref 77), (1, .int (nI s)), (2, .int (nI ch)), (3, .int (mnet (σ 78) c s)), (4, .int ((atx t g ch (k + 1) (σ 78 (214 + 4 * s + ch), true, σ 78)).1)), (5, .int (b2i ((atx t g ch (k + 1) (σ 78 (214 + 4 * s + ch), true, σ 78)).2.1))), (6, .int (nI (k + 1)))] [] (av_set σ 78 ((atx t g ch (k + 1) (σ 78 (214 + 4 * s + ch), true, σ 78)).2.2)) Q := ihk
                rw [show (atx t g ch (k + 1) (σ 78 (214 + 4 * s + ch), true, σ 78)).1 = ((atx t g ch k (σ 78 (214 + 4 * s + ch), true, σ 78)).1) ||| (bt u48) from (by show  (atF (g k) ch (t k) (atx t g ch k (σ 78 (214 + 4 * s + ch), true, σ 78))).1 = _; unfold atF; dsimp only; (simp only [h58, ho48, h127, cond_true, cond_false] <;> first | rfl | (simp only [h94, cond_true, cond_false]; done) | (simp [b2i, h65]; done) | (simp [b2i, h65, h94]; done)))] at ih9
                rw [show b2i ((atx t g ch (k + 1) (σ 78 (214 + 4 * s + ch), true, σ 78)).2.1) = b2i ((atx t g ch k (σ 78 (214 + 4 * s + ch), true, σ 78)).2.1) from (by show b2i (atF (g k) ch (t k) (atx t g ch k (σ 78 (214 + 4 * s + ch), true, σ 78))).2.1 = _; unfold atF; dsimp only; (simp only [h58, ho48, h127, cond_true, cond_false] <;> first | rfl | (simp only [h94, cond_true, cond_false]; done) | (simp [b2i, h65]; done) | (simp [b2i, h65, h94]; done)))] at ih9
                rw [show av_set σ 78 ((atx t g ch (k + 1) (σ 78 (214 + 4 * s + ch), true, σ 78)).2.2) = av_set σ 78 ((atx t g ch k (σ 78 (214 + 4 * s + ch), true, σ 78)).2.2) from (by show av_set σ 78 (atF (g k) ch (t k) (atx t g ch k (σ 78 (214 + 4 * s + ch), true, σ 78))).2.2 = _; unfold atF; dsimp only; (simp only [h58, ho48, h127, cond_true, cond_false] <;> first | rfl | (simp only [h94, cond_true, cond_false]; done) | (simp [b2i, h65]; done) | (simp [b2i, h65, h94]; done)))] at ih9
                exact ih9
              · have hd9 := dg_ge h127
                have hg9 := hg k (by omega) h127
                have hg6 := mhm_lt hg9
                refine ev_aload_n dX6_applyText_130 rfl 4 rfl ?_
                refine ev_aload_n dX6_applyText_131 rfl 4 rfl ?_
                refine ev_iload_n dX6_applyText_132 rfl 7 rfl ?_
                refine ev_iload dX6_applyText_133 3 rfl ?_
                refine ev_bipush dX6_applyText_135 (v := nI 48) (by decide) ?_
                refine ev_isub dX6_applyText_137 ?_
                refine ev_top (v := nI (t k - 48)) (pk_sub (by omega)) ?_
                refine ev_callVi (x := oJ (mhm ((atx t g ch k (σ 78 (214 + 4 * s + ch), true, σ 78)).2.2) c (mnet (σ 78) c s) (t k - 48))) dX6_applyText_138 M_X6_72 Y_X6_homeIn [.int (mnet (σ 78) c s), .int (nI (t k - 48))] (c_X6_homeIn (mnet (σ 78) c s) (t k - 48) c (by omega) ((atx_lo k (by decide)).trans hcn) (by first | exact hc1 | omega) (by first | exact hc6 | omega)) (by decide) (Nat.le_of_ble_eq_true rfl) (by decide) sh_77 rfl rfl rfl (Nat.le_of_ble_eq_true rfl) ?_
                refine ev_top (v := nI (g k)) (by rw [mhm_of (M := σ 78) (fun i hi => atx_lo k hi) (by omega) hc6, hg9]; rfl) ?_
                refine ev_iload dX6_applyText_141 3 rfl ?_
                refine ev_bipush dX6_applyText_143 (v := nI 48) (by decide) ?_
                refine ev_isub dX6_applyText_145 ?_
                refine ev_top (v := nI (t k - 48)) (pk_sub (by omega)) ?_
                refine ev_iload_n dX6_applyText_146 rfl 6 rfl ?_
                refine ev_iload dX6_applyText_147 1 rfl ?_
                refine ev_callVv dX6_applyText_149 M_X6_145 Y_X6_setOperator [.int (nI (g k)), .int (nI (t k - 48)), .int (nI ch), .int (b2i ((atx t g ch k (σ 78 (214 + 4 * s + ch), true, σ 78)).2.1))] (c_X6_setOperator (g k) (t k - 48) ch ((atx t g ch k (σ 78 (214 + 4 * s + ch), true, σ 78)).2.1) (by omega) (by omega) (by omega)) (by decide) (Nat.le_of_ble_eq_true rfl) (by decide) sh_77 rfl rfl rfl (Nat.le_of_ble_eq_true rfl) ?_
                refine ev_st (σ' := av_set σ 78 (mso ((atx t g ch k (σ 78 (214 + 4 * s + ch), true, σ 78)).2.2) (g k) (t k - 48) ch ((atx t g ch k (σ 78 (214 + 4 * s + ch), true, σ 78)).2.1))) (by first | rfl | (funext a; by_cases q78 : a = 78; (next => subst q78; rfl); simp only [av_set, q78, if_false]) | exact av_set_set _ _ _ _ | (funext a; unfold av_set; (repeat' split) <;> first | rfl | (exfalso; omega)) | (funext a; simp only [av_set, cpS]; (repeat' split) <;> first | rfl | (exfalso; omega))) ?_
                refine ev_iinc (lv' := [(6, .int (nI (k + 1))), (4, .int (((atx t g ch k (σ 78 (214 + 4 * s + ch), true, σ 78)).1) ||| (bt u48))), (5, .int (b2i ((atx t g ch k (σ 78 (214 + 4 * s + ch), true, σ 78)).2.1))), (8, .int (nI u48)), (7, .int (nI (t k))), (0, .ref 77), (1, .int (nI s)), (2, .int (nI ch)), (3, .int (mnet (σ 78) c s))]) dX6_applyText_152 8 rfl (nI_inc k) (by decide) rfl ?_
                refine ev_goto (tgt := 28) dX6_applyText_155 (by decide) ?_
                refine ev_lv (lv' := [(0, .ref 77), (1, .int (nI s)), (2, .int (nI ch)), (3, .int (mnet (σ 78) c s)), (4, .int (((atx t g ch k (σ 78 (214 + 4 * s + ch), true, σ 78)).1) ||| (bt u48))), (5, .int (b2i ((atx t g ch k (σ 78 (214 + 4 * s + ch), true, σ 78)).2.1))), (6, .int (nI (k + 1)))]) [5, 6, 7, 8, 1, 2, 0] rfl ?_
                have ih9 : av_Ev l RX6 cX6_applyText 9 none av_E0 3 28 [(0, .ref 77), (1, .int (nI s)), (2, .int (nI ch)), (3, .int (mnet (σ 78) c s)), (4, .int ((atx t g ch (k + 1) (σ 78 (214 + 4 * s + ch), true, σ 78)).1)), (5, .int (b2i ((atx t g ch (k + 1) (σ 78 (214 + 4 * s + ch), true, σ 78)).2.1))), (6, .int (nI (k + 1)))] [] (av_set σ 78 ((atx t g ch (k + 1) (σ 78 (214 + 4 * s + ch), true, σ 78)).2.2)) Q := ihk
                rw [show (atx t g ch (k + 1) (σ 78 (214 + 4 * s + ch), true, σ 78)).1 = ((atx t g ch k (σ 78 (214 + 4 * s + ch), true, σ 78)).1) ||| (bt u48) from (by show  (atF (g k) ch (t k) (atx t g ch k (σ 78 (214 + 4 * s + ch), true, σ 78))).1 = _; unfold atF; dsimp only; (simp only [h58, ho48, h127, cond_true, cond_false] <;> first | rfl | (simp only [h94, cond_true, cond_false]; done) | (simp [b2i, h65]; done) | (simp [b2i, h65, h94]; done)))] at ih9
                rw [show b2i ((atx t g ch (k + 1) (σ 78 (214 + 4 * s + ch), true, σ 78)).2.1) = b2i ((atx t g ch k (σ 78 (214 + 4 * s + ch), true, σ 78)).2.1) from (by show b2i (atF (g k) ch (t k) (atx t g ch k (σ 78 (214 + 4 * s + ch), true, σ 78))).2.1 = _; unfold atF; dsimp only; (simp only [h58, ho48, h127, cond_true, cond_false] <;> first | rfl | (simp only [h94, cond_true, cond_false]; done) | (simp [b2i, h65]; done) | (simp [b2i, h65, h94]; done)))] at ih9
                rw [show av_set σ 78 ((atx t g ch (k + 1) (σ 78 (214 + 4 * s + ch), true, σ 78)).2.2) = av_set σ 78 (mso ((atx t g ch k (σ 78 (214 + 4 * s + ch), true, σ 78)).2.2) (g k) (t k - 48) ch ((atx t g ch k (σ 78 (214 + 4 * s + ch), true, σ 78)).2.1)) from (by show av_set σ 78 (atF (g k) ch (t k) (atx t g ch k (σ 78 (214 + 4 * s + ch), true, σ 78))).2.2 = _; unfold atF; dsimp only; (simp only [h58, ho48, h127, cond_true, cond_false] <;> first | rfl | (simp only [h94, cond_true, cond_false]; done) | (simp [b2i, h65]; done) | (simp [b2i, h65, h94]; done)))] at ih9
                exact ih9
          · exact absurd h84 (nI_neg (by omega) (by decide))
        · refine ev_iload dX6_applyText_61 1 rfl ?_
          refine ev_bipush dX6_applyText_63 (v := nI 43) (by decide) ?_
          refine ev_ncmp_ne (tgt := 72) dX6_applyText_65 (by decide) (by omega) (by omega) (fun h65 => ?_) (fun h65 => ?_)
          · refine ev_iconst dX6_applyText_72 (v := nI 0) (by decide) ?_
            refine ev_goto (tgt := 78) dX6_applyText_73 (by decide) ?_
            refine ev_istore (lv' := [(5, .int (nI 0)), (8, .int (nI u48)), (7, .int (nI (t k))), (0, .ref 77), (1, .int (nI s)), (2, .int (nI ch)), (3, .int (mnet (σ 78) c s)), (4, .int ((atx t g ch k (σ 78 (214 + 4 * s + ch), true, σ 78)).1)), (6, .int (nI k))]) dX6_applyText_78 (by decide) rfl ?_
            refine ev_iload dX6_applyText_80 1 rfl ?_
            refine ev_bipush dX6_applyText_82 (v := (-9)) (by decide) ?_
            refine ev_icmp_ne (tgt := 92) dX6_applyText_84 (by decide) (fun h84 => ?_) (fun h84 => ?_)
            · refine ev_iload dX6_applyText_92 0 rfl ?_
              refine ev_nif_eq (tgt := 107) dX6_applyText_94 (by decide) (by omega) (fun h94 => ?_) (fun h94 => ?_)
              · refine ev_iload dX6_applyText_107 7 rfl ?_
                refine ev_iconst dX6_applyText_109 (v := nI 1) (by decide) ?_
                refine ev_iload dX6_applyText_110 1 rfl ?_
                refine ev_ishl dX6_applyText_112 ?_
                refine ev_top (v := bt u48) rfl ?_
                refine ev_iconst dX6_applyText_113 (v := (-1)) (by decide) ?_
                refine ev_ixor dX6_applyText_114 ?_
                refine ev_iand dX6_applyText_115 ?_
                refine ev_istore (lv' := [(4, .int (((atx t g ch k (σ 78 (214 + 4 * s + ch), true, σ 78)).1) &&& ((bt u48) ^^^ (-1)))), (5, .int (nI 0)), (8, .int (nI u48)), (7, .int (nI (t k))), (0, .ref 77), (1, .int (nI s)), (2, .int (nI ch)), (3, .int (mnet (σ 78) c s)), (6, .int (nI k))]) dX6_applyText_116 (by decide) rfl ?_
                refine ev_iload dX6_applyText_118 3 rfl ?_
                refine ev_bipush dX6_applyText_120 (v := nI 48) (by decide) ?_
                refine ev_bipush dX6_applyText_122 (v := nI 57) (by decide) ?_
                refine ev_callSi (x := b2i (inb (nI (t k)) (nI 48) (nI 57))) dX6_applyText_124 (Or.inl M_X6_42) Y_X6_in [.int (nI (t k)), .int (nI 48), .int (nI 57)] (c_X6_in (nI (t k)) (nI 48) (nI 57) ) (by decide) (Nat.le_of_ble_eq_true rfl) rfl rfl (Nat.le_of_ble_eq_true rfl) ?_
                refine ev_top (v := b2i (dg (t k))) (congrArg b2i (inb_dg (by omega))) ?_
                refine ev_ifb_eq (tgt := 152) dX6_applyText_127 (by decide) (fun h127 => ?_) (fun h127 => ?_)
                · refine ev_iinc (lv' := [(6, .int (nI (k + 1))), (4, .int (((atx t g ch k (σ 78 (214 + 4 * s + ch), true, σ 78)).1) &&& ((bt u48) ^^^ (-1)))), (5, .int (nI 0)), (8, .int (nI u48)), (7, .int (nI (t k))), (0, .ref 77), (1, .int (nI s)), (2, .int (nI ch)), (3, .int (mnet (σ 78) c s))]) dX6_applyText_152 8 rfl (nI_inc k) (by decide) rfl ?_
                  refine ev_goto (tgt := 28) dX6_applyText_155 (by decide) ?_
                  refine ev_lv (lv' := [(0, .ref 77), (1, .int (nI s)), (2, .int (nI ch)), (3, .int (mnet (σ 78) c s)), (4, .int (((atx t g ch k (σ 78 (214 + 4 * s + ch), true, σ 78)).1) &&& ((bt u48) ^^^ (-1)))), (5, .int (nI 0)), (6, .int (nI (k + 1)))]) [5, 6, 7, 8, 1, 2, 0] rfl ?_
                  have ih9 : av_Ev l RX6 cX6_applyText 9 none av_E0 3 28 [(0, .ref 77), (1, .int (nI s)), (2, .int (nI ch)), (3, .int (mnet (σ 78) c s)), (4, .int ((atx t g ch (k + 1) (σ 78 (214 + 4 * s + ch), true, σ 78)).1)), (5, .int (b2i ((atx t g ch (k + 1) (σ 78 (214 + 4 * s + ch), true, σ 78)).2.1))), (6, .int (nI (k + 1)))] [] (av_set σ 78 ((atx t g ch (k + 1) (σ 78 (214 + 4 * s + ch), true, σ 78)).2.2)) Q := ihk
                  rw [show (atx t g ch (k + 1) (σ 78 (214 + 4 * s + ch), true, σ 78)).1 = ((atx t g ch k (σ 78 (214 + 4 * s + ch), true, σ 78)).1) &&& ((bt u48) ^^^ (-1)) from (by show  (atF (g k) ch (t k) (atx t g ch k (σ 78 (214 + 4 * s + ch), true, σ 78))).1 = _; unfold atF; dsimp only; (simp only [h58, ho48, h127, cond_true, cond_false] <;> first | rfl | (simp only [h94, cond_true, cond_false]; done) | (simp [b2i, h65]; done) | (simp [b2i, h65, h94]; done)))] at ih9
                  rw [show b2i ((atx t g ch (k + 1) (σ 78 (214 + 4 * s + ch), true, σ 78)).2.1) = nI 0 from (by show b2i (atF (g k) ch (t k) (atx t g ch k (σ 78 (214 + 4 * s + ch), true, σ 78))).2.1 = _; unfold atF; dsimp only; (simp only [h58, ho48, h127, cond_true, cond_false] <;> first | rfl | (simp only [h94, cond_true, cond_false]; done) | (simp [b2i, h65]; done) | (simp [b2i, h65, h94]; done)))] at ih9
                  rw [show av_set σ 78 ((atx t g ch (k + 1) (σ 78 (214 + 4 * s + ch), true, σ 78)).2.2) = av_set σ 78 ((atx t g ch k (σ 78 (214 + 4 * s + ch), true, σ 78)).2.2) from (by show av_set σ 78 (atF (g k) ch (t k) (atx t g ch k (σ 78 (214 + 4 * s + ch), true, σ 78))).2.2 = _; unfold atF; dsimp only; (simp only [h58, ho48, h127, cond_true, cond_false] <;> first | rfl | (simp only [h94, cond_true, cond_false]; done) | (simp [b2i, h65]; done) | (simp [b2i, h65, h94]; done)))] at ih9
                  exact ih9
                · have hd9 := dg_ge h127
                  have hg9 := hg k (by omega) h127
                  have hg6 := mhm_lt hg9
                  refine ev_aload_n dX6_applyText_130 rfl 4 rfl ?_
                  refine ev_aload_n dX6_applyText_131 rfl 4 rfl ?_
                  refine ev_iload_n dX6_applyText_132 rfl 7 rfl ?_
                  refine ev_iload dX6_applyText_133 3 rfl ?_
                  refine ev_bipush dX6_applyText_135 (v := nI 48) (by decide) ?_
                  refine ev_isub dX6_applyText_137 ?_
                  refine ev_top (v := nI (t k - 48)) (pk_sub (by omega)) ?_
                  refine ev_callVi (x := oJ (mhm ((atx t g ch k (σ 78 (214 + 4 * s + ch), true, σ 78)).2.2) c (mnet (σ 78) c s) (t k - 48))) dX6_applyText_138 M_X6_72 Y_X6_homeIn [.int (mnet (σ 78) c s), .int (nI (t k - 48))] (c_X6_homeIn (mnet (σ 78) c s) (t k - 48) c (by omega) ((atx_lo k (by decide)).trans hcn) (by first | exact hc1 | omega) (by first | exact hc6 | omega)) (by decide) (Nat.le_of_ble_eq_true rfl) (by decide) sh_77 rfl rfl rfl (Nat.le_of_ble_eq_true rfl) ?_
                  refine ev_top (v := nI (g k)) (by rw [mhm_of (M := σ 78) (fun i hi => atx_lo k hi) (by omega) hc6, hg9]; rfl) ?_
                  refine ev_iload dX6_applyText_141 3 rfl ?_
                  refine ev_bipush dX6_applyText_143 (v := nI 48) (by decide) ?_
                  refine ev_isub dX6_applyText_145 ?_
                  refine ev_top (v := nI (t k - 48)) (pk_sub (by omega)) ?_
                  refine ev_iload_n dX6_applyText_146 rfl 6 rfl ?_
                  refine ev_iload dX6_applyText_147 1 rfl ?_
                  refine ev_callVv dX6_applyText_149 M_X6_145 Y_X6_setOperator [.int (nI (g k)), .int (nI (t k - 48)), .int (nI ch), .int (b2i false)] (c_X6_setOperator (g k) (t k - 48) ch false (by omega) (by omega) (by omega)) (by decide) (Nat.le_of_ble_eq_true rfl) (by decide) sh_77 rfl rfl rfl (Nat.le_of_ble_eq_true rfl) ?_
                  refine ev_st (σ' := av_set σ 78 (mso ((atx t g ch k (σ 78 (214 + 4 * s + ch), true, σ 78)).2.2) (g k) (t k - 48) ch false)) (by first | rfl | (funext a; by_cases q78 : a = 78; (next => subst q78; rfl); simp only [av_set, q78, if_false]) | exact av_set_set _ _ _ _ | (funext a; unfold av_set; (repeat' split) <;> first | rfl | (exfalso; omega)) | (funext a; simp only [av_set, cpS]; (repeat' split) <;> first | rfl | (exfalso; omega))) ?_
                  refine ev_iinc (lv' := [(6, .int (nI (k + 1))), (4, .int (((atx t g ch k (σ 78 (214 + 4 * s + ch), true, σ 78)).1) &&& ((bt u48) ^^^ (-1)))), (5, .int (nI 0)), (8, .int (nI u48)), (7, .int (nI (t k))), (0, .ref 77), (1, .int (nI s)), (2, .int (nI ch)), (3, .int (mnet (σ 78) c s))]) dX6_applyText_152 8 rfl (nI_inc k) (by decide) rfl ?_
                  refine ev_goto (tgt := 28) dX6_applyText_155 (by decide) ?_
                  refine ev_lv (lv' := [(0, .ref 77), (1, .int (nI s)), (2, .int (nI ch)), (3, .int (mnet (σ 78) c s)), (4, .int (((atx t g ch k (σ 78 (214 + 4 * s + ch), true, σ 78)).1) &&& ((bt u48) ^^^ (-1)))), (5, .int (nI 0)), (6, .int (nI (k + 1)))]) [5, 6, 7, 8, 1, 2, 0] rfl ?_
                  have ih9 : av_Ev l RX6 cX6_applyText 9 none av_E0 3 28 [(0, .ref 77), (1, .int (nI s)), (2, .int (nI ch)), (3, .int (mnet (σ 78) c s)), (4, .int ((atx t g ch (k + 1) (σ 78 (214 + 4 * s + ch), true, σ 78)).1)), (5, .int (b2i ((atx t g ch (k + 1) (σ 78 (214 + 4 * s + ch), true, σ 78)).2.1))), (6, .int (nI (k + 1)))] [] (av_set σ 78 ((atx t g ch (k + 1) (σ 78 (214 + 4 * s + ch), true, σ 78)).2.2)) Q := ihk
                  rw [show (atx t g ch (k + 1) (σ 78 (214 + 4 * s + ch), true, σ 78)).1 = ((atx t g ch k (σ 78 (214 + 4 * s + ch), true, σ 78)).1) &&& ((bt u48) ^^^ (-1)) from (by show  (atF (g k) ch (t k) (atx t g ch k (σ 78 (214 + 4 * s + ch), true, σ 78))).1 = _; unfold atF; dsimp only; (simp only [h58, ho48, h127, cond_true, cond_false] <;> first | rfl | (simp only [h94, cond_true, cond_false]; done) | (simp [b2i, h65]; done) | (simp [b2i, h65, h94]; done)))] at ih9
                  rw [show b2i ((atx t g ch (k + 1) (σ 78 (214 + 4 * s + ch), true, σ 78)).2.1) = nI 0 from (by show b2i (atF (g k) ch (t k) (atx t g ch k (σ 78 (214 + 4 * s + ch), true, σ 78))).2.1 = _; unfold atF; dsimp only; (simp only [h58, ho48, h127, cond_true, cond_false] <;> first | rfl | (simp only [h94, cond_true, cond_false]; done) | (simp [b2i, h65]; done) | (simp [b2i, h65, h94]; done)))] at ih9
                  rw [show av_set σ 78 ((atx t g ch (k + 1) (σ 78 (214 + 4 * s + ch), true, σ 78)).2.2) = av_set σ 78 (mso ((atx t g ch k (σ 78 (214 + 4 * s + ch), true, σ 78)).2.2) (g k) (t k - 48) ch false) from (by show av_set σ 78 (atF (g k) ch (t k) (atx t g ch k (σ 78 (214 + 4 * s + ch), true, σ 78))).2.2 = _; unfold atF; dsimp only; (simp only [h58, ho48, h127, cond_true, cond_false] <;> first | rfl | (simp only [h94, cond_true, cond_false]; done) | (simp [b2i, h65]; done) | (simp [b2i, h65, h94]; done)))] at ih9
                  exact ih9
              · exact absurd h94 (by omega)
            · exact absurd h84 (nI_neg (by omega) (by decide))
          · refine ev_iconst dX6_applyText_68 (v := nI 1) (by decide) ?_
            refine ev_goto (tgt := 78) dX6_applyText_69 (by decide) ?_
            refine ev_istore (lv' := [(5, .int (nI 1)), (8, .int (nI u48)), (7, .int (nI (t k))), (0, .ref 77), (1, .int (nI s)), (2, .int (nI ch)), (3, .int (mnet (σ 78) c s)), (4, .int ((atx t g ch k (σ 78 (214 + 4 * s + ch), true, σ 78)).1)), (6, .int (nI k))]) dX6_applyText_78 (by decide) rfl ?_
            refine ev_iload dX6_applyText_80 1 rfl ?_
            refine ev_bipush dX6_applyText_82 (v := (-9)) (by decide) ?_
            refine ev_icmp_ne (tgt := 92) dX6_applyText_84 (by decide) (fun h84 => ?_) (fun h84 => ?_)
            · refine ev_iload dX6_applyText_92 0 rfl ?_
              refine ev_nif_eq (tgt := 107) dX6_applyText_94 (by decide) (by omega) (fun h94 => ?_) (fun h94 => ?_)
              · exact absurd h94 (by omega)
              · refine ev_iload dX6_applyText_97 7 rfl ?_
                refine ev_iconst dX6_applyText_99 (v := nI 1) (by decide) ?_
                refine ev_iload dX6_applyText_100 1 rfl ?_
                refine ev_ishl dX6_applyText_102 ?_
                refine ev_top (v := bt u48) rfl ?_
                refine ev_ior dX6_applyText_103 ?_
                refine ev_goto (tgt := 116) dX6_applyText_104 (by decide) ?_
                refine ev_istore (lv' := [(4, .int (((atx t g ch k (σ 78 (214 + 4 * s + ch), true, σ 78)).1) ||| (bt u48))), (5, .int (nI 1)), (8, .int (nI u48)), (7, .int (nI (t k))), (0, .ref 77), (1, .int (nI s)), (2, .int (nI ch)), (3, .int (mnet (σ 78) c s)), (6, .int (nI k))]) dX6_applyText_116 (by decide) rfl ?_
                refine ev_iload dX6_applyText_118 3 rfl ?_
                refine ev_bipush dX6_applyText_120 (v := nI 48) (by decide) ?_
                refine ev_bipush dX6_applyText_122 (v := nI 57) (by decide) ?_
                refine ev_callSi (x := b2i (inb (nI (t k)) (nI 48) (nI 57))) dX6_applyText_124 (Or.inl M_X6_42) Y_X6_in [.int (nI (t k)), .int (nI 48), .int (nI 57)] (c_X6_in (nI (t k)) (nI 48) (nI 57) ) (by decide) (Nat.le_of_ble_eq_true rfl) rfl rfl (Nat.le_of_ble_eq_true rfl) ?_
                refine ev_top (v := b2i (dg (t k))) (congrArg b2i (inb_dg (by omega))) ?_
                refine ev_ifb_eq (tgt := 152) dX6_applyText_127 (by decide) (fun h127 => ?_) (fun h127 => ?_)
                · refine ev_iinc (lv' := [(6, .int (nI (k + 1))), (4, .int (((atx t g ch k (σ 78 (214 + 4 * s + ch), true, σ 78)).1) ||| (bt u48))), (5, .int (nI 1)), (8, .int (nI u48)), (7, .int (nI (t k))), (0, .ref 77), (1, .int (nI s)), (2, .int (nI ch)), (3, .int (mnet (σ 78) c s))]) dX6_applyText_152 8 rfl (nI_inc k) (by decide) rfl ?_
                  refine ev_goto (tgt := 28) dX6_applyText_155 (by decide) ?_
                  refine ev_lv (lv' := [(0, .ref 77), (1, .int (nI s)), (2, .int (nI ch)), (3, .int (mnet (σ 78) c s)), (4, .int (((atx t g ch k (σ 78 (214 + 4 * s + ch), true, σ 78)).1) ||| (bt u48))), (5, .int (nI 1)), (6, .int (nI (k + 1)))]) [5, 6, 7, 8, 1, 2, 0] rfl ?_
                  have ih9 : av_Ev l RX6 cX6_applyText 9 none av_E0 3 28 [(0, .ref 77), (1, .int (nI s)), (2, .int (nI ch)), (3, .int (mnet (σ 78) c s)), (4, .int ((atx t g ch (k + 1) (σ 78 (214 + 4 * s + ch), true, σ 78)).1)), (5, .int (b2i ((atx t g ch (k + 1) (σ 78 (214 + 4 * s + ch), true, σ 78)).2.1))), (6, .int (nI (k + 1)))] [] (av_set σ 78 ((atx t g ch (k + 1) (σ 78 (214 + 4 * s + ch), true, σ 78)).2.2)) Q := ihk
                  rw [show (atx t g ch (k + 1) (σ 78 (214 + 4 * s + ch), true, σ 78)).1 = ((atx t g ch k (σ 78 (214 + 4 * s + ch), true, σ 78)).1) ||| (bt u48) from (by show  (atF (g k) ch (t k) (atx t g ch k (σ 78 (214 + 4 * s + ch), true, σ 78))).1 = _; unfold atF; dsimp only; (simp only [h58, ho48, h127, cond_true, cond_false] <;> first | rfl | (simp only [h94, cond_true, cond_false]; done) | (simp [b2i, h65]; done) | (simp [b2i, h65, h94]; done)))] at ih9
                  rw [show b2i ((atx t g ch (k + 1) (σ 78 (214 + 4 * s + ch), true, σ 78)).2.1) = nI 1 from (by show b2i (atF (g k) ch (t k) (atx t g ch k (σ 78 (214 + 4 * s + ch), true, σ 78))).2.1 = _; unfold atF; dsimp only; (simp only [h58, ho48, h127, cond_true, cond_false] <;> first | rfl | (simp only [h94, cond_true, cond_false]; done) | (simp [b2i, h65]; done) | (simp [b2i, h65, h94]; done)))] at ih9
                  rw [show av_set σ 78 ((atx t g ch (k + 1) (σ 78 (214 + 4 * s + ch), true, σ 78)).2.2) = av_set σ 78 ((atx t g ch k (σ 78 (214 + 4 * s + ch), true, σ 78)).2.2) from (by show av_set σ 78 (atF (g k) ch (t k) (atx t g ch k (σ 78 (214 + 4 * s + ch), true, σ 78))).2.2 = _; unfold atF; dsimp only; (simp only [h58, ho48, h127, cond_true, cond_false] <;> first | rfl | (simp only [h94, cond_true, cond_false]; done) | (simp [b2i, h65]; done) | (simp [b2i, h65, h94]; done)))] at ih9
                  exact ih9
                · have hd9 := dg_ge h127
                  have hg9 := hg k (by omega) h127
                  have hg6 := mhm_lt hg9
                  refine ev_aload_n dX6_applyText_130 rfl 4 rfl ?_
                  refine ev_aload_n dX6_applyText_131 rfl 4 rfl ?_
                  refine ev_iload_n dX6_applyText_132 rfl 7 rfl ?_
                  refine ev_iload dX6_applyText_133 3 rfl ?_
                  refine ev_bipush dX6_applyText_135 (v := nI 48) (by decide) ?_
                  refine ev_isub dX6_applyText_137 ?_
                  refine ev_top (v := nI (t k - 48)) (pk_sub (by omega)) ?_
                  refine ev_callVi (x := oJ (mhm ((atx t g ch k (σ 78 (214 + 4 * s + ch), true, σ 78)).2.2) c (mnet (σ 78) c s) (t k - 48))) dX6_applyText_138 M_X6_72 Y_X6_homeIn [.int (mnet (σ 78) c s), .int (nI (t k - 48))] (c_X6_homeIn (mnet (σ 78) c s) (t k - 48) c (by omega) ((atx_lo k (by decide)).trans hcn) (by first | exact hc1 | omega) (by first | exact hc6 | omega)) (by decide) (Nat.le_of_ble_eq_true rfl) (by decide) sh_77 rfl rfl rfl (Nat.le_of_ble_eq_true rfl) ?_
                  refine ev_top (v := nI (g k)) (by rw [mhm_of (M := σ 78) (fun i hi => atx_lo k hi) (by omega) hc6, hg9]; rfl) ?_
                  refine ev_iload dX6_applyText_141 3 rfl ?_
                  refine ev_bipush dX6_applyText_143 (v := nI 48) (by decide) ?_
                  refine ev_isub dX6_applyText_145 ?_
                  refine ev_top (v := nI (t k - 48)) (pk_sub (by omega)) ?_
                  refine ev_iload_n dX6_applyText_146 rfl 6 rfl ?_
                  refine ev_iload dX6_applyText_147 1 rfl ?_
                  refine ev_callVv dX6_applyText_149 M_X6_145 Y_X6_setOperator [.int (nI (g k)), .int (nI (t k - 48)), .int (nI ch), .int (b2i true)] (c_X6_setOperator (g k) (t k - 48) ch true (by omega) (by omega) (by omega)) (by decide) (Nat.le_of_ble_eq_true rfl) (by decide) sh_77 rfl rfl rfl (Nat.le_of_ble_eq_true rfl) ?_
                  refine ev_st (σ' := av_set σ 78 (mso ((atx t g ch k (σ 78 (214 + 4 * s + ch), true, σ 78)).2.2) (g k) (t k - 48) ch true)) (by first | rfl | (funext a; by_cases q78 : a = 78; (next => subst q78; rfl); simp only [av_set, q78, if_false]) | exact av_set_set _ _ _ _ | (funext a; unfold av_set; (repeat' split) <;> first | rfl | (exfalso; omega)) | (funext a; simp only [av_set, cpS]; (repeat' split) <;> first | rfl | (exfalso; omega))) ?_
                  refine ev_iinc (lv' := [(6, .int (nI (k + 1))), (4, .int (((atx t g ch k (σ 78 (214 + 4 * s + ch), true, σ 78)).1) ||| (bt u48))), (5, .int (nI 1)), (8, .int (nI u48)), (7, .int (nI (t k))), (0, .ref 77), (1, .int (nI s)), (2, .int (nI ch)), (3, .int (mnet (σ 78) c s))]) dX6_applyText_152 8 rfl (nI_inc k) (by decide) rfl ?_
                  refine ev_goto (tgt := 28) dX6_applyText_155 (by decide) ?_
                  refine ev_lv (lv' := [(0, .ref 77), (1, .int (nI s)), (2, .int (nI ch)), (3, .int (mnet (σ 78) c s)), (4, .int (((atx t g ch k (σ 78 (214 + 4 * s + ch), true, σ 78)).1) ||| (bt u48))), (5, .int (nI 1)), (6, .int (nI (k + 1)))]) [5, 6, 7, 8, 1, 2, 0] rfl ?_
                  have ih9 : av_Ev l RX6 cX6_applyText 9 none av_E0 3 28 [(0, .ref 77), (1, .int (nI s)), (2, .int (nI ch)), (3, .int (mnet (σ 78) c s)), (4, .int ((atx t g ch (k + 1) (σ 78 (214 + 4 * s + ch), true, σ 78)).1)), (5, .int (b2i ((atx t g ch (k + 1) (σ 78 (214 + 4 * s + ch), true, σ 78)).2.1))), (6, .int (nI (k + 1)))] [] (av_set σ 78 ((atx t g ch (k + 1) (σ 78 (214 + 4 * s + ch), true, σ 78)).2.2)) Q := ihk
                  rw [show (atx t g ch (k + 1) (σ 78 (214 + 4 * s + ch), true, σ 78)).1 = ((atx t g ch k (σ 78 (214 + 4 * s + ch), true, σ 78)).1) ||| (bt u48) from (by show  (atF (g k) ch (t k) (atx t g ch k (σ 78 (214 + 4 * s + ch), true, σ 78))).1 = _; unfold atF; dsimp only; (simp only [h58, ho48, h127, cond_true, cond_false] <;> first | rfl | (simp only [h94, cond_true, cond_false]; done) | (simp [b2i, h65]; done) | (simp [b2i, h65, h94]; done)))] at ih9
                  rw [show b2i ((atx t g ch (k + 1) (σ 78 (214 + 4 * s + ch), true, σ 78)).2.1) = nI 1 from (by show b2i (atF (g k) ch (t k) (atx t g ch k (σ 78 (214 + 4 * s + ch), true, σ 78))).2.1 = _; unfold atF; dsimp only; (simp only [h58, ho48, h127, cond_true, cond_false] <;> first | rfl | (simp only [h94, cond_true, cond_false]; done) | (simp [b2i, h65]; done) | (simp [b2i, h65, h94]; done)))] at ih9
                  rw [show av_set σ 78 ((atx t g ch (k + 1) (σ 78 (214 + 4 * s + ch), true, σ 78)).2.2) = av_set σ 78 (mso ((atx t g ch k (σ 78 (214 + 4 * s + ch), true, σ 78)).2.2) (g k) (t k - 48) ch true) from (by show av_set σ 78 (atF (g k) ch (t k) (atx t g ch k (σ 78 (214 + 4 * s + ch), true, σ 78))).2.2 = _; unfold atF; dsimp only; (simp only [h58, ho48, h127, cond_true, cond_false] <;> first | rfl | (simp only [h94, cond_true, cond_false]; done) | (simp [b2i, h65]; done) | (simp [b2i, h65, h94]; done)))] at ih9
                  exact ih9
            · exact absurd h84 (nI_neg (by omega) (by decide))

set_option maxRecDepth 100000 in
set_option maxHeartbeats 1000000 in
theorem c_X6_applyModes_bad {l : Launch} {σ : av_S} (x : Int32) (y : Int32) (z : Int32) (c : Nat) (hx : (sv (nI c) x && sv (nI 10) y && sv (nI 4) z) = false) (hcn : σ 78 0 = nI c) (hc1 : 1 ≤ c) (hc6 : c ≤ 6) : av_M l RX6 cX6_applyModes 5 (some .int) 3 [.ref 77, .int x, .int y, .int z] σ (some (.int (-1))) σ := by
  intro Q hQ
  show av_Ev l RX6 cX6_applyModes 5 (some .int) av_E0 3 0 [(0, .ref 77), (1, .int x), (2, .int y), (3, .int z)] [] σ Q
  refine ev_aload_n dX6_applyModes_0 rfl 0 rfl ?_
  refine ev_iload_n dX6_applyModes_1 rfl 1 rfl ?_
  refine ev_iload_n dX6_applyModes_2 rfl 2 rfl ?_
  refine ev_callVi (x := b2i (sv (nI c) x && sv (nI 10) y)) dX6_applyModes_3 M_X6_115 Y_X6_isPlace [.int x, .int y] (c_X6_isPlace x y c (by first | exact hcn | omega) (by first | exact hc1 | omega) (by first | exact hc6 | omega)) (by decide) (Nat.le_of_ble_eq_true rfl) (by decide) sh_77 rfl rfl rfl (Nat.le_of_ble_eq_true rfl) ?_
  refine ev_ifb_eq (tgt := 16) dX6_applyModes_6 (by decide) (fun h6 => ?_) (fun h6 => ?_)
  · refine ev_iconst dX6_applyModes_16 (v := (-1)) (by decide) ?_
    exact ev_ireturn dX6_applyModes_17 rfl rfl (leafI hQ rfl rfl)
  · refine ev_iload_n dX6_applyModes_9 rfl 3 rfl ?_
    refine ev_callSi (x := b2i (sv (nI 4) z)) dX6_applyModes_10 (Or.inl M_X6_118) Y_X6_isChannel [.int z] (c_X6_isChannel z ) (by decide) (Nat.le_of_ble_eq_true rfl) rfl rfl (Nat.le_of_ble_eq_true rfl) ?_
    refine ev_ifb_ne (tgt := 18) dX6_applyModes_13 (by decide) (fun h13 => ?_) (fun h13 => ?_)
    · exact absurd hx (by simp [h6, h13])
    · refine ev_iconst dX6_applyModes_16 (v := (-1)) (by decide) ?_
      exact ev_ireturn dX6_applyModes_17 rfl rfl (leafI hQ rfl rfl)

set_option maxRecDepth 100000 in
set_option maxHeartbeats 1000000 in
theorem c_X6_applyModes_st {l : Launch} {σ : av_S} (s : Nat) (q : Nat) (ch : Nat) (c : Nat) (hs : s < 6) (hq0 : q < 10) (hp : (sv (nI c) (nI s) && sv (nI 10) (nI q)) = true) (hch : ch < 4) (hch1 : sv (nI 4) (nI ch) = true) (ho0 : (mus (σ 78) s q && mj (σ 78) 130 ch s q) = false) (hcn : σ 78 0 = nI c) (hc1 : 1 ≤ c) (hc6 : c ≤ 6) : av_M l RX6 cX6_applyModes 5 (some .int) 3 [.ref 77, .int (nI s), .int (nI q), .int (nI ch)] σ (some (.int (-2))) σ := by
  intro Q hQ
  show av_Ev l RX6 cX6_applyModes 5 (some .int) av_E0 3 0 [(0, .ref 77), (1, .int (nI s)), (2, .int (nI q)), (3, .int (nI ch))] [] σ Q
  refine ev_aload_n dX6_applyModes_0 rfl 0 rfl ?_
  refine ev_iload_n dX6_applyModes_1 rfl 1 rfl ?_
  refine ev_iload_n dX6_applyModes_2 rfl 2 rfl ?_
  refine ev_callVi (x := b2i (sv (nI c) (nI s) && sv (nI 10) (nI q))) dX6_applyModes_3 M_X6_115 Y_X6_isPlace [.int (nI s), .int (nI q)] (c_X6_isPlace (nI s) (nI q) c (by first | exact hcn | omega) (by first | exact hc1 | omega) (by first | exact hc6 | omega)) (by decide) (Nat.le_of_ble_eq_true rfl) (by decide) sh_77 rfl rfl rfl (Nat.le_of_ble_eq_true rfl) ?_
  refine ev_ifb_eq (tgt := 16) dX6_applyModes_6 (by decide) (fun h6 => ?_) (fun h6 => ?_)
  · exact absurd (hp.symm.trans h6) (by decide)
  · refine ev_iload_n dX6_applyModes_9 rfl 3 rfl ?_
    refine ev_callSi (x := b2i (sv (nI 4) (nI ch))) dX6_applyModes_10 (Or.inl M_X6_118) Y_X6_isChannel [.int (nI ch)] (c_X6_isChannel (nI ch) ) (by decide) (Nat.le_of_ble_eq_true rfl) rfl rfl (Nat.le_of_ble_eq_true rfl) ?_
    refine ev_ifb_ne (tgt := 18) dX6_applyModes_13 (by decide) (fun h13 => ?_) (fun h13 => ?_)
    · refine ev_aload_n dX6_applyModes_18 rfl 0 rfl ?_
      refine ev_iload_n dX6_applyModes_19 rfl 1 rfl ?_
      refine ev_iload_n dX6_applyModes_20 rfl 2 rfl ?_
      refine ev_iload_n dX6_applyModes_21 rfl 3 rfl ?_
      refine ev_callVi (x := b2i (mus (σ 78) s q && mj (σ 78) 130 ch s q)) dX6_applyModes_22 M_X6_130 Y_X6_isOperator [.int (nI s), .int (nI q), .int (nI ch)] (c_X6_isOperator s q ch (by omega) (by omega) (by omega)) (by decide) (Nat.le_of_ble_eq_true rfl) (by decide) sh_77 rfl rfl rfl (Nat.le_of_ble_eq_true rfl) ?_
      refine ev_ifb_ne (tgt := 31) dX6_applyModes_25 (by decide) (fun h25 => ?_) (fun h25 => ?_)
      · exact absurd (ho0.symm.trans h25) (by decide)
      · refine ev_bipush dX6_applyModes_28 (v := (-2)) (by decide) ?_
        exact ev_ireturn dX6_applyModes_30 rfl rfl (leafI hQ rfl rfl)
    · exact absurd (hch1.symm.trans h13) (by decide)

set_option maxRecDepth 100000 in
set_option maxHeartbeats 1000000 in
theorem c_X6_applyModes_err {l : Launch} {σ : av_S} (s : Nat) (q : Nat) (ch : Nat) (e : Nat) (t : Nat → Nat) (n : Nat) (c : Nat) (hs : s < 6) (hq0 : q < 10) (hp : (sv (nI c) (nI s) && sv (nI 10) (nI q)) = true) (hch : ch < 4) (hch1 : sv (nI 4) (nI ch) = true) (ho0 : (mus (σ 78) s q && mj (σ 78) 130 ch s q) = true) (hn : σ 77 4 = nI n) (hn4 : n ≤ 40) (ht : ∀ i, i < n → σ 80 i = nI (t i) ∧ t i < 256) (he : (chk t (mni (mj (σ 78) 70 ch) c (mnet (σ 78) c s)) n 0 true false 0).1 = some e) (he40 : e ≤ 40) (hcn : σ 78 0 = nI c) (hc1 : 1 ≤ c) (hc6 : c ≤ 6) : av_M l RX6 cX6_applyModes 5 (some .int) 3 [.ref 77, .int (nI s), .int (nI q), .int (nI ch)] σ (some (.int ((-10) - nI e))) (av_set σ 77 (upd (σ 77) 5 (nI (chk t (mni (mj (σ 78) 70 ch) c (mnet (σ 78) c s)) n 0 true false 0).2))) := by
  intro Q hQ
  show av_Ev l RX6 cX6_applyModes 5 (some .int) av_E0 3 0 [(0, .ref 77), (1, .int (nI s)), (2, .int (nI q)), (3, .int (nI ch))] [] σ Q
  refine ev_aload_n dX6_applyModes_0 rfl 0 rfl ?_
  refine ev_iload_n dX6_applyModes_1 rfl 1 rfl ?_
  refine ev_iload_n dX6_applyModes_2 rfl 2 rfl ?_
  refine ev_callVi (x := b2i (sv (nI c) (nI s) && sv (nI 10) (nI q))) dX6_applyModes_3 M_X6_115 Y_X6_isPlace [.int (nI s), .int (nI q)] (c_X6_isPlace (nI s) (nI q) c (by first | exact hcn | omega) (by first | exact hc1 | omega) (by first | exact hc6 | omega)) (by decide) (Nat.le_of_ble_eq_true rfl) (by decide) sh_77 rfl rfl rfl (Nat.le_of_ble_eq_true rfl) ?_
  refine ev_ifb_eq (tgt := 16) dX6_applyModes_6 (by decide) (fun h6 => ?_) (fun h6 => ?_)
  · exact absurd (hp.symm.trans h6) (by decide)
  · refine ev_iload_n dX6_applyModes_9 rfl 3 rfl ?_
    refine ev_callSi (x := b2i (sv (nI 4) (nI ch))) dX6_applyModes_10 (Or.inl M_X6_118) Y_X6_isChannel [.int (nI ch)] (c_X6_isChannel (nI ch) ) (by decide) (Nat.le_of_ble_eq_true rfl) rfl rfl (Nat.le_of_ble_eq_true rfl) ?_
    refine ev_ifb_ne (tgt := 18) dX6_applyModes_13 (by decide) (fun h13 => ?_) (fun h13 => ?_)
    · refine ev_aload_n dX6_applyModes_18 rfl 0 rfl ?_
      refine ev_iload_n dX6_applyModes_19 rfl 1 rfl ?_
      refine ev_iload_n dX6_applyModes_20 rfl 2 rfl ?_
      refine ev_iload_n dX6_applyModes_21 rfl 3 rfl ?_
      refine ev_callVi (x := b2i (mus (σ 78) s q && mj (σ 78) 130 ch s q)) dX6_applyModes_22 M_X6_130 Y_X6_isOperator [.int (nI s), .int (nI q), .int (nI ch)] (c_X6_isOperator s q ch (by omega) (by omega) (by omega)) (by decide) (Nat.le_of_ble_eq_true rfl) (by decide) sh_77 rfl rfl rfl (Nat.le_of_ble_eq_true rfl) ?_
      refine ev_ifb_ne (tgt := 31) dX6_applyModes_25 (by decide) (fun h25 => ?_) (fun h25 => ?_)
      · refine ev_aload_n dX6_applyModes_31 rfl 0 rfl ?_
        refine ev_aload_n dX6_applyModes_32 rfl 0 rfl ?_
        refine ev_aload_n dX6_applyModes_33 rfl 0 rfl ?_
        refine ev_iload_n dX6_applyModes_34 rfl 1 rfl ?_
        refine ev_callVi (x := mnet (σ 78) c s) dX6_applyModes_35 M_X6_54 Y_X6_network [.int (nI s)] (c_X6_network s c (by omega) (by first | exact hcn | omega) (by first | exact hc1 | omega) (by first | exact hc6 | omega)) (by decide) (Nat.le_of_ble_eq_true rfl) (by decide) sh_77 rfl rfl rfl (Nat.le_of_ble_eq_true rfl) ?_
        refine ev_iload_n dX6_applyModes_38 rfl 3 rfl ?_
        refine ev_callVi (x := mni (mj (σ 78) 70 ch) c (mnet (σ 78) c s)) dX6_applyModes_39 M_X6_82 Y_X6_membersIn [.int (mnet (σ 78) c s), .int (nI ch)] (c_X6_membersIn (mnet (σ 78) c s) ch c (by first | exact hcn | omega) (by first | exact hc1 | omega) (by first | exact hc6 | omega) (by omega)) (by decide) (Nat.le_of_ble_eq_true rfl) (by decide) sh_77 rfl rfl rfl (Nat.le_of_ble_eq_true rfl) ?_
        refine ev_callVi (x := oJ ((chk t (mni (mj (σ 78) 70 ch) c (mnet (σ 78) c s)) n 0 true false 0).1)) (σ' := av_set σ 77 (upd (σ 77) 5 (nI (chk t (mni (mj (σ 78) 70 ch) c (mnet (σ 78) c s)) n 0 true false 0).2))) dX6_applyModes_42 M_X6_149 Y_X6_check [.int (mni (mj (σ 78) 70 ch) c (mnet (σ 78) c s))] (c_X6_check (mni (mj (σ 78) 70 ch) c (mnet (σ 78) c s)) t n (by first | exact hn | omega) (by first | exact hn4 | omega) (by first | exact ht | omega)) (by decide) (Nat.le_of_ble_eq_true rfl) (by decide) sh_77 rfl rfl rfl (Nat.le_of_ble_eq_true rfl) ?_
        refine ev_top (v := nI e) (by rw [he]; rfl) ?_
        refine ev_istore (lv' := [(4, .int (nI e)), (0, .ref 77), (1, .int (nI s)), (2, .int (nI q)), (3, .int (nI ch))]) dX6_applyModes_45 (by decide) rfl ?_
        refine ev_iload dX6_applyModes_47 0 rfl ?_
        refine ev_bipush dX6_applyModes_49 (v := (-9)) (by decide) ?_
        refine ev_icmp_eq (tgt := 60) dX6_applyModes_51 (by decide) (fun h51 => ?_) (fun h51 => ?_)
        · exact absurd h51 (nI_neg (by omega) (by decide))
        · refine ev_bipush dX6_applyModes_54 (v := (-10)) (by decide) ?_
          refine ev_iload dX6_applyModes_56 0 rfl ?_
          refine ev_isub dX6_applyModes_58 ?_
          exact ev_ireturn dX6_applyModes_59 rfl rfl (leafI hQ (by first | rfl | (simp [h6, h13, h25, h51]; done)) rfl)
      · exact absurd (ho0.symm.trans h25) (by decide)
    · exact absurd (hch1.symm.trans h13) (by decide)

set_option maxRecDepth 100000 in
set_option maxHeartbeats 1000000 in
theorem c_X6_applyModes_ok {l : Launch} {σ : av_S} (s : Nat) (q : Nat) (ch : Nat) (t : Nat → Nat) (g : Nat → Nat) (n : Nat) (c : Nat) (u : Nat) (hs : s < 6) (hq0 : q < 10) (hp : (sv (nI c) (nI s) && sv (nI 10) (nI q)) = true) (hch : ch < 4) (hch1 : sv (nI 4) (nI ch) = true) (ho0 : (mus (σ 78) s q && mj (σ 78) 130 ch s q) = true) (hn : σ 77 4 = nI n) (hn4 : n ≤ 40) (ht : ∀ i, i < n → σ 80 i = nI (t i) ∧ t i < 256) (hg : ∀ k, k < n → dg (t k) = true → mhm (σ 78) c (mnet (σ 78) c s) (t k - 48) = some (g k)) (he : (chk t (mni (mj (σ 78) 70 ch) c (mnet (σ 78) c s)) n 0 true false 0).1 = none) (hcn : σ 78 0 = nI c) (hc1 : 1 ≤ c) (hc6 : c ≤ 6) (hu : σ 77 2 = nI u) (hu8 : u ≤ 8) : av_M l RX6 cX6_applyModes 5 (some .int) 4 [.ref 77, .int (nI s), .int (nI q), .int (nI ch)] σ (some (.int (nI (chk t (mni (mj (σ 78) 70 ch) c (mnet (σ 78) c s)) n 0 true false 0).2))) (av_set (av_set (av_set σ 77 (upd (upd (upd (σ 77) 5 (nI (chk t (mni (mj (σ 78) 70 ch) c (mnet (σ 78) c s)) n 0 true false 0).2)) 2 (nI (svU u))) 4 (nI 0))) 78 (msc (atx t g ch n (σ 78 (214 + 4 * s + ch), true, σ 78)).2.2 c (mnet (σ 78) c s) ch ((atx t g ch n (σ 78 (214 + 4 * s + ch), true, σ 78)).2.2 (190 + 4 * s + ch)) (atx t g ch n (σ 78 (214 + 4 * s + ch), true, σ 78)).1)) 79 (svH (σ 79) (σ 78) u)) := by
  intro Q hQ
  show av_Ev l RX6 cX6_applyModes 5 (some .int) av_E0 4 0 [(0, .ref 77), (1, .int (nI s)), (2, .int (nI q)), (3, .int (nI ch))] [] σ Q
  refine ev_aload_n dX6_applyModes_0 rfl 0 rfl ?_
  refine ev_iload_n dX6_applyModes_1 rfl 1 rfl ?_
  refine ev_iload_n dX6_applyModes_2 rfl 2 rfl ?_
  refine ev_callVi (x := b2i (sv (nI c) (nI s) && sv (nI 10) (nI q))) dX6_applyModes_3 M_X6_115 Y_X6_isPlace [.int (nI s), .int (nI q)] (c_X6_isPlace (nI s) (nI q) c (by first | exact hcn | omega) (by first | exact hc1 | omega) (by first | exact hc6 | omega)) (by decide) (Nat.le_of_ble_eq_true rfl) (by decide) sh_77 rfl rfl rfl (Nat.le_of_ble_eq_true rfl) ?_
  refine ev_ifb_eq (tgt := 16) dX6_applyModes_6 (by decide) (fun h6 => ?_) (fun h6 => ?_)
  · exact absurd (hp.symm.trans h6) (by decide)
  · refine ev_iload_n dX6_applyModes_9 rfl 3 rfl ?_
    refine ev_callSi (x := b2i (sv (nI 4) (nI ch))) dX6_applyModes_10 (Or.inl M_X6_118) Y_X6_isChannel [.int (nI ch)] (c_X6_isChannel (nI ch) ) (by decide) (Nat.le_of_ble_eq_true rfl) rfl rfl (Nat.le_of_ble_eq_true rfl) ?_
    refine ev_ifb_ne (tgt := 18) dX6_applyModes_13 (by decide) (fun h13 => ?_) (fun h13 => ?_)
    · refine ev_aload_n dX6_applyModes_18 rfl 0 rfl ?_
      refine ev_iload_n dX6_applyModes_19 rfl 1 rfl ?_
      refine ev_iload_n dX6_applyModes_20 rfl 2 rfl ?_
      refine ev_iload_n dX6_applyModes_21 rfl 3 rfl ?_
      refine ev_callVi (x := b2i (mus (σ 78) s q && mj (σ 78) 130 ch s q)) dX6_applyModes_22 M_X6_130 Y_X6_isOperator [.int (nI s), .int (nI q), .int (nI ch)] (c_X6_isOperator s q ch (by omega) (by omega) (by omega)) (by decide) (Nat.le_of_ble_eq_true rfl) (by decide) sh_77 rfl rfl rfl (Nat.le_of_ble_eq_true rfl) ?_
      refine ev_ifb_ne (tgt := 31) dX6_applyModes_25 (by decide) (fun h25 => ?_) (fun h25 => ?_)
      · refine ev_aload_n dX6_applyModes_31 rfl 0 rfl ?_
        refine ev_aload_n dX6_applyModes_32 rfl 0 rfl ?_
        refine ev_aload_n dX6_applyModes_33 rfl 0 rfl ?_
        refine ev_iload_n dX6_applyModes_34 rfl 1 rfl ?_
        refine ev_callVi (x := mnet (σ 78) c s) dX6_applyModes_35 M_X6_54 Y_X6_network [.int (nI s)] (c_X6_network s c (by omega) (by first | exact hcn | omega) (by first | exact hc1 | omega) (by first | exact hc6 | omega)) (by decide) (Nat.le_of_ble_eq_true rfl) (by decide) sh_77 rfl rfl rfl (Nat.le_of_ble_eq_true rfl) ?_
        refine ev_iload_n dX6_applyModes_38 rfl 3 rfl ?_
        refine ev_callVi (x := mni (mj (σ 78) 70 ch) c (mnet (σ 78) c s)) dX6_applyModes_39 M_X6_82 Y_X6_membersIn [.int (mnet (σ 78) c s), .int (nI ch)] (c_X6_membersIn (mnet (σ 78) c s) ch c (by first | exact hcn | omega) (by first | exact hc1 | omega) (by first | exact hc6 | omega) (by omega)) (by decide) (Nat.le_of_ble_eq_true rfl) (by decide) sh_77 rfl rfl rfl (Nat.le_of_ble_eq_true rfl) ?_
        refine ev_callVi (x := oJ ((chk t (mni (mj (σ 78) 70 ch) c (mnet (σ 78) c s)) n 0 true false 0).1)) (σ' := av_set σ 77 (upd (σ 77) 5 (nI (chk t (mni (mj (σ 78) 70 ch) c (mnet (σ 78) c s)) n 0 true false 0).2))) dX6_applyModes_42 M_X6_149 Y_X6_check [.int (mni (mj (σ 78) 70 ch) c (mnet (σ 78) c s))] (c_X6_check (mni (mj (σ 78) 70 ch) c (mnet (σ 78) c s)) t n (by first | exact hn | omega) (by first | exact hn4 | omega) (by first | exact ht | omega)) (by decide) (Nat.le_of_ble_eq_true rfl) (by decide) sh_77 rfl rfl rfl (Nat.le_of_ble_eq_true rfl) ?_
        refine ev_top (v := (-9)) (by rw [he]; rfl) ?_
        refine ev_istore (lv' := [(4, .int (-9)), (0, .ref 77), (1, .int (nI s)), (2, .int (nI q)), (3, .int (nI ch))]) dX6_applyModes_45 (by decide) rfl ?_
        refine ev_iload dX6_applyModes_47 0 rfl ?_
        refine ev_bipush dX6_applyModes_49 (v := (-9)) (by decide) ?_
        refine ev_icmp_eq (tgt := 60) dX6_applyModes_51 (by decide) (fun h51 => ?_) (fun h51 => ?_)
        · refine ev_aload_n dX6_applyModes_60 rfl 1 rfl ?_
          refine ev_callVv dX6_applyModes_61 M_X6_69 Y_X6_save [] (c_X6_save u (by first | exact hu | omega) (by first | exact hu8 | omega)) (by decide) (Nat.le_of_ble_eq_true rfl) (by decide) sh_77 rfl rfl rfl (Nat.le_of_ble_eq_true rfl) ?_
          refine ev_st (σ' := av_set (av_set σ 77 (upd (upd (σ 77) 5 (nI (chk t (mni (mj (σ 78) 70 ch) c (mnet (σ 78) c s)) n 0 true false 0).2)) 2 (nI (svU u)))) 79 (svH (σ 79) (σ 78) u)) (by first | rfl | (funext a; by_cases q77 : a = 77; (next => subst q77; rfl); by_cases q79 : a = 79; (next => subst q79; rfl); simp only [av_set, q77, q79, if_false]) | exact av_set_set _ _ _ _ | (funext a; unfold av_set; (repeat' split) <;> first | rfl | (exfalso; omega)) | (funext a; simp only [av_set, cpS]; (repeat' split) <;> first | rfl | (exfalso; omega))) ?_
          refine ev_aload_n dX6_applyModes_64 rfl 1 rfl ?_
          refine ev_iload_n dX6_applyModes_65 rfl 2 rfl ?_
          refine ev_iload_n dX6_applyModes_66 rfl 4 rfl ?_
          refine ev_callVv dX6_applyModes_67 M_X6_152 Y_X6_applyText [.int (nI s), .int (nI ch)] (c_X6_applyText s ch t g n c (by omega) (by omega) (by first | exact hn | omega) (by first | exact hn4 | omega) (by first | exact ht | omega) hg (by first | exact hcn | omega) (by first | exact hc1 | omega) (by first | exact hc6 | omega)) (by decide) (Nat.le_of_ble_eq_true rfl) (by decide) sh_77 rfl rfl rfl (Nat.le_of_ble_eq_true rfl) ?_
          refine ev_st (σ' := av_set (av_set (av_set σ 77 (upd (upd (σ 77) 5 (nI (chk t (mni (mj (σ 78) 70 ch) c (mnet (σ 78) c s)) n 0 true false 0).2)) 2 (nI (svU u)))) 78 (msc (atx t g ch n (σ 78 (214 + 4 * s + ch), true, σ 78)).2.2 c (mnet (σ 78) c s) ch ((atx t g ch n (σ 78 (214 + 4 * s + ch), true, σ 78)).2.2 (190 + 4 * s + ch)) (atx t g ch n (σ 78 (214 + 4 * s + ch), true, σ 78)).1)) 79 (svH (σ 79) (σ 78) u)) (by first | rfl | (funext a; by_cases q77 : a = 77; (next => subst q77; rfl); by_cases q78 : a = 78; (next => subst q78; rfl); by_cases q79 : a = 79; (next => subst q79; rfl); simp only [av_set, q77, q78, q79, if_false]) | exact av_set_set _ _ _ _ | (funext a; unfold av_set; (repeat' split) <;> first | rfl | (exfalso; omega)) | (funext a; simp only [av_set, cpS]; (repeat' split) <;> first | rfl | (exfalso; omega))) ?_
          refine ev_aload_n dX6_applyModes_70 rfl 1 rfl ?_
          refine ev_iconst dX6_applyModes_71 (v := nI 0) (by decide) ?_
          refine ev_putI dX6_applyModes_72 C_X6 L_X6_133 (by decide) (by decide) sh_77 rfl rfl rfl ?_
          refine ev_st (σ' := av_set (av_set (av_set σ 77 (upd (upd (upd (σ 77) 5 (nI (chk t (mni (mj (σ 78) 70 ch) c (mnet (σ 78) c s)) n 0 true false 0).2)) 2 (nI (svU u))) 4 (nI 0))) 78 (msc (atx t g ch n (σ 78 (214 + 4 * s + ch), true, σ 78)).2.2 c (mnet (σ 78) c s) ch ((atx t g ch n (σ 78 (214 + 4 * s + ch), true, σ 78)).2.2 (190 + 4 * s + ch)) (atx t g ch n (σ 78 (214 + 4 * s + ch), true, σ 78)).1)) 79 (svH (σ 79) (σ 78) u)) (by first | rfl | (funext a; by_cases q77 : a = 77; (next => subst q77; rfl); by_cases q78 : a = 78; (next => subst q78; rfl); by_cases q79 : a = 79; (next => subst q79; rfl); simp only [av_set, q77, q78, q79, if_false]) | exact av_set_set _ _ _ _ | (funext a; unfold av_set; (repeat' split) <;> first | rfl | (exfalso; omega)) | (funext a; simp only [av_set, cpS]; (repeat' split) <;> first | rfl | (exfalso; omega))) ?_
          refine ev_aload_n dX6_applyModes_75 rfl 1 rfl ?_
          refine ev_getI dX6_applyModes_76 C_X6 L_X6_136 (by decide) (by decide) sh_77 rfl ?_
          refine ev_top (v := nI ((chk t (mni (mj (σ 78) 70 ch) c (mnet (σ 78) c s)) n 0 true false 0).2)) (by first | rfl | (simp only [av_set, cpS]; (repeat' split) <;> first | rfl | (exfalso; omega))) ?_
          exact ev_ireturn dX6_applyModes_79 rfl rfl (leafI hQ rfl rfl)
        · exact absurd rfl h51
      · exact absurd (ho0.symm.trans h25) (by decide)
    · exact absurd (hch1.symm.trans h13) (by decide)

set_option maxRecDepth 100000 in
set_option maxHeartbeats 1000000 in
theorem c_X6_members_bad {l : Launch} {σ : av_S} (x : Int32) (y : Int32) (c : Nat) (hx : (sv (nI c) x && sv (nI 4) y) = false) (hcn : σ 78 0 = nI c) (hc1 : 1 ≤ c) (hc6 : c ≤ 6) : av_M l RX6 cX6_members 3 (some .int) 2 [.ref 77, .int x, .int y] σ (some (.int (-1))) σ := by
  intro Q hQ
  show av_Ev l RX6 cX6_members 3 (some .int) av_E0 2 0 [(0, .ref 77), (1, .int x), (2, .int y)] [] σ Q
  refine ev_aload_n dX6_members_0 rfl 0 rfl ?_
  refine ev_iload_n dX6_members_1 rfl 1 rfl ?_
  refine ev_callVi (x := b2i (sv (nI c) x)) dX6_members_2 M_X6_46 Y_X6_isServer [.int x] (c_X6_isServer x c (by first | exact hcn | omega) (by first | exact hc1 | omega) (by first | exact hc6 | omega)) (by decide) (Nat.le_of_ble_eq_true rfl) (by decide) sh_77 rfl rfl rfl (Nat.le_of_ble_eq_true rfl) ?_
  refine ev_ifb_eq (tgt := 28) dX6_members_5 (by decide) (fun h5 => ?_) (fun h5 => ?_)
  · refine ev_iconst dX6_members_28 (v := (-1)) (by decide) ?_
    exact ev_ireturn dX6_members_29 rfl rfl (leafI hQ rfl rfl)
  · refine ev_iload_n dX6_members_8 rfl 2 rfl ?_
    refine ev_callSi (x := b2i (sv (nI 4) y)) dX6_members_9 (Or.inl M_X6_118) Y_X6_isChannel [.int y] (c_X6_isChannel y ) (by decide) (Nat.le_of_ble_eq_true rfl) rfl rfl (Nat.le_of_ble_eq_true rfl) ?_
    refine ev_ifb_eq (tgt := 28) dX6_members_12 (by decide) (fun h12 => ?_) (fun h12 => ?_)
    · refine ev_iconst dX6_members_28 (v := (-1)) (by decide) ?_
      exact ev_ireturn dX6_members_29 rfl rfl (leafI hQ rfl rfl)
    · exact absurd hx (by simp [h5, h12])

set_option maxRecDepth 100000 in
set_option maxHeartbeats 1000000 in
theorem c_X6_members_ok {l : Launch} {σ : av_S} (s : Nat) (ch : Nat) (c : Nat) (hs : s < 6) (hs1 : sv (nI c) (nI s) = true) (hch : ch < 4) (hch1 : sv (nI 4) (nI ch) = true) (hcn : σ 78 0 = nI c) (hc1 : 1 ≤ c) (hc6 : c ≤ 6) : av_M l RX6 cX6_members 3 (some .int) 3 [.ref 77, .int (nI s), .int (nI ch)] σ (some (.int (mni (mj (σ 78) 70 ch) c (mnet (σ 78) c s)))) σ := by
  intro Q hQ
  show av_Ev l RX6 cX6_members 3 (some .int) av_E0 3 0 [(0, .ref 77), (1, .int (nI s)), (2, .int (nI ch))] [] σ Q
  refine ev_aload_n dX6_members_0 rfl 0 rfl ?_
  refine ev_iload_n dX6_members_1 rfl 1 rfl ?_
  refine ev_callVi (x := b2i (sv (nI c) (nI s))) dX6_members_2 M_X6_46 Y_X6_isServer [.int (nI s)] (c_X6_isServer (nI s) c (by first | exact hcn | omega) (by first | exact hc1 | omega) (by first | exact hc6 | omega)) (by decide) (Nat.le_of_ble_eq_true rfl) (by decide) sh_77 rfl rfl rfl (Nat.le_of_ble_eq_true rfl) ?_
  refine ev_ifb_eq (tgt := 28) dX6_members_5 (by decide) (fun h5 => ?_) (fun h5 => ?_)
  · exact absurd (hs1.symm.trans h5) (by decide)
  · refine ev_iload_n dX6_members_8 rfl 2 rfl ?_
    refine ev_callSi (x := b2i (sv (nI 4) (nI ch))) dX6_members_9 (Or.inl M_X6_118) Y_X6_isChannel [.int (nI ch)] (c_X6_isChannel (nI ch) ) (by decide) (Nat.le_of_ble_eq_true rfl) rfl rfl (Nat.le_of_ble_eq_true rfl) ?_
    refine ev_ifb_eq (tgt := 28) dX6_members_12 (by decide) (fun h12 => ?_) (fun h12 => ?_)
    · exact absurd (hch1.symm.trans h12) (by decide)
    · refine ev_aload_n dX6_members_15 rfl 0 rfl ?_
      refine ev_aload_n dX6_members_16 rfl 0 rfl ?_
      refine ev_iload_n dX6_members_17 rfl 1 rfl ?_
      refine ev_callVi (x := mnet (σ 78) c s) dX6_members_18 M_X6_54 Y_X6_network [.int (nI s)] (c_X6_network s c (by omega) (by first | exact hcn | omega) (by first | exact hc1 | omega) (by first | exact hc6 | omega)) (by decide) (Nat.le_of_ble_eq_true rfl) (by decide) sh_77 rfl rfl rfl (Nat.le_of_ble_eq_true rfl) ?_
      refine ev_iload_n dX6_members_21 rfl 2 rfl ?_
      refine ev_callVi (x := mni (mj (σ 78) 70 ch) c (mnet (σ 78) c s)) dX6_members_22 M_X6_82 Y_X6_membersIn [.int (mnet (σ 78) c s), .int (nI ch)] (c_X6_membersIn (mnet (σ 78) c s) ch c (by first | exact hcn | omega) (by first | exact hc1 | omega) (by first | exact hc6 | omega) (by omega)) (by decide) (Nat.le_of_ble_eq_true rfl) (by decide) sh_77 rfl rfl rfl (Nat.le_of_ble_eq_true rfl) ?_
      refine ev_goto (tgt := 29) dX6_members_25 (by decide) ?_
      exact ev_ireturn dX6_members_29 rfl rfl (leafI hQ rfl rfl)

set_option maxRecDepth 100000 in
set_option maxHeartbeats 1000000 in
theorem c_X6_operators_bad {l : Launch} {σ : av_S} (x : Int32) (y : Int32) (c : Nat) (hx : (sv (nI c) x && sv (nI 4) y) = false) (hcn : σ 78 0 = nI c) (hc1 : 1 ≤ c) (hc6 : c ≤ 6) : av_M l RX6 cX6_operators 3 (some .int) 2 [.ref 77, .int x, .int y] σ (some (.int (-1))) σ := by
  intro Q hQ
  show av_Ev l RX6 cX6_operators 3 (some .int) av_E0 2 0 [(0, .ref 77), (1, .int x), (2, .int y)] [] σ Q
  refine ev_aload_n dX6_operators_0 rfl 0 rfl ?_
  refine ev_iload_n dX6_operators_1 rfl 1 rfl ?_
  refine ev_callVi (x := b2i (sv (nI c) x)) dX6_operators_2 M_X6_46 Y_X6_isServer [.int x] (c_X6_isServer x c (by first | exact hcn | omega) (by first | exact hc1 | omega) (by first | exact hc6 | omega)) (by decide) (Nat.le_of_ble_eq_true rfl) (by decide) sh_77 rfl rfl rfl (Nat.le_of_ble_eq_true rfl) ?_
  refine ev_ifb_eq (tgt := 31) dX6_operators_5 (by decide) (fun h5 => ?_) (fun h5 => ?_)
  · refine ev_iconst dX6_operators_31 (v := (-1)) (by decide) ?_
    exact ev_ireturn dX6_operators_32 rfl rfl (leafI hQ rfl rfl)
  · refine ev_iload_n dX6_operators_8 rfl 2 rfl ?_
    refine ev_callSi (x := b2i (sv (nI 4) y)) dX6_operators_9 (Or.inl M_X6_118) Y_X6_isChannel [.int y] (c_X6_isChannel y ) (by decide) (Nat.le_of_ble_eq_true rfl) rfl rfl (Nat.le_of_ble_eq_true rfl) ?_
    refine ev_ifb_eq (tgt := 31) dX6_operators_12 (by decide) (fun h12 => ?_) (fun h12 => ?_)
    · refine ev_iconst dX6_operators_31 (v := (-1)) (by decide) ?_
      exact ev_ireturn dX6_operators_32 rfl rfl (leafI hQ rfl rfl)
    · exact absurd hx (by simp [h5, h12])

set_option maxRecDepth 100000 in
set_option maxHeartbeats 1000000 in
theorem c_X6_operators_ok {l : Launch} {σ : av_S} (s : Nat) (ch : Nat) (c : Nat) (hs : s < 6) (hs1 : sv (nI c) (nI s) = true) (hch : ch < 4) (hch1 : sv (nI 4) (nI ch) = true) (hcn : σ 78 0 = nI c) (hc1 : 1 ≤ c) (hc6 : c ≤ 6) : av_M l RX6 cX6_operators 3 (some .int) 2 [.ref 77, .int (nI s), .int (nI ch)] σ (some (.int (mni (mj (σ 78) 130 ch) c (mnet (σ 78) c s)))) σ := by
  intro Q hQ
  show av_Ev l RX6 cX6_operators 3 (some .int) av_E0 2 0 [(0, .ref 77), (1, .int (nI s)), (2, .int (nI ch))] [] σ Q
  refine ev_aload_n dX6_operators_0 rfl 0 rfl ?_
  refine ev_iload_n dX6_operators_1 rfl 1 rfl ?_
  refine ev_callVi (x := b2i (sv (nI c) (nI s))) dX6_operators_2 M_X6_46 Y_X6_isServer [.int (nI s)] (c_X6_isServer (nI s) c (by first | exact hcn | omega) (by first | exact hc1 | omega) (by first | exact hc6 | omega)) (by decide) (Nat.le_of_ble_eq_true rfl) (by decide) sh_77 rfl rfl rfl (Nat.le_of_ble_eq_true rfl) ?_
  refine ev_ifb_eq (tgt := 31) dX6_operators_5 (by decide) (fun h5 => ?_) (fun h5 => ?_)
  · exact absurd (hs1.symm.trans h5) (by decide)
  · refine ev_iload_n dX6_operators_8 rfl 2 rfl ?_
    refine ev_callSi (x := b2i (sv (nI 4) (nI ch))) dX6_operators_9 (Or.inl M_X6_118) Y_X6_isChannel [.int (nI ch)] (c_X6_isChannel (nI ch) ) (by decide) (Nat.le_of_ble_eq_true rfl) rfl rfl (Nat.le_of_ble_eq_true rfl) ?_
    refine ev_ifb_eq (tgt := 31) dX6_operators_12 (by decide) (fun h12 => ?_) (fun h12 => ?_)
    · exact absurd (hch1.symm.trans h12) (by decide)
    · refine ev_aload_n dX6_operators_15 rfl 0 rfl ?_
      refine ev_aload_n dX6_operators_16 rfl 0 rfl ?_
      refine ev_iload_n dX6_operators_17 rfl 1 rfl ?_
      refine ev_callVi (x := mnet (σ 78) c s) dX6_operators_18 M_X6_54 Y_X6_network [.int (nI s)] (c_X6_network s c (by omega) (by first | exact hcn | omega) (by first | exact hc1 | omega) (by first | exact hc6 | omega)) (by decide) (Nat.le_of_ble_eq_true rfl) (by decide) sh_77 rfl rfl rfl (Nat.le_of_ble_eq_true rfl) ?_
      refine ev_sipush dX6_operators_21 (v := nI 130) (by decide) ?_
      refine ev_iload_n dX6_operators_24 rfl 2 rfl ?_
      refine ev_callVi (x := mni (mj (σ 78) 130 ch) c (mnet (σ 78) c s)) dX6_operators_25 M_X6_65 Y_X6_nicksIn [.int (mnet (σ 78) c s), .int (nI 130), .int (nI ch)] (c_X6_nicksIn_o (mnet (σ 78) c s) ch c (by first | exact hcn | omega) (by first | exact hc1 | omega) (by first | exact hc6 | omega) (by omega)) (by decide) (Nat.le_of_ble_eq_true rfl) (by decide) sh_77 rfl rfl rfl (Nat.le_of_ble_eq_true rfl) ?_
      refine ev_goto (tgt := 32) dX6_operators_28 (by decide) ?_
      exact ev_ireturn dX6_operators_32 rfl rfl (leafI hQ rfl rfl)

set_option maxRecDepth 100000 in
set_option maxHeartbeats 1000000 in
theorem c_X6_valueOf_bad214 {l : Launch} {σ : av_S} (x : Int32) (y : Int32) (c : Nat) (hx : (sv (nI c) x && sv (nI 4) y) = false) (hcn : σ 78 0 = nI c) (hc1 : 1 ≤ c) (hc6 : c ≤ 6) : av_M l RX6 cX6_valueOf 4 (some .int) 2 [.ref 77, .int (nI 214), .int x, .int y] σ (some (.int (-1))) σ := by
  intro Q hQ
  show av_Ev l RX6 cX6_valueOf 4 (some .int) av_E0 2 0 [(0, .ref 77), (1, .int (nI 214)), (2, .int x), (3, .int y)] [] σ Q
  refine ev_aload_n dX6_valueOf_0 rfl 0 rfl ?_
  refine ev_iload_n dX6_valueOf_1 rfl 2 rfl ?_
  refine ev_callVi (x := b2i (sv (nI c) x)) dX6_valueOf_2 M_X6_46 Y_X6_isServer [.int x] (c_X6_isServer x c (by first | exact hcn | omega) (by first | exact hc1 | omega) (by first | exact hc6 | omega)) (by decide) (Nat.le_of_ble_eq_true rfl) (by decide) sh_77 rfl rfl rfl (Nat.le_of_ble_eq_true rfl) ?_
  refine ev_ifb_eq (tgt := 15) dX6_valueOf_5 (by decide) (fun h5 => ?_) (fun h5 => ?_)
  · refine ev_iconst dX6_valueOf_15 (v := (-1)) (by decide) ?_
    exact ev_ireturn dX6_valueOf_16 rfl rfl (leafI hQ rfl rfl)
  · refine ev_iload_n dX6_valueOf_8 rfl 3 rfl ?_
    refine ev_callSi (x := b2i (sv (nI 4) y)) dX6_valueOf_9 (Or.inl M_X6_118) Y_X6_isChannel [.int y] (c_X6_isChannel y ) (by decide) (Nat.le_of_ble_eq_true rfl) rfl rfl (Nat.le_of_ble_eq_true rfl) ?_
    refine ev_ifb_ne (tgt := 17) dX6_valueOf_12 (by decide) (fun h12 => ?_) (fun h12 => ?_)
    · exact absurd hx (by simp [h5, h12])
    · refine ev_iconst dX6_valueOf_15 (v := (-1)) (by decide) ?_
      exact ev_ireturn dX6_valueOf_16 rfl rfl (leafI hQ rfl rfl)

set_option maxRecDepth 100000 in
set_option maxHeartbeats 1000000 in
theorem c_X6_valueOf_no214 {l : Launch} {σ : av_S} (s : Nat) (ch : Nat) (c : Nat) (hs : s < 6) (hs1 : sv (nI c) (nI s) = true) (hch : ch < 4) (hch1 : sv (nI 4) (nI ch) = true) (hz : mcm (σ 78) c s ch = 0) (hcn : σ 78 0 = nI c) (hc1 : 1 ≤ c) (hc6 : c ≤ 6) : av_M l RX6 cX6_valueOf 4 (some .int) 4 [.ref 77, .int (nI 214), .int (nI s), .int (nI ch)] σ (some (.int (-9))) σ := by
  intro Q hQ
  show av_Ev l RX6 cX6_valueOf 4 (some .int) av_E0 4 0 [(0, .ref 77), (1, .int (nI 214)), (2, .int (nI s)), (3, .int (nI ch))] [] σ Q
  refine ev_aload_n dX6_valueOf_0 rfl 0 rfl ?_
  refine ev_iload_n dX6_valueOf_1 rfl 2 rfl ?_
  refine ev_callVi (x := b2i (sv (nI c) (nI s))) dX6_valueOf_2 M_X6_46 Y_X6_isServer [.int (nI s)] (c_X6_isServer (nI s) c (by first | exact hcn | omega) (by first | exact hc1 | omega) (by first | exact hc6 | omega)) (by decide) (Nat.le_of_ble_eq_true rfl) (by decide) sh_77 rfl rfl rfl (Nat.le_of_ble_eq_true rfl) ?_
  refine ev_ifb_eq (tgt := 15) dX6_valueOf_5 (by decide) (fun h5 => ?_) (fun h5 => ?_)
  · exact absurd (hs1.symm.trans h5) (by decide)
  · refine ev_iload_n dX6_valueOf_8 rfl 3 rfl ?_
    refine ev_callSi (x := b2i (sv (nI 4) (nI ch))) dX6_valueOf_9 (Or.inl M_X6_118) Y_X6_isChannel [.int (nI ch)] (c_X6_isChannel (nI ch) ) (by decide) (Nat.le_of_ble_eq_true rfl) rfl rfl (Nat.le_of_ble_eq_true rfl) ?_
    refine ev_ifb_ne (tgt := 17) dX6_valueOf_12 (by decide) (fun h12 => ?_) (fun h12 => ?_)
    · refine ev_aload_n dX6_valueOf_17 rfl 0 rfl ?_
      refine ev_iload_n dX6_valueOf_18 rfl 2 rfl ?_
      refine ev_iload_n dX6_valueOf_19 rfl 3 rfl ?_
      refine ev_callVi (x := nI (mcm (σ 78) c s ch)) dX6_valueOf_20 M_X6_124 Y_X6_memberCount [.int (nI s), .int (nI ch)] (c_X6_memberCount s ch c (by omega) (by omega) (by first | exact hcn | omega) (by first | exact hc1 | omega) (by first | exact hc6 | omega)) (by decide) (Nat.le_of_ble_eq_true rfl) (by decide) sh_77 rfl rfl rfl (Nat.le_of_ble_eq_true rfl) ?_
      refine ev_nif_ne (tgt := 31) dX6_valueOf_23 (by decide) (by omega) (fun h23 => ?_) (fun h23 => ?_)
      · exact absurd h23 (by omega)
      · refine ev_bipush dX6_valueOf_26 (v := (-9)) (by decide) ?_
        refine ev_goto (tgt := 43) dX6_valueOf_28 (by decide) ?_
        exact ev_ireturn dX6_valueOf_43 rfl rfl (leafI hQ rfl rfl)
    · exact absurd (hch1.symm.trans h12) (by decide)

set_option maxRecDepth 100000 in
set_option maxHeartbeats 1000000 in
theorem c_X6_valueOf_ok214 {l : Launch} {σ : av_S} (s : Nat) (ch : Nat) (c : Nat) (hs : s < 6) (hs1 : sv (nI c) (nI s) = true) (hch : ch < 4) (hch1 : sv (nI 4) (nI ch) = true) (hz : 0 < mcm (σ 78) c s ch) (hz10 : mcm (σ 78) c s ch ≤ 10) (hcn : σ 78 0 = nI c) (hc1 : 1 ≤ c) (hc6 : c ≤ 6) : av_M l RX6 cX6_valueOf 4 (some .int) 4 [.ref 77, .int (nI 214), .int (nI s), .int (nI ch)] σ (some (.int (σ 78 (214 + 4 * s + ch)))) σ := by
  intro Q hQ
  show av_Ev l RX6 cX6_valueOf 4 (some .int) av_E0 4 0 [(0, .ref 77), (1, .int (nI 214)), (2, .int (nI s)), (3, .int (nI ch))] [] σ Q
  refine ev_aload_n dX6_valueOf_0 rfl 0 rfl ?_
  refine ev_iload_n dX6_valueOf_1 rfl 2 rfl ?_
  refine ev_callVi (x := b2i (sv (nI c) (nI s))) dX6_valueOf_2 M_X6_46 Y_X6_isServer [.int (nI s)] (c_X6_isServer (nI s) c (by first | exact hcn | omega) (by first | exact hc1 | omega) (by first | exact hc6 | omega)) (by decide) (Nat.le_of_ble_eq_true rfl) (by decide) sh_77 rfl rfl rfl (Nat.le_of_ble_eq_true rfl) ?_
  refine ev_ifb_eq (tgt := 15) dX6_valueOf_5 (by decide) (fun h5 => ?_) (fun h5 => ?_)
  · exact absurd (hs1.symm.trans h5) (by decide)
  · refine ev_iload_n dX6_valueOf_8 rfl 3 rfl ?_
    refine ev_callSi (x := b2i (sv (nI 4) (nI ch))) dX6_valueOf_9 (Or.inl M_X6_118) Y_X6_isChannel [.int (nI ch)] (c_X6_isChannel (nI ch) ) (by decide) (Nat.le_of_ble_eq_true rfl) rfl rfl (Nat.le_of_ble_eq_true rfl) ?_
    refine ev_ifb_ne (tgt := 17) dX6_valueOf_12 (by decide) (fun h12 => ?_) (fun h12 => ?_)
    · refine ev_aload_n dX6_valueOf_17 rfl 0 rfl ?_
      refine ev_iload_n dX6_valueOf_18 rfl 2 rfl ?_
      refine ev_iload_n dX6_valueOf_19 rfl 3 rfl ?_
      refine ev_callVi (x := nI (mcm (σ 78) c s ch)) dX6_valueOf_20 M_X6_124 Y_X6_memberCount [.int (nI s), .int (nI ch)] (c_X6_memberCount s ch c (by omega) (by omega) (by first | exact hcn | omega) (by first | exact hc1 | omega) (by first | exact hc6 | omega)) (by decide) (Nat.le_of_ble_eq_true rfl) (by decide) sh_77 rfl rfl rfl (Nat.le_of_ble_eq_true rfl) ?_
      refine ev_nif_ne (tgt := 31) dX6_valueOf_23 (by decide) (by omega) (fun h23 => ?_) (fun h23 => ?_)
      · refine ev_aload_n dX6_valueOf_31 rfl 0 rfl ?_
        refine ev_getR dX6_valueOf_32 C_X6 L_X6_7 (by decide) (by decide) sh_77 rfl ?_
        refine ev_iload_n dX6_valueOf_35 rfl 1 rfl ?_
        refine ev_iconst dX6_valueOf_36 (v := nI 4) (by decide) ?_
        refine ev_iload_n dX6_valueOf_37 rfl 2 rfl ?_
        refine ev_imul dX6_valueOf_38 ?_
        refine ev_top (v := nI (4 * s)) (pk_mul _ _) ?_
        refine ev_iadd dX6_valueOf_39 ?_
        refine ev_top (v := nI (214 + (4 * s))) (nI_add _ _) ?_
        refine ev_iload_n dX6_valueOf_40 rfl 3 rfl ?_
        refine ev_iadd dX6_valueOf_41 ?_
        refine ev_top (v := nI (214 + (4 * s) + ch)) (nI_add _ _) ?_
        refine ev_iald (e := 214 + (4 * s) + ch) (v := σ 78 (214 + (4 * s) + ch)) dX6_valueOf_42 (by decide) sh_78 (by omega) (by decide) rfl ?_
        exact ev_ireturn dX6_valueOf_43 rfl rfl (leafI hQ (by first | rfl | (simp [h5, h12, h23]; done)) rfl)
      · exact absurd h23 (by omega)
    · exact absurd (hch1.symm.trans h12) (by decide)

set_option maxRecDepth 100000 in
set_option maxHeartbeats 1000000 in
theorem c_X6_modes_bad {l : Launch} {σ : av_S} (x : Int32) (y : Int32) (c : Nat) (hx : (sv (nI c) x && sv (nI 4) y) = false) (hcn : σ 78 0 = nI c) (hc1 : 1 ≤ c) (hc6 : c ≤ 6) : av_M l RX6 cX6_modes 3 (some .int) 3 [.ref 77, .int x, .int y] σ (some (.int (-1))) σ := by
  intro Q hQ
  show av_Ev l RX6 cX6_modes 3 (some .int) av_E0 3 0 [(0, .ref 77), (1, .int x), (2, .int y)] [] σ Q
  refine ev_aload_n dX6_modes_0 rfl 0 rfl ?_
  refine ev_sipush dX6_modes_1 (v := nI 214) (by decide) ?_
  refine ev_iload_n dX6_modes_4 rfl 1 rfl ?_
  refine ev_iload_n dX6_modes_5 rfl 2 rfl ?_
  refine ev_callVi (x := (-1)) dX6_modes_6 M_X6_155 Y_X6_valueOf [.int (nI 214), .int x, .int y] (c_X6_valueOf_bad214 x y c hx (by first | exact hcn | omega) (by first | exact hc1 | omega) (by first | exact hc6 | omega)) (by decide) (Nat.le_of_ble_eq_true rfl) (by decide) sh_77 rfl rfl rfl (Nat.le_of_ble_eq_true rfl) ?_
  exact ev_ireturn dX6_modes_9 rfl rfl (leafI hQ rfl rfl)

set_option maxRecDepth 100000 in
set_option maxHeartbeats 1000000 in
theorem c_X6_modes_no {l : Launch} {σ : av_S} (s : Nat) (ch : Nat) (c : Nat) (hs : s < 6) (hs1 : sv (nI c) (nI s) = true) (hch : ch < 4) (hch1 : sv (nI 4) (nI ch) = true) (hz : mcm (σ 78) c s ch = 0) (hcn : σ 78 0 = nI c) (hc1 : 1 ≤ c) (hc6 : c ≤ 6) : av_M l RX6 cX6_modes 3 (some .int) 5 [.ref 77, .int (nI s), .int (nI ch)] σ (some (.int (-9))) σ := by
  intro Q hQ
  show av_Ev l RX6 cX6_modes 3 (some .int) av_E0 5 0 [(0, .ref 77), (1, .int (nI s)), (2, .int (nI ch))] [] σ Q
  refine ev_aload_n dX6_modes_0 rfl 0 rfl ?_
  refine ev_sipush dX6_modes_1 (v := nI 214) (by decide) ?_
  refine ev_iload_n dX6_modes_4 rfl 1 rfl ?_
  refine ev_iload_n dX6_modes_5 rfl 2 rfl ?_
  refine ev_callVi (x := (-9)) dX6_modes_6 M_X6_155 Y_X6_valueOf [.int (nI 214), .int (nI s), .int (nI ch)] (c_X6_valueOf_no214 s ch c (by omega) hs1 (by omega) hch1 hz (by first | exact hcn | omega) (by first | exact hc1 | omega) (by first | exact hc6 | omega)) (by decide) (Nat.le_of_ble_eq_true rfl) (by decide) sh_77 rfl rfl rfl (Nat.le_of_ble_eq_true rfl) ?_
  exact ev_ireturn dX6_modes_9 rfl rfl (leafI hQ rfl rfl)

set_option maxRecDepth 100000 in
set_option maxHeartbeats 1000000 in
theorem c_X6_modes_ok {l : Launch} {σ : av_S} (s : Nat) (ch : Nat) (c : Nat) (hs : s < 6) (hs1 : sv (nI c) (nI s) = true) (hch : ch < 4) (hch1 : sv (nI 4) (nI ch) = true) (hz : 0 < mcm (σ 78) c s ch) (hz10 : mcm (σ 78) c s ch ≤ 10) (hcn : σ 78 0 = nI c) (hc1 : 1 ≤ c) (hc6 : c ≤ 6) : av_M l RX6 cX6_modes 3 (some .int) 5 [.ref 77, .int (nI s), .int (nI ch)] σ (some (.int (σ 78 (214 + 4 * s + ch)))) σ := by
  intro Q hQ
  show av_Ev l RX6 cX6_modes 3 (some .int) av_E0 5 0 [(0, .ref 77), (1, .int (nI s)), (2, .int (nI ch))] [] σ Q
  refine ev_aload_n dX6_modes_0 rfl 0 rfl ?_
  refine ev_sipush dX6_modes_1 (v := nI 214) (by decide) ?_
  refine ev_iload_n dX6_modes_4 rfl 1 rfl ?_
  refine ev_iload_n dX6_modes_5 rfl 2 rfl ?_
  refine ev_callVi (x := σ 78 (214 + 4 * s + ch)) dX6_modes_6 M_X6_155 Y_X6_valueOf [.int (nI 214), .int (nI s), .int (nI ch)] (c_X6_valueOf_ok214 s ch c (by omega) hs1 (by omega) hch1 hz hz10 (by first | exact hcn | omega) (by first | exact hc1 | omega) (by first | exact hc6 | omega)) (by decide) (Nat.le_of_ble_eq_true rfl) (by decide) sh_77 rfl rfl rfl (Nat.le_of_ble_eq_true rfl) ?_
  exact ev_ireturn dX6_modes_9 rfl rfl (leafI hQ rfl rfl)

set_option maxRecDepth 100000 in
set_option maxHeartbeats 1000000 in
theorem c_X6_valueOf_bad190 {l : Launch} {σ : av_S} (x : Int32) (y : Int32) (c : Nat) (hx : (sv (nI c) x && sv (nI 4) y) = false) (hcn : σ 78 0 = nI c) (hc1 : 1 ≤ c) (hc6 : c ≤ 6) : av_M l RX6 cX6_valueOf 4 (some .int) 2 [.ref 77, .int (nI 190), .int x, .int y] σ (some (.int (-1))) σ := by
  intro Q hQ
  show av_Ev l RX6 cX6_valueOf 4 (some .int) av_E0 2 0 [(0, .ref 77), (1, .int (nI 190)), (2, .int x), (3, .int y)] [] σ Q
  refine ev_aload_n dX6_valueOf_0 rfl 0 rfl ?_
  refine ev_iload_n dX6_valueOf_1 rfl 2 rfl ?_
  refine ev_callVi (x := b2i (sv (nI c) x)) dX6_valueOf_2 M_X6_46 Y_X6_isServer [.int x] (c_X6_isServer x c (by first | exact hcn | omega) (by first | exact hc1 | omega) (by first | exact hc6 | omega)) (by decide) (Nat.le_of_ble_eq_true rfl) (by decide) sh_77 rfl rfl rfl (Nat.le_of_ble_eq_true rfl) ?_
  refine ev_ifb_eq (tgt := 15) dX6_valueOf_5 (by decide) (fun h5 => ?_) (fun h5 => ?_)
  · refine ev_iconst dX6_valueOf_15 (v := (-1)) (by decide) ?_
    exact ev_ireturn dX6_valueOf_16 rfl rfl (leafI hQ rfl rfl)
  · refine ev_iload_n dX6_valueOf_8 rfl 3 rfl ?_
    refine ev_callSi (x := b2i (sv (nI 4) y)) dX6_valueOf_9 (Or.inl M_X6_118) Y_X6_isChannel [.int y] (c_X6_isChannel y ) (by decide) (Nat.le_of_ble_eq_true rfl) rfl rfl (Nat.le_of_ble_eq_true rfl) ?_
    refine ev_ifb_ne (tgt := 17) dX6_valueOf_12 (by decide) (fun h12 => ?_) (fun h12 => ?_)
    · exact absurd hx (by simp [h5, h12])
    · refine ev_iconst dX6_valueOf_15 (v := (-1)) (by decide) ?_
      exact ev_ireturn dX6_valueOf_16 rfl rfl (leafI hQ rfl rfl)

set_option maxRecDepth 100000 in
set_option maxHeartbeats 1000000 in
theorem c_X6_valueOf_no190 {l : Launch} {σ : av_S} (s : Nat) (ch : Nat) (c : Nat) (hs : s < 6) (hs1 : sv (nI c) (nI s) = true) (hch : ch < 4) (hch1 : sv (nI 4) (nI ch) = true) (hz : mcm (σ 78) c s ch = 0) (hcn : σ 78 0 = nI c) (hc1 : 1 ≤ c) (hc6 : c ≤ 6) : av_M l RX6 cX6_valueOf 4 (some .int) 4 [.ref 77, .int (nI 190), .int (nI s), .int (nI ch)] σ (some (.int (-9))) σ := by
  intro Q hQ
  show av_Ev l RX6 cX6_valueOf 4 (some .int) av_E0 4 0 [(0, .ref 77), (1, .int (nI 190)), (2, .int (nI s)), (3, .int (nI ch))] [] σ Q
  refine ev_aload_n dX6_valueOf_0 rfl 0 rfl ?_
  refine ev_iload_n dX6_valueOf_1 rfl 2 rfl ?_
  refine ev_callVi (x := b2i (sv (nI c) (nI s))) dX6_valueOf_2 M_X6_46 Y_X6_isServer [.int (nI s)] (c_X6_isServer (nI s) c (by first | exact hcn | omega) (by first | exact hc1 | omega) (by first | exact hc6 | omega)) (by decide) (Nat.le_of_ble_eq_true rfl) (by decide) sh_77 rfl rfl rfl (Nat.le_of_ble_eq_true rfl) ?_
  refine ev_ifb_eq (tgt := 15) dX6_valueOf_5 (by decide) (fun h5 => ?_) (fun h5 => ?_)
  · exact absurd (hs1.symm.trans h5) (by decide)
  · refine ev_iload_n dX6_valueOf_8 rfl 3 rfl ?_
    refine ev_callSi (x := b2i (sv (nI 4) (nI ch))) dX6_valueOf_9 (Or.inl M_X6_118) Y_X6_isChannel [.int (nI ch)] (c_X6_isChannel (nI ch) ) (by decide) (Nat.le_of_ble_eq_true rfl) rfl rfl (Nat.le_of_ble_eq_true rfl) ?_
    refine ev_ifb_ne (tgt := 17) dX6_valueOf_12 (by decide) (fun h12 => ?_) (fun h12 => ?_)
    · refine ev_aload_n dX6_valueOf_17 rfl 0 rfl ?_
      refine ev_iload_n dX6_valueOf_18 rfl 2 rfl ?_
      refine ev_iload_n dX6_valueOf_19 rfl 3 rfl ?_
      refine ev_callVi (x := nI (mcm (σ 78) c s ch)) dX6_valueOf_20 M_X6_124 Y_X6_memberCount [.int (nI s), .int (nI ch)] (c_X6_memberCount s ch c (by omega) (by omega) (by first | exact hcn | omega) (by first | exact hc1 | omega) (by first | exact hc6 | omega)) (by decide) (Nat.le_of_ble_eq_true rfl) (by decide) sh_77 rfl rfl rfl (Nat.le_of_ble_eq_true rfl) ?_
      refine ev_nif_ne (tgt := 31) dX6_valueOf_23 (by decide) (by omega) (fun h23 => ?_) (fun h23 => ?_)
      · exact absurd h23 (by omega)
      · refine ev_bipush dX6_valueOf_26 (v := (-9)) (by decide) ?_
        refine ev_goto (tgt := 43) dX6_valueOf_28 (by decide) ?_
        exact ev_ireturn dX6_valueOf_43 rfl rfl (leafI hQ rfl rfl)
    · exact absurd (hch1.symm.trans h12) (by decide)

set_option maxRecDepth 100000 in
set_option maxHeartbeats 1000000 in
theorem c_X6_valueOf_ok190 {l : Launch} {σ : av_S} (s : Nat) (ch : Nat) (c : Nat) (hs : s < 6) (hs1 : sv (nI c) (nI s) = true) (hch : ch < 4) (hch1 : sv (nI 4) (nI ch) = true) (hz : 0 < mcm (σ 78) c s ch) (hz10 : mcm (σ 78) c s ch ≤ 10) (hcn : σ 78 0 = nI c) (hc1 : 1 ≤ c) (hc6 : c ≤ 6) : av_M l RX6 cX6_valueOf 4 (some .int) 4 [.ref 77, .int (nI 190), .int (nI s), .int (nI ch)] σ (some (.int (σ 78 (190 + 4 * s + ch)))) σ := by
  intro Q hQ
  show av_Ev l RX6 cX6_valueOf 4 (some .int) av_E0 4 0 [(0, .ref 77), (1, .int (nI 190)), (2, .int (nI s)), (3, .int (nI ch))] [] σ Q
  refine ev_aload_n dX6_valueOf_0 rfl 0 rfl ?_
  refine ev_iload_n dX6_valueOf_1 rfl 2 rfl ?_
  refine ev_callVi (x := b2i (sv (nI c) (nI s))) dX6_valueOf_2 M_X6_46 Y_X6_isServer [.int (nI s)] (c_X6_isServer (nI s) c (by first | exact hcn | omega) (by first | exact hc1 | omega) (by first | exact hc6 | omega)) (by decide) (Nat.le_of_ble_eq_true rfl) (by decide) sh_77 rfl rfl rfl (Nat.le_of_ble_eq_true rfl) ?_
  refine ev_ifb_eq (tgt := 15) dX6_valueOf_5 (by decide) (fun h5 => ?_) (fun h5 => ?_)
  · exact absurd (hs1.symm.trans h5) (by decide)
  · refine ev_iload_n dX6_valueOf_8 rfl 3 rfl ?_
    refine ev_callSi (x := b2i (sv (nI 4) (nI ch))) dX6_valueOf_9 (Or.inl M_X6_118) Y_X6_isChannel [.int (nI ch)] (c_X6_isChannel (nI ch) ) (by decide) (Nat.le_of_ble_eq_true rfl) rfl rfl (Nat.le_of_ble_eq_true rfl) ?_
    refine ev_ifb_ne (tgt := 17) dX6_valueOf_12 (by decide) (fun h12 => ?_) (fun h12 => ?_)
    · refine ev_aload_n dX6_valueOf_17 rfl 0 rfl ?_
      refine ev_iload_n dX6_valueOf_18 rfl 2 rfl ?_
      refine ev_iload_n dX6_valueOf_19 rfl 3 rfl ?_
      refine ev_callVi (x := nI (mcm (σ 78) c s ch)) dX6_valueOf_20 M_X6_124 Y_X6_memberCount [.int (nI s), .int (nI ch)] (c_X6_memberCount s ch c (by omega) (by omega) (by first | exact hcn | omega) (by first | exact hc1 | omega) (by first | exact hc6 | omega)) (by decide) (Nat.le_of_ble_eq_true rfl) (by decide) sh_77 rfl rfl rfl (Nat.le_of_ble_eq_true rfl) ?_
      refine ev_nif_ne (tgt := 31) dX6_valueOf_23 (by decide) (by omega) (fun h23 => ?_) (fun h23 => ?_)
      · refine ev_aload_n dX6_valueOf_31 rfl 0 rfl ?_
        refine ev_getR dX6_valueOf_32 C_X6 L_X6_7 (by decide) (by decide) sh_77 rfl ?_
        refine ev_iload_n dX6_valueOf_35 rfl 1 rfl ?_
        refine ev_iconst dX6_valueOf_36 (v := nI 4) (by decide) ?_
        refine ev_iload_n dX6_valueOf_37 rfl 2 rfl ?_
        refine ev_imul dX6_valueOf_38 ?_
        refine ev_top (v := nI (4 * s)) (pk_mul _ _) ?_
        refine ev_iadd dX6_valueOf_39 ?_
        refine ev_top (v := nI (190 + (4 * s))) (nI_add _ _) ?_
        refine ev_iload_n dX6_valueOf_40 rfl 3 rfl ?_
        refine ev_iadd dX6_valueOf_41 ?_
        refine ev_top (v := nI (190 + (4 * s) + ch)) (nI_add _ _) ?_
        refine ev_iald (e := 190 + (4 * s) + ch) (v := σ 78 (190 + (4 * s) + ch)) dX6_valueOf_42 (by decide) sh_78 (by omega) (by decide) rfl ?_
        exact ev_ireturn dX6_valueOf_43 rfl rfl (leafI hQ (by first | rfl | (simp [h5, h12, h23]; done)) rfl)
      · exact absurd h23 (by omega)
    · exact absurd (hch1.symm.trans h12) (by decide)

set_option maxRecDepth 100000 in
set_option maxHeartbeats 1000000 in
theorem c_X6_channelTimestamp_bad {l : Launch} {σ : av_S} (x : Int32) (y : Int32) (c : Nat) (hx : (sv (nI c) x && sv (nI 4) y) = false) (hcn : σ 78 0 = nI c) (hc1 : 1 ≤ c) (hc6 : c ≤ 6) : av_M l RX6 cX6_channelTimestamp 3 (some .int) 3 [.ref 77, .int x, .int y] σ (some (.int (-1))) σ := by
  intro Q hQ
  show av_Ev l RX6 cX6_channelTimestamp 3 (some .int) av_E0 3 0 [(0, .ref 77), (1, .int x), (2, .int y)] [] σ Q
  refine ev_aload_n dX6_channelTimestamp_0 rfl 0 rfl ?_
  refine ev_sipush dX6_channelTimestamp_1 (v := nI 190) (by decide) ?_
  refine ev_iload_n dX6_channelTimestamp_4 rfl 1 rfl ?_
  refine ev_iload_n dX6_channelTimestamp_5 rfl 2 rfl ?_
  refine ev_callVi (x := (-1)) dX6_channelTimestamp_6 M_X6_155 Y_X6_valueOf [.int (nI 190), .int x, .int y] (c_X6_valueOf_bad190 x y c hx (by first | exact hcn | omega) (by first | exact hc1 | omega) (by first | exact hc6 | omega)) (by decide) (Nat.le_of_ble_eq_true rfl) (by decide) sh_77 rfl rfl rfl (Nat.le_of_ble_eq_true rfl) ?_
  exact ev_ireturn dX6_channelTimestamp_9 rfl rfl (leafI hQ rfl rfl)

set_option maxRecDepth 100000 in
set_option maxHeartbeats 1000000 in
theorem c_X6_channelTimestamp_no {l : Launch} {σ : av_S} (s : Nat) (ch : Nat) (c : Nat) (hs : s < 6) (hs1 : sv (nI c) (nI s) = true) (hch : ch < 4) (hch1 : sv (nI 4) (nI ch) = true) (hz : mcm (σ 78) c s ch = 0) (hcn : σ 78 0 = nI c) (hc1 : 1 ≤ c) (hc6 : c ≤ 6) : av_M l RX6 cX6_channelTimestamp 3 (some .int) 5 [.ref 77, .int (nI s), .int (nI ch)] σ (some (.int (-9))) σ := by
  intro Q hQ
  show av_Ev l RX6 cX6_channelTimestamp 3 (some .int) av_E0 5 0 [(0, .ref 77), (1, .int (nI s)), (2, .int (nI ch))] [] σ Q
  refine ev_aload_n dX6_channelTimestamp_0 rfl 0 rfl ?_
  refine ev_sipush dX6_channelTimestamp_1 (v := nI 190) (by decide) ?_
  refine ev_iload_n dX6_channelTimestamp_4 rfl 1 rfl ?_
  refine ev_iload_n dX6_channelTimestamp_5 rfl 2 rfl ?_
  refine ev_callVi (x := (-9)) dX6_channelTimestamp_6 M_X6_155 Y_X6_valueOf [.int (nI 190), .int (nI s), .int (nI ch)] (c_X6_valueOf_no190 s ch c (by omega) hs1 (by omega) hch1 hz (by first | exact hcn | omega) (by first | exact hc1 | omega) (by first | exact hc6 | omega)) (by decide) (Nat.le_of_ble_eq_true rfl) (by decide) sh_77 rfl rfl rfl (Nat.le_of_ble_eq_true rfl) ?_
  exact ev_ireturn dX6_channelTimestamp_9 rfl rfl (leafI hQ rfl rfl)

set_option maxRecDepth 100000 in
set_option maxHeartbeats 1000000 in
theorem c_X6_channelTimestamp_ok {l : Launch} {σ : av_S} (s : Nat) (ch : Nat) (c : Nat) (hs : s < 6) (hs1 : sv (nI c) (nI s) = true) (hch : ch < 4) (hch1 : sv (nI 4) (nI ch) = true) (hz : 0 < mcm (σ 78) c s ch) (hz10 : mcm (σ 78) c s ch ≤ 10) (hcn : σ 78 0 = nI c) (hc1 : 1 ≤ c) (hc6 : c ≤ 6) : av_M l RX6 cX6_channelTimestamp 3 (some .int) 5 [.ref 77, .int (nI s), .int (nI ch)] σ (some (.int (σ 78 (190 + 4 * s + ch)))) σ := by
  intro Q hQ
  show av_Ev l RX6 cX6_channelTimestamp 3 (some .int) av_E0 5 0 [(0, .ref 77), (1, .int (nI s)), (2, .int (nI ch))] [] σ Q
  refine ev_aload_n dX6_channelTimestamp_0 rfl 0 rfl ?_
  refine ev_sipush dX6_channelTimestamp_1 (v := nI 190) (by decide) ?_
  refine ev_iload_n dX6_channelTimestamp_4 rfl 1 rfl ?_
  refine ev_iload_n dX6_channelTimestamp_5 rfl 2 rfl ?_
  refine ev_callVi (x := σ 78 (190 + 4 * s + ch)) dX6_channelTimestamp_6 M_X6_155 Y_X6_valueOf [.int (nI 190), .int (nI s), .int (nI ch)] (c_X6_valueOf_ok190 s ch c (by omega) hs1 (by omega) hch1 hz hz10 (by first | exact hcn | omega) (by first | exact hc1 | omega) (by first | exact hc6 | omega)) (by decide) (Nat.le_of_ble_eq_true rfl) (by decide) sh_77 rfl rfl rfl (Nat.le_of_ble_eq_true rfl) ?_
  exact ev_ireturn dX6_channelTimestamp_9 rfl rfl (leafI hQ rfl rfl)

set_option maxRecDepth 100000 in
set_option maxHeartbeats 1000000 in
theorem c_X6_lastDeprived {l : Launch} {σ : av_S}   : av_M l RX6 cX6_lastDeprived 1 (some .int) 0 [.ref 77] σ (some (.int (σ 78 2))) σ := by
  intro Q hQ
  show av_Ev l RX6 cX6_lastDeprived 1 (some .int) av_E0 0 0 [(0, .ref 77)] [] σ Q
  refine ev_aload_n dX6_lastDeprived_0 rfl 0 rfl ?_
  refine ev_getR dX6_lastDeprived_1 C_X6 L_X6_7 (by decide) (by decide) sh_77 rfl ?_
  refine ev_iconst dX6_lastDeprived_4 (v := nI 2) (by decide) ?_
  refine ev_iald (e := 2) (v := σ 78 2) dX6_lastDeprived_5 (by decide) sh_78 (by omega) (by decide) rfl ?_
  exact ev_ireturn dX6_lastDeprived_6 rfl rfl (leafI hQ rfl rfl)

set_option maxRecDepth 100000 in
set_option maxHeartbeats 1000000 in
theorem c_X6_lastDropped {l : Launch} {σ : av_S}   : av_M l RX6 cX6_lastDropped 1 (some .int) 0 [.ref 77] σ (some (.int (σ 78 3))) σ := by
  intro Q hQ
  show av_Ev l RX6 cX6_lastDropped 1 (some .int) av_E0 0 0 [(0, .ref 77)] [] σ Q
  refine ev_aload_n dX6_lastDropped_0 rfl 0 rfl ?_
  refine ev_getR dX6_lastDropped_1 C_X6 L_X6_7 (by decide) (by decide) sh_77 rfl ?_
  refine ev_iconst dX6_lastDropped_4 (v := nI 3) (by decide) ?_
  refine ev_iald (e := 3) (v := σ 78 3) dX6_lastDropped_5 (by decide) sh_78 (by omega) (by decide) rfl ?_
  exact ev_ireturn dX6_lastDropped_6 rfl rfl (leafI hQ rfl rfl)

set_option maxRecDepth 100000 in
set_option maxHeartbeats 1000000 in
theorem c_X6_burstOf {l : Launch} {σ : av_S} (s : Nat) (c : Nat) (hs : s < 6) (hcn : σ 78 0 = nI c) (hc1 : 1 ≤ c) (hc6 : c ≤ 6) : av_M l RX6 cX6_burstOf 6 (some .int) 3 [.ref 77, .int (nI s)] σ (some (.int (nI (mbu (σ 78) c s)))) σ := by
  intro Q hQ
  show av_Ev l RX6 cX6_burstOf 6 (some .int) av_E0 3 0 [(0, .ref 77), (1, .int (nI s))] [] σ Q
  refine ev_aload_n dX6_burstOf_0 rfl 0 rfl ?_
  refine ev_iload_n dX6_burstOf_1 rfl 1 rfl ?_
  refine ev_callVi (x := mnet (σ 78) c s) dX6_burstOf_2 M_X6_54 Y_X6_network [.int (nI s)] (c_X6_network s c (by omega) (by first | exact hcn | omega) (by first | exact hc1 | omega) (by first | exact hc6 | omega)) (by decide) (Nat.le_of_ble_eq_true rfl) (by decide) sh_77 rfl rfl rfl (Nat.le_of_ble_eq_true rfl) ?_
  refine ev_istore_n (lv' := [(2, .int (mnet (σ 78) c s)), (0, .ref 77), (1, .int (nI s))]) dX6_burstOf_5 rfl (by decide) rfl ?_
  refine ev_iload_n dX6_burstOf_6 rfl 0 rfl ?_
  refine ev_callSi (x := nI (cb 10 (mnet (σ 78) c s))) dX6_burstOf_7 (Or.inl M_X6_79) Y_X6_bitCount [.int (mnet (σ 78) c s)] (c_X6_bitCount (mnet (σ 78) c s) ) (by decide) (Nat.le_of_ble_eq_true rfl) rfl rfl (Nat.le_of_ble_eq_true rfl) ?_
  refine ev_aload_n dX6_burstOf_10 rfl 1 rfl ?_
  refine ev_iload_n dX6_burstOf_11 rfl 0 rfl ?_
  refine ev_bipush dX6_burstOf_12 (v := nI 10) (by decide) ?_
  refine ev_iconst dX6_burstOf_14 (v := nI 0) (by decide) ?_
  refine ev_callVi (x := mni (mus (σ 78)) c (mnet (σ 78) c s)) dX6_burstOf_15 M_X6_65 Y_X6_nicksIn [.int (mnet (σ 78) c s), .int (nI 10), .int (nI 0)] (c_X6_nicksIn_s (mnet (σ 78) c s) c (by first | exact hcn | omega) (by first | exact hc1 | omega) (by first | exact hc6 | omega)) (by decide) (Nat.le_of_ble_eq_true rfl) (by decide) sh_77 rfl rfl rfl (Nat.le_of_ble_eq_true rfl) ?_
  refine ev_callSi (x := nI (cb 10 (mni (mus (σ 78)) c (mnet (σ 78) c s)))) dX6_burstOf_18 (Or.inl M_X6_79) Y_X6_bitCount [.int (mni (mus (σ 78)) c (mnet (σ 78) c s))] (c_X6_bitCount (mni (mus (σ 78)) c (mnet (σ 78) c s)) ) (by decide) (Nat.le_of_ble_eq_true rfl) rfl rfl (Nat.le_of_ble_eq_true rfl) ?_
  refine ev_iadd dX6_burstOf_21 ?_
  refine ev_top (v := nI (cb 10 (mnet (σ 78) c s) + (cb 10 (mni (mus (σ 78)) c (mnet (σ 78) c s))))) (nI_add _ _) ?_
  refine ev_istore_n (lv' := [(3, .int (nI (cb 10 (mnet (σ 78) c s) + (cb 10 (mni (mus (σ 78)) c (mnet (σ 78) c s)))))), (2, .int (mnet (σ 78) c s)), (0, .ref 77), (1, .int (nI s))]) dX6_burstOf_22 rfl (by decide) rfl ?_
  refine ev_iconst dX6_burstOf_23 (v := nI 0) (by decide) ?_
  refine ev_istore (lv' := [(4, .int (nI 0)), (3, .int (nI (cb 10 (mnet (σ 78) c s) + (cb 10 (mni (mus (σ 78)) c (mnet (σ 78) c s)))))), (2, .int (mnet (σ 78) c s)), (0, .ref 77), (1, .int (nI s))]) dX6_burstOf_24 (by decide) rfl ?_
  refine ev_lv (lv' := [(0, .ref 77), (1, .int (nI s)), (2, .int (mnet (σ 78) c s)), (3, .int (nI (cb 10 (mnet (σ 78) c s) + (cb 10 (mni (mus (σ 78)) c (mnet (σ 78) c s)))))), (4, .int (nI 0))]) [3, 4, 2, 1, 0] rfl ?_
  refine loop_up (fun ch => av_Ev l RX6 cX6_burstOf 6 (some .int) av_E0 3 26 [(0, .ref 77), (1, .int (nI s)), (2, .int (mnet (σ 78) c s)), (3, .int (nI (fo ch (fun ch x => x + cb 10 (mni (mj (σ 78) 70 ch) c (mnet (σ 78) c s)) + (if cb 10 (mni (mj (σ 78) 70 ch) c (mnet (σ 78) c s)) = 0 then 0 else cb 10 (σ 78 (214 + 4 * s + ch)))) (cb 10 (mnet (σ 78) c s) + cb 10 (mni (mus (σ 78)) c (mnet (σ 78) c s)))))), (4, .int (nI ch))] [] σ Q) 4 ?_ ?_
  · show av_Ev l RX6 cX6_burstOf 6 (some .int) av_E0 3 26 [(0, .ref 77), (1, .int (nI s)), (2, .int (mnet (σ 78) c s)), (3, .int (nI (fo 4 (fun ch x => x + cb 10 (mni (mj (σ 78) 70 ch) c (mnet (σ 78) c s)) + (if cb 10 (mni (mj (σ 78) 70 ch) c (mnet (σ 78) c s)) = 0 then 0 else cb 10 (σ 78 (214 + 4 * s + ch)))) (cb 10 (mnet (σ 78) c s) + cb 10 (mni (mus (σ 78)) c (mnet (σ 78) c s)))))), (4, .int (nI 4))] [] σ Q
    refine ev_iload dX6_burstOf_26 4 rfl ?_
    refine ev_iconst dX6_burstOf_28 (v := nI 4) (by decide) ?_
    refine ev_ncmp_ge (tgt := 85) dX6_burstOf_29 (by decide) (by omega) (by omega) (fun h29 => ?_) (fun h29 => ?_)
    · refine ev_iload_n dX6_burstOf_85 rfl 3 rfl ?_
      exact ev_ireturn dX6_burstOf_86 rfl rfl (leafI hQ (by first | rfl | (simp [h29]; done)) rfl)
    · exact absurd h29 (by omega)
  · intro ch hch ihch
    show av_Ev l RX6 cX6_burstOf 6 (some .int) av_E0 3 26 [(0, .ref 77), (1, .int (nI s)), (2, .int (mnet (σ 78) c s)), (3, .int (nI (fo ch (fun ch x => x + cb 10 (mni (mj (σ 78) 70 ch) c (mnet (σ 78) c s)) + (if cb 10 (mni (mj (σ 78) 70 ch) c (mnet (σ 78) c s)) = 0 then 0 else cb 10 (σ 78 (214 + 4 * s + ch)))) (cb 10 (mnet (σ 78) c s) + cb 10 (mni (mus (σ 78)) c (mnet (σ 78) c s)))))), (4, .int (nI ch))] [] σ Q
    refine ev_iload dX6_burstOf_26 4 rfl ?_
    refine ev_iconst dX6_burstOf_28 (v := nI 4) (by decide) ?_
    refine ev_ncmp_ge (tgt := 85) dX6_burstOf_29 (by decide) (by omega) (by omega) (fun h29 => ?_) (fun h29 => ?_)
    · exact absurd h29 (by omega)
    · refine ev_aload_n dX6_burstOf_32 rfl 0 rfl ?_
      refine ev_iload_n dX6_burstOf_33 rfl 2 rfl ?_
      refine ev_iload dX6_burstOf_34 4 rfl ?_
      refine ev_callVi (x := mni (mj (σ 78) 70 ch) c (mnet (σ 78) c s)) dX6_burstOf_36 M_X6_82 Y_X6_membersIn [.int (mnet (σ 78) c s), .int (nI ch)] (c_X6_membersIn (mnet (σ 78) c s) ch c (by first | exact hcn | omega) (by first | exact hc1 | omega) (by first | exact hc6 | omega) (by omega)) (by decide) (Nat.le_of_ble_eq_true rfl) (by decide) sh_77 rfl rfl rfl (Nat.le_of_ble_eq_true rfl) ?_
      refine ev_callSi (x := nI (cb 10 (mni (mj (σ 78) 70 ch) c (mnet (σ 78) c s)))) dX6_burstOf_39 (Or.inl M_X6_79) Y_X6_bitCount [.int (mni (mj (σ 78) 70 ch) c (mnet (σ 78) c s))] (c_X6_bitCount (mni (mj (σ 78) 70 ch) c (mnet (σ 78) c s)) ) (by decide) (Nat.le_of_ble_eq_true rfl) rfl rfl (Nat.le_of_ble_eq_true rfl) ?_
      refine ev_istore (lv' := [(5, .int (nI (cb 10 (mni (mj (σ 78) 70 ch) c (mnet (σ 78) c s))))), (0, .ref 77), (1, .int (nI s)), (2, .int (mnet (σ 78) c s)), (3, .int (nI (fo ch (fun ch x => x + cb 10 (mni (mj (σ 78) 70 ch) c (mnet (σ 78) c s)) + (if cb 10 (mni (mj (σ 78) 70 ch) c (mnet (σ 78) c s)) = 0 then 0 else cb 10 (σ 78 (214 + 4 * s + ch)))) (cb 10 (mnet (σ 78) c s) + cb 10 (mni (mus (σ 78)) c (mnet (σ 78) c s)))))), (4, .int (nI ch))]) dX6_burstOf_42 (by decide) rfl ?_
      have hle9 := cb_le 10 (mni (mj (σ 78) 70 ch) c (mnet (σ 78) c s))
      refine ev_iload_n dX6_burstOf_44 rfl 4 rfl ?_
      refine ev_iload dX6_burstOf_45 0 rfl ?_
      refine ev_iadd dX6_burstOf_47 ?_
      refine ev_top (v := nI (fo ch (fun ch x => x + cb 10 (mni (mj (σ 78) 70 ch) c (mnet (σ 78) c s)) + (if cb 10 (mni (mj (σ 78) 70 ch) c (mnet (σ 78) c s)) = 0 then 0 else cb 10 (σ 78 (214 + 4 * s + ch)))) (cb 10 (mnet (σ 78) c s) + cb 10 (mni (mus (σ 78)) c (mnet (σ 78) c s))) + (cb 10 (mni (mj (σ 78) 70 ch) c (mnet (σ 78) c s))))) (nI_add _ _) ?_
      refine ev_istore_n (lv' := [(3, .int (nI (fo ch (fun ch x => x + cb 10 (mni (mj (σ 78) 70 ch) c (mnet (σ 78) c s)) + (if cb 10 (mni (mj (σ 78) 70 ch) c (mnet (σ 78) c s)) = 0 then 0 else cb 10 (σ 78 (214 + 4 * s + ch)))) (cb 10 (mnet (σ 78) c s) + cb 10 (mni (mus (σ 78)) c (mnet (σ 78) c s))) + (cb 10 (mni (mj (σ 78) 70 ch) c (mnet (σ 78) c s)))))), (5, .int (nI (cb 10 (mni (mj (σ 78) 70 ch) c (mnet (σ 78) c s))))), (0, .ref 77), (1, .int (nI s)), (2, .int (mnet (σ 78) c s)), (4, .int (nI ch))]) dX6_burstOf_48 rfl (by decide) rfl ?_
      refine ev_iload_n dX6_burstOf_49 rfl 0 rfl ?_
      refine ev_iload dX6_burstOf_50 1 rfl ?_
      refine ev_nif_le (tgt := 76) dX6_burstOf_52 (by decide) (by omega) (fun h52 => ?_) (fun h52 => ?_)
      · refine ev_iconst dX6_burstOf_76 (v := nI 0) (by decide) ?_
        refine ev_iadd dX6_burstOf_77 ?_
        refine ev_top (v := nI (fo ch (fun ch x => x + cb 10 (mni (mj (σ 78) 70 ch) c (mnet (σ 78) c s)) + (if cb 10 (mni (mj (σ 78) 70 ch) c (mnet (σ 78) c s)) = 0 then 0 else cb 10 (σ 78 (214 + 4 * s + ch)))) (cb 10 (mnet (σ 78) c s) + cb 10 (mni (mus (σ 78)) c (mnet (σ 78) c s))) + (cb 10 (mni (mj (σ 78) 70 ch) c (mnet (σ 78) c s))) + 0)) (nI_add _ _) ?_
        refine ev_istore_n (lv' := [(3, .int (nI (fo ch (fun ch x => x + cb 10 (mni (mj (σ 78) 70 ch) c (mnet (σ 78) c s)) + (if cb 10 (mni (mj (σ 78) 70 ch) c (mnet (σ 78) c s)) = 0 then 0 else cb 10 (σ 78 (214 + 4 * s + ch)))) (cb 10 (mnet (σ 78) c s) + cb 10 (mni (mus (σ 78)) c (mnet (σ 78) c s))) + (cb 10 (mni (mj (σ 78) 70 ch) c (mnet (σ 78) c s))) + 0))), (5, .int (nI (cb 10 (mni (mj (σ 78) 70 ch) c (mnet (σ 78) c s))))), (0, .ref 77), (1, .int (nI s)), (2, .int (mnet (σ 78) c s)), (4, .int (nI ch))]) dX6_burstOf_78 rfl (by decide) rfl ?_
        refine ev_iinc (lv' := [(4, .int (nI (ch + 1))), (3, .int (nI (fo ch (fun ch x => x + cb 10 (mni (mj (σ 78) 70 ch) c (mnet (σ 78) c s)) + (if cb 10 (mni (mj (σ 78) 70 ch) c (mnet (σ 78) c s)) = 0 then 0 else cb 10 (σ 78 (214 + 4 * s + ch)))) (cb 10 (mnet (σ 78) c s) + cb 10 (mni (mus (σ 78)) c (mnet (σ 78) c s))) + (cb 10 (mni (mj (σ 78) 70 ch) c (mnet (σ 78) c s))) + 0))), (5, .int (nI (cb 10 (mni (mj (σ 78) 70 ch) c (mnet (σ 78) c s))))), (0, .ref 77), (1, .int (nI s)), (2, .int (mnet (σ 78) c s))]) dX6_burstOf_79 5 rfl (nI_inc ch) (by decide) rfl ?_
        refine ev_goto (tgt := 26) dX6_burstOf_82 (by decide) ?_
        refine ev_lv (lv' := [(0, .ref 77), (1, .int (nI s)), (2, .int (mnet (σ 78) c s)), (3, .int (nI (fo ch (fun ch x => x + cb 10 (mni (mj (σ 78) 70 ch) c (mnet (σ 78) c s)) + (if cb 10 (mni (mj (σ 78) 70 ch) c (mnet (σ 78) c s)) = 0 then 0 else cb 10 (σ 78 (214 + 4 * s + ch)))) (cb 10 (mnet (σ 78) c s) + cb 10 (mni (mus (σ 78)) c (mnet (σ 78) c s))) + (cb 10 (mni (mj (σ 78) 70 ch) c (mnet (σ 78) c s))) + 0))), (4, .int (nI (ch + 1)))]) [3, 4, 5, 1, 0] rfl ?_
        have ih9 : av_Ev l RX6 cX6_burstOf 6 (some .int) av_E0 3 26 [(0, .ref 77), (1, .int (nI s)), (2, .int (mnet (σ 78) c s)), (3, .int (nI (fo (ch + 1) (fun ch x => x + cb 10 (mni (mj (σ 78) 70 ch) c (mnet (σ 78) c s)) + (if cb 10 (mni (mj (σ 78) 70 ch) c (mnet (σ 78) c s)) = 0 then 0 else cb 10 (σ 78 (214 + 4 * s + ch)))) (cb 10 (mnet (σ 78) c s) + cb 10 (mni (mus (σ 78)) c (mnet (σ 78) c s)))))), (4, .int (nI (ch + 1)))] [] σ Q := ihch
        rw [show nI (fo (ch + 1) (fun ch x => x + cb 10 (mni (mj (σ 78) 70 ch) c (mnet (σ 78) c s)) + (if cb 10 (mni (mj (σ 78) 70 ch) c (mnet (σ 78) c s)) = 0 then 0 else cb 10 (σ 78 (214 + 4 * s + ch)))) (cb 10 (mnet (σ 78) c s) + cb 10 (mni (mus (σ 78)) c (mnet (σ 78) c s)))) = nI (fo ch (fun ch x => x + cb 10 (mni (mj (σ 78) 70 ch) c (mnet (σ 78) c s)) + (if cb 10 (mni (mj (σ 78) 70 ch) c (mnet (σ 78) c s)) = 0 then 0 else cb 10 (σ 78 (214 + 4 * s + ch)))) (cb 10 (mnet (σ 78) c s) + cb 10 (mni (mus (σ 78)) c (mnet (σ 78) c s))) + (cb 10 (mni (mj (σ 78) 70 ch) c (mnet (σ 78) c s))) + 0) from (by rw [fo_s]; first | rw [if_pos h52] | rw [if_neg h52])] at ih9
        exact ih9
      · refine ev_aload_n dX6_burstOf_55 rfl 2 rfl ?_
        refine ev_getR dX6_burstOf_56 C_X6 L_X6_7 (by decide) (by decide) sh_77 rfl ?_
        refine ev_sipush dX6_burstOf_59 (v := nI 214) (by decide) ?_
        refine ev_iconst dX6_burstOf_62 (v := nI 4) (by decide) ?_
        refine ev_iload_n dX6_burstOf_63 rfl 3 rfl ?_
        refine ev_imul dX6_burstOf_64 ?_
        refine ev_top (v := nI (4 * s)) (pk_mul _ _) ?_
        refine ev_iadd dX6_burstOf_65 ?_
        refine ev_top (v := nI (214 + (4 * s))) (nI_add _ _) ?_
        refine ev_iload dX6_burstOf_66 5 rfl ?_
        refine ev_iadd dX6_burstOf_68 ?_
        refine ev_top (v := nI (214 + (4 * s) + ch)) (nI_add _ _) ?_
        refine ev_iald (e := 214 + (4 * s) + ch) (v := σ 78 (214 + (4 * s) + ch)) dX6_burstOf_69 (by decide) sh_78 (by omega) (by decide) rfl ?_
        refine ev_callSi (x := nI (cb 10 (σ 78 (214 + (4 * s) + ch)))) dX6_burstOf_70 (Or.inl M_X6_79) Y_X6_bitCount [.int (σ 78 (214 + (4 * s) + ch))] (c_X6_bitCount (σ 78 (214 + (4 * s) + ch)) ) (by decide) (Nat.le_of_ble_eq_true rfl) rfl rfl (Nat.le_of_ble_eq_true rfl) ?_
        refine ev_goto (tgt := 77) dX6_burstOf_73 (by decide) ?_
        refine ev_iadd dX6_burstOf_77 ?_
        refine ev_top (v := nI (fo ch (fun ch x => x + cb 10 (mni (mj (σ 78) 70 ch) c (mnet (σ 78) c s)) + (if cb 10 (mni (mj (σ 78) 70 ch) c (mnet (σ 78) c s)) = 0 then 0 else cb 10 (σ 78 (214 + 4 * s + ch)))) (cb 10 (mnet (σ 78) c s) + cb 10 (mni (mus (σ 78)) c (mnet (σ 78) c s))) + (cb 10 (mni (mj (σ 78) 70 ch) c (mnet (σ 78) c s))) + (cb 10 (σ 78 (214 + (4 * s) + ch))))) (nI_add _ _) ?_
        refine ev_istore_n (lv' := [(3, .int (nI (fo ch (fun ch x => x + cb 10 (mni (mj (σ 78) 70 ch) c (mnet (σ 78) c s)) + (if cb 10 (mni (mj (σ 78) 70 ch) c (mnet (σ 78) c s)) = 0 then 0 else cb 10 (σ 78 (214 + 4 * s + ch)))) (cb 10 (mnet (σ 78) c s) + cb 10 (mni (mus (σ 78)) c (mnet (σ 78) c s))) + (cb 10 (mni (mj (σ 78) 70 ch) c (mnet (σ 78) c s))) + (cb 10 (σ 78 (214 + (4 * s) + ch)))))), (5, .int (nI (cb 10 (mni (mj (σ 78) 70 ch) c (mnet (σ 78) c s))))), (0, .ref 77), (1, .int (nI s)), (2, .int (mnet (σ 78) c s)), (4, .int (nI ch))]) dX6_burstOf_78 rfl (by decide) rfl ?_
        refine ev_iinc (lv' := [(4, .int (nI (ch + 1))), (3, .int (nI (fo ch (fun ch x => x + cb 10 (mni (mj (σ 78) 70 ch) c (mnet (σ 78) c s)) + (if cb 10 (mni (mj (σ 78) 70 ch) c (mnet (σ 78) c s)) = 0 then 0 else cb 10 (σ 78 (214 + 4 * s + ch)))) (cb 10 (mnet (σ 78) c s) + cb 10 (mni (mus (σ 78)) c (mnet (σ 78) c s))) + (cb 10 (mni (mj (σ 78) 70 ch) c (mnet (σ 78) c s))) + (cb 10 (σ 78 (214 + (4 * s) + ch)))))), (5, .int (nI (cb 10 (mni (mj (σ 78) 70 ch) c (mnet (σ 78) c s))))), (0, .ref 77), (1, .int (nI s)), (2, .int (mnet (σ 78) c s))]) dX6_burstOf_79 5 rfl (nI_inc ch) (by decide) rfl ?_
        refine ev_goto (tgt := 26) dX6_burstOf_82 (by decide) ?_
        refine ev_lv (lv' := [(0, .ref 77), (1, .int (nI s)), (2, .int (mnet (σ 78) c s)), (3, .int (nI (fo ch (fun ch x => x + cb 10 (mni (mj (σ 78) 70 ch) c (mnet (σ 78) c s)) + (if cb 10 (mni (mj (σ 78) 70 ch) c (mnet (σ 78) c s)) = 0 then 0 else cb 10 (σ 78 (214 + 4 * s + ch)))) (cb 10 (mnet (σ 78) c s) + cb 10 (mni (mus (σ 78)) c (mnet (σ 78) c s))) + (cb 10 (mni (mj (σ 78) 70 ch) c (mnet (σ 78) c s))) + (cb 10 (σ 78 (214 + (4 * s) + ch)))))), (4, .int (nI (ch + 1)))]) [3, 4, 5, 1, 0] rfl ?_
        have ih9 : av_Ev l RX6 cX6_burstOf 6 (some .int) av_E0 3 26 [(0, .ref 77), (1, .int (nI s)), (2, .int (mnet (σ 78) c s)), (3, .int (nI (fo (ch + 1) (fun ch x => x + cb 10 (mni (mj (σ 78) 70 ch) c (mnet (σ 78) c s)) + (if cb 10 (mni (mj (σ 78) 70 ch) c (mnet (σ 78) c s)) = 0 then 0 else cb 10 (σ 78 (214 + 4 * s + ch)))) (cb 10 (mnet (σ 78) c s) + cb 10 (mni (mus (σ 78)) c (mnet (σ 78) c s)))))), (4, .int (nI (ch + 1)))] [] σ Q := ihch
        rw [show nI (fo (ch + 1) (fun ch x => x + cb 10 (mni (mj (σ 78) 70 ch) c (mnet (σ 78) c s)) + (if cb 10 (mni (mj (σ 78) 70 ch) c (mnet (σ 78) c s)) = 0 then 0 else cb 10 (σ 78 (214 + 4 * s + ch)))) (cb 10 (mnet (σ 78) c s) + cb 10 (mni (mus (σ 78)) c (mnet (σ 78) c s)))) = nI (fo ch (fun ch x => x + cb 10 (mni (mj (σ 78) 70 ch) c (mnet (σ 78) c s)) + (if cb 10 (mni (mj (σ 78) 70 ch) c (mnet (σ 78) c s)) = 0 then 0 else cb 10 (σ 78 (214 + 4 * s + ch)))) (cb 10 (mnet (σ 78) c s) + cb 10 (mni (mus (σ 78)) c (mnet (σ 78) c s))) + (cb 10 (mni (mj (σ 78) 70 ch) c (mnet (σ 78) c s))) + (cb 10 (σ 78 (214 + (4 * s) + ch)))) from (by rw [fo_s]; first | rw [if_pos h52] | rw [if_neg h52])] at ih9
        exact ih9

set_option maxRecDepth 100000 in
set_option maxHeartbeats 1000000 in
theorem c_X6_fe_bad {l : Launch} {σ : av_S} (x : Int32) (y : Int32) (c : Nat) (hx : (sv (nI c) x && sv (nI c) y) = false) (hcn : σ 78 0 = nI c) (hc1 : 1 ≤ c) (hc6 : c ≤ 6) : av_M l RX6 cX6_forecastError 3 (some .int) 3 [.ref 77, .int x, .int y] σ (some (.int (-1))) σ := by
  intro Q hQ
  show av_Ev l RX6 cX6_forecastError 3 (some .int) av_E0 3 0 [(0, .ref 77), (1, .int x), (2, .int y)] [] σ Q
  refine ev_aload_n dX6_forecastError_0 rfl 0 rfl ?_
  refine ev_iload_n dX6_forecastError_1 rfl 1 rfl ?_
  refine ev_iload_n dX6_forecastError_2 rfl 2 rfl ?_
  refine ev_callVi (x := b2i (sv (nI c) x && sv (nI c) y)) dX6_forecastError_3 M_X6_92 Y_X6_areServers [.int x, .int y] (c_X6_areServers x y c (by first | exact hcn | omega) (by first | exact hc1 | omega) (by first | exact hc6 | omega)) (by decide) (Nat.le_of_ble_eq_true rfl) (by decide) sh_77 rfl rfl rfl (Nat.le_of_ble_eq_true rfl) ?_
  refine ev_ifb_ne (tgt := 13) dX6_forecastError_6 (by decide) (fun h6 => ?_) (fun h6 => ?_)
  · exact absurd (hx.symm.trans h6) (by decide)
  · refine ev_iconst dX6_forecastError_9 (v := (-1)) (by decide) ?_
    refine ev_goto (tgt := 28) dX6_forecastError_10 (by decide) ?_
    exact ev_ireturn dX6_forecastError_28 rfl rfl (leafI hQ rfl rfl)

set_option maxRecDepth 100000 in
set_option maxHeartbeats 1000000 in
theorem c_X6_fe_st {l : Launch} {σ : av_S} (a : Nat) (b : Nat) (c : Nat) (ha : a < 6) (hb : b < 6) (hs : (sv (nI c) (nI a) && sv (nI c) (nI b)) = true) (hsh : tb (mnet (σ 78) c a) b = true) (hcn : σ 78 0 = nI c) (hc1 : 1 ≤ c) (hc6 : c ≤ 6) : av_M l RX6 cX6_forecastError 3 (some .int) 3 [.ref 77, .int (nI a), .int (nI b)] σ (some (.int (-2))) σ := by
  intro Q hQ
  show av_Ev l RX6 cX6_forecastError 3 (some .int) av_E0 3 0 [(0, .ref 77), (1, .int (nI a)), (2, .int (nI b))] [] σ Q
  refine ev_aload_n dX6_forecastError_0 rfl 0 rfl ?_
  refine ev_iload_n dX6_forecastError_1 rfl 1 rfl ?_
  refine ev_iload_n dX6_forecastError_2 rfl 2 rfl ?_
  refine ev_callVi (x := b2i (sv (nI c) (nI a) && sv (nI c) (nI b))) dX6_forecastError_3 M_X6_92 Y_X6_areServers [.int (nI a), .int (nI b)] (c_X6_areServers (nI a) (nI b) c (by first | exact hcn | omega) (by first | exact hc1 | omega) (by first | exact hc6 | omega)) (by decide) (Nat.le_of_ble_eq_true rfl) (by decide) sh_77 rfl rfl rfl (Nat.le_of_ble_eq_true rfl) ?_
  refine ev_ifb_ne (tgt := 13) dX6_forecastError_6 (by decide) (fun h6 => ?_) (fun h6 => ?_)
  · refine ev_aload_n dX6_forecastError_13 rfl 0 rfl ?_
    refine ev_iload_n dX6_forecastError_14 rfl 1 rfl ?_
    refine ev_iload_n dX6_forecastError_15 rfl 2 rfl ?_
    refine ev_callVi (x := b2i (tb (mnet (σ 78) c a) b)) dX6_forecastError_16 M_X6_95 Y_X6_areConnected [.int (nI a), .int (nI b)] (c_X6_areConnected a b c (by omega) (by omega) (by first | exact hcn | omega) (by first | exact hc1 | omega) (by first | exact hc6 | omega)) (by decide) (Nat.le_of_ble_eq_true rfl) (by decide) sh_77 rfl rfl rfl (Nat.le_of_ble_eq_true rfl) ?_
    refine ev_ifb_eq (tgt := 27) dX6_forecastError_19 (by decide) (fun h19 => ?_) (fun h19 => ?_)
    · exact absurd (hsh.symm.trans h19) (by decide)
    · refine ev_bipush dX6_forecastError_22 (v := (-2)) (by decide) ?_
      refine ev_goto (tgt := 28) dX6_forecastError_24 (by decide) ?_
      exact ev_ireturn dX6_forecastError_28 rfl rfl (leafI hQ rfl rfl)
  · exact absurd (hs.symm.trans h6) (by decide)

set_option maxRecDepth 100000 in
set_option maxHeartbeats 1000000 in
theorem c_X6_fe_ok {l : Launch} {σ : av_S} (a : Nat) (b : Nat) (c : Nat) (ha : a < 6) (hb : b < 6) (hs : (sv (nI c) (nI a) && sv (nI c) (nI b)) = true) (hsh : tb (mnet (σ 78) c a) b = false) (hcn : σ 78 0 = nI c) (hc1 : 1 ≤ c) (hc6 : c ≤ 6) : av_M l RX6 cX6_forecastError 3 (some .int) 3 [.ref 77, .int (nI a), .int (nI b)] σ (some (.int (nI 0))) σ := by
  intro Q hQ
  show av_Ev l RX6 cX6_forecastError 3 (some .int) av_E0 3 0 [(0, .ref 77), (1, .int (nI a)), (2, .int (nI b))] [] σ Q
  refine ev_aload_n dX6_forecastError_0 rfl 0 rfl ?_
  refine ev_iload_n dX6_forecastError_1 rfl 1 rfl ?_
  refine ev_iload_n dX6_forecastError_2 rfl 2 rfl ?_
  refine ev_callVi (x := b2i (sv (nI c) (nI a) && sv (nI c) (nI b))) dX6_forecastError_3 M_X6_92 Y_X6_areServers [.int (nI a), .int (nI b)] (c_X6_areServers (nI a) (nI b) c (by first | exact hcn | omega) (by first | exact hc1 | omega) (by first | exact hc6 | omega)) (by decide) (Nat.le_of_ble_eq_true rfl) (by decide) sh_77 rfl rfl rfl (Nat.le_of_ble_eq_true rfl) ?_
  refine ev_ifb_ne (tgt := 13) dX6_forecastError_6 (by decide) (fun h6 => ?_) (fun h6 => ?_)
  · refine ev_aload_n dX6_forecastError_13 rfl 0 rfl ?_
    refine ev_iload_n dX6_forecastError_14 rfl 1 rfl ?_
    refine ev_iload_n dX6_forecastError_15 rfl 2 rfl ?_
    refine ev_callVi (x := b2i (tb (mnet (σ 78) c a) b)) dX6_forecastError_16 M_X6_95 Y_X6_areConnected [.int (nI a), .int (nI b)] (c_X6_areConnected a b c (by omega) (by omega) (by first | exact hcn | omega) (by first | exact hc1 | omega) (by first | exact hc6 | omega)) (by decide) (Nat.le_of_ble_eq_true rfl) (by decide) sh_77 rfl rfl rfl (Nat.le_of_ble_eq_true rfl) ?_
    refine ev_ifb_eq (tgt := 27) dX6_forecastError_19 (by decide) (fun h19 => ?_) (fun h19 => ?_)
    · refine ev_iconst dX6_forecastError_27 (v := nI 0) (by decide) ?_
      exact ev_ireturn dX6_forecastError_28 rfl rfl (leafI hQ rfl rfl)
    · exact absurd (hsh.symm.trans h19) (by decide)
  · exact absurd (hs.symm.trans h6) (by decide)

set_option maxRecDepth 100000 in
set_option maxHeartbeats 1000000 in
theorem c_X6_usersOutside {l : Launch} {σ : av_S} (S : Int32) (c : Nat) (hcn : σ 78 0 = nI c) (hc1 : 1 ≤ c) (hc6 : c ≤ 6) : av_M l RX6 cX6_usersOutside 4 (some .int) 2 [.ref 77, .int S] σ (some (.int (nI (mou (σ 78) c S)))) σ := by
  intro Q hQ
  show av_Ev l RX6 cX6_usersOutside 4 (some .int) av_E0 2 0 [(0, .ref 77), (1, .int S)] [] σ Q
  refine ev_iconst dX6_usersOutside_0 (v := nI 0) (by decide) ?_
  refine ev_istore_n (lv' := [(2, .int (nI 0)), (0, .ref 77), (1, .int S)]) dX6_usersOutside_1 rfl (by decide) rfl ?_
  refine ev_iconst dX6_usersOutside_2 (v := nI 0) (by decide) ?_
  refine ev_istore_n (lv' := [(3, .int (nI 0)), (2, .int (nI 0)), (0, .ref 77), (1, .int S)]) dX6_usersOutside_3 rfl (by decide) rfl ?_
  refine ev_lv (lv' := [(0, .ref 77), (1, .int S), (2, .int (nI 0)), (3, .int (nI 0))]) [2, 3, 1, 0] rfl ?_
  refine loop_up (fun k => av_Ev l RX6 cX6_usersOutside 4 (some .int) av_E0 2 4 [(0, .ref 77), (1, .int S), (2, .int (nI (fo k (fun h x => x + (bif tb S h then 0 else cb 10 (mni (mus (σ 78)) c (bt h)))) 0))), (3, .int (nI k))] [] σ Q) c ?_ ?_
  · show av_Ev l RX6 cX6_usersOutside 4 (some .int) av_E0 2 4 [(0, .ref 77), (1, .int S), (2, .int (nI (fo c (fun h x => x + (bif tb S h then 0 else cb 10 (mni (mus (σ 78)) c (bt h)))) 0))), (3, .int (nI c))] [] σ Q
    refine ev_iload_n dX6_usersOutside_4 rfl 3 rfl ?_
    refine ev_aload_n dX6_usersOutside_5 rfl 0 rfl ?_
    refine ev_getR dX6_usersOutside_6 C_X6 L_X6_7 (by decide) (by decide) sh_77 rfl ?_
    refine ev_iconst dX6_usersOutside_9 (v := nI 0) (by decide) ?_
    refine ev_iald (e := 0) (v := σ 78 0) dX6_usersOutside_10 (by decide) sh_78 (by omega) (by decide) rfl ?_
    refine ev_top (v := nI c) hcn ?_
    refine ev_ncmp_ge (tgt := 48) dX6_usersOutside_11 (by decide) (by omega) (by omega) (fun h11 => ?_) (fun h11 => ?_)
    · refine ev_iload_n dX6_usersOutside_48 rfl 2 rfl ?_
      exact ev_ireturn dX6_usersOutside_49 rfl rfl (leafI hQ (by first | rfl | (simp [h11]; done)) rfl)
    · exact absurd h11 (by omega)
  · intro k hk ihk
    show av_Ev l RX6 cX6_usersOutside 4 (some .int) av_E0 2 4 [(0, .ref 77), (1, .int S), (2, .int (nI (fo k (fun h x => x + (bif tb S h then 0 else cb 10 (mni (mus (σ 78)) c (bt h)))) 0))), (3, .int (nI k))] [] σ Q
    refine ev_iload_n dX6_usersOutside_4 rfl 3 rfl ?_
    refine ev_aload_n dX6_usersOutside_5 rfl 0 rfl ?_
    refine ev_getR dX6_usersOutside_6 C_X6 L_X6_7 (by decide) (by decide) sh_77 rfl ?_
    refine ev_iconst dX6_usersOutside_9 (v := nI 0) (by decide) ?_
    refine ev_iald (e := 0) (v := σ 78 0) dX6_usersOutside_10 (by decide) sh_78 (by omega) (by decide) rfl ?_
    refine ev_top (v := nI c) hcn ?_
    refine ev_ncmp_ge (tgt := 48) dX6_usersOutside_11 (by decide) (by omega) (by omega) (fun h11 => ?_) (fun h11 => ?_)
    · exact absurd h11 (by omega)
    · refine ev_iload_n dX6_usersOutside_14 rfl 2 rfl ?_
      refine ev_iload_n dX6_usersOutside_15 rfl 1 rfl ?_
      refine ev_iload_n dX6_usersOutside_16 rfl 3 rfl ?_
      refine ev_callSi (x := b2i (tb S k)) dX6_usersOutside_17 (Or.inl M_X6_50) Y_X6_has [.int S, .int (nI k)] (c_X6_has S k (by omega)) (by decide) (Nat.le_of_ble_eq_true rfl) rfl rfl (Nat.le_of_ble_eq_true rfl) ?_
      refine ev_ifb_eq (tgt := 27) dX6_usersOutside_20 (by decide) (fun h20 => ?_) (fun h20 => ?_)
      · refine ev_aload_n dX6_usersOutside_27 rfl 0 rfl ?_
        refine ev_iconst dX6_usersOutside_28 (v := nI 1) (by decide) ?_
        refine ev_iload_n dX6_usersOutside_29 rfl 3 rfl ?_
        refine ev_ishl dX6_usersOutside_30 ?_
        refine ev_top (v := bt k) rfl ?_
        refine ev_bipush dX6_usersOutside_31 (v := nI 10) (by decide) ?_
        refine ev_iconst dX6_usersOutside_33 (v := nI 0) (by decide) ?_
        refine ev_callVi (x := mni (mus (σ 78)) c (bt k)) dX6_usersOutside_34 M_X6_65 Y_X6_nicksIn [.int (bt k), .int (nI 10), .int (nI 0)] (c_X6_nicksIn_s (bt k) c (by first | exact hcn | omega) (by first | exact hc1 | omega) (by first | exact hc6 | omega)) (by decide) (Nat.le_of_ble_eq_true rfl) (by decide) sh_77 rfl rfl rfl (Nat.le_of_ble_eq_true rfl) ?_
        refine ev_callSi (x := nI (cb 10 (mni (mus (σ 78)) c (bt k)))) dX6_usersOutside_37 (Or.inl M_X6_79) Y_X6_bitCount [.int (mni (mus (σ 78)) c (bt k))] (c_X6_bitCount (mni (mus (σ 78)) c (bt k)) ) (by decide) (Nat.le_of_ble_eq_true rfl) rfl rfl (Nat.le_of_ble_eq_true rfl) ?_
        refine ev_iadd dX6_usersOutside_40 ?_
        refine ev_top (v := nI (fo k (fun h x => x + (bif tb S h then 0 else cb 10 (mni (mus (σ 78)) c (bt h)))) 0 + (cb 10 (mni (mus (σ 78)) c (bt k))))) (nI_add _ _) ?_
        refine ev_istore_n (lv' := [(2, .int (nI (fo k (fun h x => x + (bif tb S h then 0 else cb 10 (mni (mus (σ 78)) c (bt h)))) 0 + (cb 10 (mni (mus (σ 78)) c (bt k)))))), (0, .ref 77), (1, .int S), (3, .int (nI k))]) dX6_usersOutside_41 rfl (by decide) rfl ?_
        refine ev_iinc (lv' := [(3, .int (nI (k + 1))), (2, .int (nI (fo k (fun h x => x + (bif tb S h then 0 else cb 10 (mni (mus (σ 78)) c (bt h)))) 0 + (cb 10 (mni (mus (σ 78)) c (bt k)))))), (0, .ref 77), (1, .int S)]) dX6_usersOutside_42 3 rfl (nI_inc k) (by decide) rfl ?_
        refine ev_goto (tgt := 4) dX6_usersOutside_45 (by decide) ?_
        refine ev_lv (lv' := [(0, .ref 77), (1, .int S), (2, .int (nI (fo k (fun h x => x + (bif tb S h then 0 else cb 10 (mni (mus (σ 78)) c (bt h)))) 0 + (cb 10 (mni (mus (σ 78)) c (bt k)))))), (3, .int (nI (k + 1)))]) [2, 3, 1, 0] rfl ?_
        have ih9 : av_Ev l RX6 cX6_usersOutside 4 (some .int) av_E0 2 4 [(0, .ref 77), (1, .int S), (2, .int (nI (fo (k + 1) (fun h x => x + (bif tb S h then 0 else cb 10 (mni (mus (σ 78)) c (bt h)))) 0))), (3, .int (nI (k + 1)))] [] σ Q := ihk
        rw [show nI (fo (k + 1) (fun h x => x + (bif tb S h then 0 else cb 10 (mni (mus (σ 78)) c (bt h)))) 0) = nI (fo k (fun h x => x + (bif tb S h then 0 else cb 10 (mni (mus (σ 78)) c (bt h)))) 0 + (cb 10 (mni (mus (σ 78)) c (bt k)))) from (by rw [fo_s, h20]; rfl)] at ih9
        exact ih9
      · refine ev_iconst dX6_usersOutside_23 (v := nI 0) (by decide) ?_
        refine ev_goto (tgt := 40) dX6_usersOutside_24 (by decide) ?_
        refine ev_iadd dX6_usersOutside_40 ?_
        refine ev_top (v := nI (fo k (fun h x => x + (bif tb S h then 0 else cb 10 (mni (mus (σ 78)) c (bt h)))) 0 + 0)) (nI_add _ _) ?_
        refine ev_istore_n (lv' := [(2, .int (nI (fo k (fun h x => x + (bif tb S h then 0 else cb 10 (mni (mus (σ 78)) c (bt h)))) 0 + 0))), (0, .ref 77), (1, .int S), (3, .int (nI k))]) dX6_usersOutside_41 rfl (by decide) rfl ?_
        refine ev_iinc (lv' := [(3, .int (nI (k + 1))), (2, .int (nI (fo k (fun h x => x + (bif tb S h then 0 else cb 10 (mni (mus (σ 78)) c (bt h)))) 0 + 0))), (0, .ref 77), (1, .int S)]) dX6_usersOutside_42 3 rfl (nI_inc k) (by decide) rfl ?_
        refine ev_goto (tgt := 4) dX6_usersOutside_45 (by decide) ?_
        refine ev_lv (lv' := [(0, .ref 77), (1, .int S), (2, .int (nI (fo k (fun h x => x + (bif tb S h then 0 else cb 10 (mni (mus (σ 78)) c (bt h)))) 0 + 0))), (3, .int (nI (k + 1)))]) [2, 3, 1, 0] rfl ?_
        have ih9 : av_Ev l RX6 cX6_usersOutside 4 (some .int) av_E0 2 4 [(0, .ref 77), (1, .int S), (2, .int (nI (fo (k + 1) (fun h x => x + (bif tb S h then 0 else cb 10 (mni (mus (σ 78)) c (bt h)))) 0))), (3, .int (nI (k + 1)))] [] σ Q := ihk
        rw [show nI (fo (k + 1) (fun h x => x + (bif tb S h then 0 else cb 10 (mni (mus (σ 78)) c (bt h)))) 0) = nI (fo k (fun h x => x + (bif tb S h then 0 else cb 10 (mni (mus (σ 78)) c (bt h)))) 0 + 0) from (by rw [fo_s, h20]; rfl)] at ih9
        exact ih9

set_option maxRecDepth 100000 in
set_option maxHeartbeats 1000000 in
theorem c_X6_lostIfDisconnected_bad {l : Launch} {σ : av_S} (x : Int32) (y : Int32) (c : Nat) (hx : (sv (nI c) x && sv (nI c) y) = false) (hcn : σ 78 0 = nI c) (hc1 : 1 ≤ c) (hc6 : c ≤ 6) : av_M l RX6 cX6_lostIfDisconnected 5 (some .int) 3 [.ref 77, .int x, .int y] σ (some (.int (-1))) σ := by
  intro Q hQ
  show av_Ev l RX6 cX6_lostIfDisconnected 5 (some .int) av_E0 3 0 [(0, .ref 77), (1, .int x), (2, .int y)] [] σ Q
  refine ev_aload_n dX6_lostIfDisconnected_0 rfl 0 rfl ?_
  refine ev_iload_n dX6_lostIfDisconnected_1 rfl 1 rfl ?_
  refine ev_iload_n dX6_lostIfDisconnected_2 rfl 2 rfl ?_
  refine ev_callVi (x := b2i (sv (nI c) x && sv (nI c) y)) dX6_lostIfDisconnected_3 M_X6_92 Y_X6_areServers [.int x, .int y] (c_X6_areServers x y c (by first | exact hcn | omega) (by first | exact hc1 | omega) (by first | exact hc6 | omega)) (by decide) (Nat.le_of_ble_eq_true rfl) (by decide) sh_77 rfl rfl rfl (Nat.le_of_ble_eq_true rfl) ?_
  refine ev_ifb_ne (tgt := 11) dX6_lostIfDisconnected_6 (by decide) (fun h6 => ?_) (fun h6 => ?_)
  · exact absurd hx (by simp [h6])
  · refine ev_iconst dX6_lostIfDisconnected_9 (v := (-1)) (by decide) ?_
    exact ev_ireturn dX6_lostIfDisconnected_10 rfl rfl (leafI hQ rfl rfl)

set_option maxRecDepth 100000 in
set_option maxHeartbeats 1000000 in
theorem c_X6_lost_st {l : Launch} {σ : av_S} (a : Nat) (b : Nat) (c : Nat) (ha : a < 6) (hb : b < 6) (hs : (sv (nI c) (nI a) && sv (nI c) (nI b)) = true) (hsh : tb (σ 78 (4 + a)) b = false) (hcn : σ 78 0 = nI c) (hc1 : 1 ≤ c) (hc6 : c ≤ 6) : av_M l RX6 cX6_lostIfDisconnected 5 (some .int) 3 [.ref 77, .int (nI a), .int (nI b)] σ (some (.int (-2))) σ := by
  intro Q hQ
  show av_Ev l RX6 cX6_lostIfDisconnected 5 (some .int) av_E0 3 0 [(0, .ref 77), (1, .int (nI a)), (2, .int (nI b))] [] σ Q
  refine ev_aload_n dX6_lostIfDisconnected_0 rfl 0 rfl ?_
  refine ev_iload_n dX6_lostIfDisconnected_1 rfl 1 rfl ?_
  refine ev_iload_n dX6_lostIfDisconnected_2 rfl 2 rfl ?_
  refine ev_callVi (x := b2i (sv (nI c) (nI a) && sv (nI c) (nI b))) dX6_lostIfDisconnected_3 M_X6_92 Y_X6_areServers [.int (nI a), .int (nI b)] (c_X6_areServers (nI a) (nI b) c (by first | exact hcn | omega) (by first | exact hc1 | omega) (by first | exact hc6 | omega)) (by decide) (Nat.le_of_ble_eq_true rfl) (by decide) sh_77 rfl rfl rfl (Nat.le_of_ble_eq_true rfl) ?_
  refine ev_ifb_ne (tgt := 11) dX6_lostIfDisconnected_6 (by decide) (fun h6 => ?_) (fun h6 => ?_)
  · refine ev_aload_n dX6_lostIfDisconnected_11 rfl 0 rfl ?_
    refine ev_iload_n dX6_lostIfDisconnected_12 rfl 1 rfl ?_
    refine ev_iload_n dX6_lostIfDisconnected_13 rfl 2 rfl ?_
    refine ev_callVi (x := b2i (tb (σ 78 (4 + a)) b)) dX6_lostIfDisconnected_14 M_X6_109 Y_X6_areLinked [.int (nI a), .int (nI b)] (c_X6_areLinked a b (by omega) (by omega)) (by decide) (Nat.le_of_ble_eq_true rfl) (by decide) sh_77 rfl rfl rfl (Nat.le_of_ble_eq_true rfl) ?_
    refine ev_ifb_ne (tgt := 23) dX6_lostIfDisconnected_17 (by decide) (fun h17 => ?_) (fun h17 => ?_)
    · exact absurd (hsh.symm.trans h17) (by decide)
    · refine ev_bipush dX6_lostIfDisconnected_20 (v := (-2)) (by decide) ?_
      exact ev_ireturn dX6_lostIfDisconnected_22 rfl rfl (leafI hQ rfl rfl)
  · exact absurd (hs.symm.trans h6) (by decide)

set_option maxRecDepth 100000 in
set_option maxHeartbeats 1000000 in
theorem c_X6_lost_ok {l : Launch} {σ : av_S} (a : Nat) (b : Nat) (c : Nat) (ha : a < 6) (hb : b < 6) (hs : (sv (nI c) (nI a) && sv (nI c) (nI b)) = true) (hsh : tb (σ 78 (4 + a)) b = true) (hcn : σ 78 0 = nI c) (hc1 : 1 ≤ c) (hc6 : c ≤ 6) : av_M l RX6 cX6_lostIfDisconnected 5 (some .int) 3 [.ref 77, .int (nI a), .int (nI b)] σ (some (.int (nI (mou (mlk (σ 78) a b false) c (mnet (mlk (σ 78) a b false) c 0)) - nI (mou (σ 78) c (mnet (σ 78) c 0))))) (av_set σ 78 (mlk (mlk (σ 78) a b false) a b true)) := by
  intro Q hQ
  show av_Ev l RX6 cX6_lostIfDisconnected 5 (some .int) av_E0 3 0 [(0, .ref 77), (1, .int (nI a)), (2, .int (nI b))] [] σ Q
  refine ev_aload_n dX6_lostIfDisconnected_0 rfl 0 rfl ?_
  refine ev_iload_n dX6_lostIfDisconnected_1 rfl 1 rfl ?_
  refine ev_iload_n dX6_lostIfDisconnected_2 rfl 2 rfl ?_
  refine ev_callVi (x := b2i (sv (nI c) (nI a) && sv (nI c) (nI b))) dX6_lostIfDisconnected_3 M_X6_92 Y_X6_areServers [.int (nI a), .int (nI b)] (c_X6_areServers (nI a) (nI b) c (by first | exact hcn | omega) (by first | exact hc1 | omega) (by first | exact hc6 | omega)) (by decide) (Nat.le_of_ble_eq_true rfl) (by decide) sh_77 rfl rfl rfl (Nat.le_of_ble_eq_true rfl) ?_
  refine ev_ifb_ne (tgt := 11) dX6_lostIfDisconnected_6 (by decide) (fun h6 => ?_) (fun h6 => ?_)
  · refine ev_aload_n dX6_lostIfDisconnected_11 rfl 0 rfl ?_
    refine ev_iload_n dX6_lostIfDisconnected_12 rfl 1 rfl ?_
    refine ev_iload_n dX6_lostIfDisconnected_13 rfl 2 rfl ?_
    refine ev_callVi (x := b2i (tb (σ 78 (4 + a)) b)) dX6_lostIfDisconnected_14 M_X6_109 Y_X6_areLinked [.int (nI a), .int (nI b)] (c_X6_areLinked a b (by omega) (by omega)) (by decide) (Nat.le_of_ble_eq_true rfl) (by decide) sh_77 rfl rfl rfl (Nat.le_of_ble_eq_true rfl) ?_
    refine ev_ifb_ne (tgt := 23) dX6_lostIfDisconnected_17 (by decide) (fun h17 => ?_) (fun h17 => ?_)
    · refine ev_aload_n dX6_lostIfDisconnected_23 rfl 0 rfl ?_
      refine ev_aload_n dX6_lostIfDisconnected_24 rfl 0 rfl ?_
      refine ev_iconst dX6_lostIfDisconnected_25 (v := nI 0) (by decide) ?_
      refine ev_callVi (x := mnet (σ 78) c 0) dX6_lostIfDisconnected_26 M_X6_54 Y_X6_network [.int (nI 0)] (c_X6_network 0 c (by omega) (by first | exact hcn | omega) (by first | exact hc1 | omega) (by first | exact hc6 | omega)) (by decide) (Nat.le_of_ble_eq_true rfl) (by decide) sh_77 rfl rfl rfl (Nat.le_of_ble_eq_true rfl) ?_
      refine ev_callVi (x := nI (mou (σ 78) c (mnet (σ 78) c 0))) dX6_lostIfDisconnected_29 M_X6_170 Y_X6_usersOutside [.int (mnet (σ 78) c 0)] (c_X6_usersOutside (mnet (σ 78) c 0) c (by first | exact hcn | omega) (by first | exact hc1 | omega) (by first | exact hc6 | omega)) (by decide) (Nat.le_of_ble_eq_true rfl) (by decide) sh_77 rfl rfl rfl (Nat.le_of_ble_eq_true rfl) ?_
      refine ev_istore_n (lv' := [(3, .int (nI (mou (σ 78) c (mnet (σ 78) c 0)))), (0, .ref 77), (1, .int (nI a)), (2, .int (nI b))]) dX6_lostIfDisconnected_32 rfl (by decide) rfl ?_
      refine ev_aload_n dX6_lostIfDisconnected_33 rfl 1 rfl ?_
      refine ev_iload_n dX6_lostIfDisconnected_34 rfl 2 rfl ?_
      refine ev_iload_n dX6_lostIfDisconnected_35 rfl 3 rfl ?_
      refine ev_iconst dX6_lostIfDisconnected_36 (v := nI 0) (by decide) ?_
      refine ev_callVv (σ' := av_set σ 78 (mlk (σ 78) a b false)) dX6_lostIfDisconnected_37 M_X6_105 Y_X6_setLink [.int (nI a), .int (nI b), .int (b2i false)] (c_X6_setLink a b false (by omega) (by omega)) (by decide) (Nat.le_of_ble_eq_true rfl) (by decide) sh_77 rfl rfl rfl (Nat.le_of_ble_eq_true rfl) ?_
      refine ev_aload_n dX6_lostIfDisconnected_40 rfl 1 rfl ?_
      refine ev_aload_n dX6_lostIfDisconnected_41 rfl 1 rfl ?_
      refine ev_iconst dX6_lostIfDisconnected_42 (v := nI 0) (by decide) ?_
      refine ev_callVi (x := mnet (mlk (σ 78) a b false) c 0) dX6_lostIfDisconnected_43 M_X6_54 Y_X6_network [.int (nI 0)] (c_X6_network 0 c (by omega) ((mlk_0 (by decide)).trans hcn) (by first | exact hc1 | omega) (by first | exact hc6 | omega)) (by decide) (Nat.le_of_ble_eq_true rfl) (by decide) sh_77 rfl rfl rfl (Nat.le_of_ble_eq_true rfl) ?_
      refine ev_callVi (x := nI (mou (mlk (σ 78) a b false) c (mnet (mlk (σ 78) a b false) c 0))) dX6_lostIfDisconnected_46 M_X6_170 Y_X6_usersOutside [.int (mnet (mlk (σ 78) a b false) c 0)] (c_X6_usersOutside (mnet (mlk (σ 78) a b false) c 0) c ((mlk_0 (by decide)).trans hcn) (by first | exact hc1 | omega) (by first | exact hc6 | omega)) (by decide) (Nat.le_of_ble_eq_true rfl) (by decide) sh_77 rfl rfl rfl (Nat.le_of_ble_eq_true rfl) ?_
      refine ev_istore (lv' := [(4, .int (nI (mou (mlk (σ 78) a b false) c (mnet (mlk (σ 78) a b false) c 0)))), (3, .int (nI (mou (σ 78) c (mnet (σ 78) c 0)))), (0, .ref 77), (1, .int (nI a)), (2, .int (nI b))]) dX6_lostIfDisconnected_49 (by decide) rfl ?_
      refine ev_aload_n dX6_lostIfDisconnected_51 rfl 2 rfl ?_
      refine ev_iload_n dX6_lostIfDisconnected_52 rfl 3 rfl ?_
      refine ev_iload_n dX6_lostIfDisconnected_53 rfl 4 rfl ?_
      refine ev_iconst dX6_lostIfDisconnected_54 (v := nI 1) (by decide) ?_
      refine ev_callVv dX6_lostIfDisconnected_55 M_X6_105 Y_X6_setLink [.int (nI a), .int (nI b), .int (b2i true)] (c_X6_setLink a b true (by omega) (by omega)) (by decide) (Nat.le_of_ble_eq_true rfl) (by decide) sh_77 rfl rfl rfl (Nat.le_of_ble_eq_true rfl) ?_
      refine ev_st (σ' := av_set σ 78 (mlk (mlk (σ 78) a b false) a b true)) (by first | rfl | (funext a; by_cases q78 : a = 78; (next => subst q78; rfl); simp only [av_set, q78, if_false]) | exact av_set_set _ _ _ _ | (funext a; unfold av_set; (repeat' split) <;> first | rfl | (exfalso; omega)) | (funext a; simp only [av_set, cpS]; (repeat' split) <;> first | rfl | (exfalso; omega))) ?_
      refine ev_iload dX6_lostIfDisconnected_58 0 rfl ?_
      refine ev_iload_n dX6_lostIfDisconnected_60 rfl 1 rfl ?_
      refine ev_isub dX6_lostIfDisconnected_61 ?_
      exact ev_ireturn dX6_lostIfDisconnected_62 rfl rfl (leafI hQ (by first | rfl | (simp [h6, h17]; done)) rfl)
    · exact absurd (hsh.symm.trans h17) (by decide)
  · exact absurd (hs.symm.trans h6) (by decide)

set_option maxRecDepth 100000 in
set_option maxHeartbeats 1000000 in
theorem c_X6_groupCell {l : Launch} {σ : av_S} (v : Nat) (g : Nat)  : av_M l RX6 cX6_groupCell 2 (some .int) 0 [.int (nI v), .int (nI g)] σ (some (.int (nI (60 * v + 10 * g)))) σ := by
  intro Q hQ
  show av_Ev l RX6 cX6_groupCell 2 (some .int) av_E0 0 0 [(0, .int (nI v)), (1, .int (nI g))] [] σ Q
  refine ev_bipush dX6_groupCell_0 (v := nI 60) (by decide) ?_
  refine ev_iload_n dX6_groupCell_2 rfl 0 rfl ?_
  refine ev_imul dX6_groupCell_3 ?_
  refine ev_top (v := nI (60 * v)) (pk_mul _ _) ?_
  refine ev_bipush dX6_groupCell_4 (v := nI 10) (by decide) ?_
  refine ev_iload_n dX6_groupCell_6 rfl 1 rfl ?_
  refine ev_imul dX6_groupCell_7 ?_
  refine ev_top (v := nI (10 * g)) (pk_mul _ _) ?_
  refine ev_iadd dX6_groupCell_8 ?_
  refine ev_top (v := nI (60 * v + (10 * g))) (nI_add _ _) ?_
  exact ev_ireturn dX6_groupCell_9 rfl rfl (leafI hQ (by first | rfl | (simp []; done)) rfl)

set_option maxRecDepth 100000 in
set_option maxHeartbeats 1000000 in
theorem c_X6_readGroup {l : Launch} {σ : av_S} (g : Nat) (S : Int32) (c : Nat) (hg : g < 6) (hcn : σ 78 0 = nI c) (hc1 : 1 ≤ c) (hc6 : c ≤ 6) : av_M l RX6 cX6_readGroup 5 none 3 [.ref 77, .int (nI g), .int S] σ none (av_set σ 81 (rgp (σ 78) c g S (σ 81))) := by
  intro Q hQ
  show av_Ev l RX6 cX6_readGroup 5 none av_E0 3 0 [(0, .ref 77), (1, .int (nI g)), (2, .int S)] [] σ Q
  refine ev_iconst dX6_readGroup_0 (v := nI 0) (by decide) ?_
  refine ev_istore_n (lv' := [(3, .int (nI 0)), (0, .ref 77), (1, .int (nI g)), (2, .int S)]) dX6_readGroup_1 rfl (by decide) rfl ?_
  refine ev_lv (lv' := [(0, .ref 77), (1, .int (nI g)), (2, .int S), (3, .int (nI 0))]) [1, 2, 3, 0] rfl ?_
  refine ev_st (σ' := av_set σ 81 (fo 0 (fun n G => upd G (60 * 0 + 10 * g + n) (mtn (σ 78) c S n)) (σ 81))) (by simp only [fo_0] <;> first | rfl | (funext a; unfold av_set; (repeat' split) <;> first | rfl | (subst_vars; rfl) | (exfalso; omega))) ?_
  refine loop_up (fun n => av_Ev l RX6 cX6_readGroup 5 none av_E0 3 2 [(0, .ref 77), (1, .int (nI g)), (2, .int S), (3, .int (nI n))] [] (av_set σ 81 (fo n (fun n G => upd G (60 * 0 + 10 * g + n) (mtn (σ 78) c S n)) (σ 81))) Q) 10 ?_ ?_
  · show av_Ev l RX6 cX6_readGroup 5 none av_E0 3 2 [(0, .ref 77), (1, .int (nI g)), (2, .int S), (3, .int (nI 10))] [] (av_set σ 81 (fo 10 (fun n G => upd G (60 * 0 + 10 * g + n) (mtn (σ 78) c S n)) (σ 81))) Q
    refine ev_iload_n dX6_readGroup_2 rfl 3 rfl ?_
    refine ev_bipush dX6_readGroup_3 (v := nI 10) (by decide) ?_
    refine ev_ncmp_ge (tgt := 60) dX6_readGroup_5 (by decide) (by omega) (by omega) (fun h5 => ?_) (fun h5 => ?_)
    · exact ev_return dX6_readGroup_60 rfl (leafV hQ rfl)
    · exact absurd h5 (by omega)
  · intro n hn ihn
    show av_Ev l RX6 cX6_readGroup 5 none av_E0 3 2 [(0, .ref 77), (1, .int (nI g)), (2, .int S), (3, .int (nI n))] [] (av_set σ 81 (fo n (fun n G => upd G (60 * 0 + 10 * g + n) (mtn (σ 78) c S n)) (σ 81))) Q
    refine ev_iload_n dX6_readGroup_2 rfl 3 rfl ?_
    refine ev_bipush dX6_readGroup_3 (v := nI 10) (by decide) ?_
    refine ev_ncmp_ge (tgt := 60) dX6_readGroup_5 (by decide) (by omega) (by omega) (fun h5 => ?_) (fun h5 => ?_)
    · exact absurd h5 (by omega)
    · refine ev_aload_n dX6_readGroup_8 rfl 0 rfl ?_
      refine ev_iload_n dX6_readGroup_9 rfl 2 rfl ?_
      refine ev_iload_n dX6_readGroup_10 rfl 3 rfl ?_
      refine ev_callVi (x := oJ (mhm (σ 78) c S n)) dX6_readGroup_11 M_X6_72 Y_X6_homeIn [.int S, .int (nI n)] (c_X6_homeIn S n c (by omega) (by first | exact hcn | omega) (by first | exact hc1 | omega) (by first | exact hc6 | omega)) (by decide) (Nat.le_of_ble_eq_true rfl) (by decide) sh_77 rfl rfl rfl (Nat.le_of_ble_eq_true rfl) ?_
      rcases ho11 : mhm (σ 78) c S n with _ | u11
      · refine ev_top (v := (-9)) rfl ?_
        refine ev_istore (lv' := [(4, .int (-9)), (0, .ref 77), (1, .int (nI g)), (2, .int S), (3, .int (nI n))]) dX6_readGroup_14 (by decide) rfl ?_
        refine ev_aload_n dX6_readGroup_16 rfl 1 rfl ?_
        refine ev_getR dX6_readGroup_17 C_X6 L_X6_19 (by decide) (by decide) sh_77 rfl ?_
        refine ev_iconst dX6_readGroup_20 (v := nI 0) (by decide) ?_
        refine ev_iload_n dX6_readGroup_21 rfl 2 rfl ?_
        refine ev_callSi (x := nI (60 * 0 + 10 * g)) dX6_readGroup_22 (Or.inl M_X6_173) Y_X6_groupCell [.int (nI 0), .int (nI g)] (c_X6_groupCell 0 g ) (by decide) (Nat.le_of_ble_eq_true rfl) rfl rfl (Nat.le_of_ble_eq_true rfl) ?_
        refine ev_iload_n dX6_readGroup_25 rfl 4 rfl ?_
        refine ev_iadd dX6_readGroup_26 ?_
        refine ev_top (v := nI (60 * 0 + 10 * g + n)) (nI_add _ _) ?_
        refine ev_iload dX6_readGroup_27 0 rfl ?_
        refine ev_bipush dX6_readGroup_29 (v := (-9)) (by decide) ?_
        refine ev_icmp_ne (tgt := 39) dX6_readGroup_31 (by decide) (fun h31 => ?_) (fun h31 => ?_)
        · exact absurd rfl h31
        · refine ev_bipush dX6_readGroup_34 (v := (-9)) (by decide) ?_
          refine ev_goto (tgt := 53) dX6_readGroup_36 (by decide) ?_
          refine ev_iast (e := 60 * 0 + 10 * g + n) dX6_readGroup_53 (by decide) sh_81 (by omega) (by decide) ?_
          refine ev_st (σ' := av_set σ 81 (upd (fo n (fun n G => upd G (60 * 0 + 10 * g + n) (mtn (σ 78) c S n)) (σ 81)) (60 * 0 + 10 * g + n) (-9))) (by first | rfl | (funext a; by_cases q81 : a = 81; (next => subst q81; rfl); simp only [av_set, q81, if_false]) | exact av_set_set _ _ _ _ | (funext a; unfold av_set; (repeat' split) <;> first | rfl | (exfalso; omega)) | (funext a; simp only [av_set, cpS]; (repeat' split) <;> first | rfl | (exfalso; omega))) ?_
          refine ev_iinc (lv' := [(3, .int (nI (n + 1))), (4, .int (-9)), (0, .ref 77), (1, .int (nI g)), (2, .int S)]) dX6_readGroup_54 4 rfl (nI_inc n) (by decide) rfl ?_
          refine ev_goto (tgt := 2) dX6_readGroup_57 (by decide) ?_
          refine ev_lv (lv' := [(0, .ref 77), (1, .int (nI g)), (2, .int S), (3, .int (nI (n + 1)))]) [2, 3, 4, 0] rfl ?_
          have ih9 : av_Ev l RX6 cX6_readGroup 5 none av_E0 3 2 [(0, .ref 77), (1, .int (nI g)), (2, .int S), (3, .int (nI (n + 1)))] [] (av_set σ 81 (fo (n + 1) (fun n G => upd G (60 * 0 + 10 * g + n) (mtn (σ 78) c S n)) (σ 81))) Q := ihn
          rw [show av_set σ 81 (fo (n + 1) (fun n G => upd G (60 * 0 + 10 * g + n) (mtn (σ 78) c S n)) (σ 81)) = av_set σ 81 (upd (fo n (fun n G => upd G (60 * 0 + 10 * g + n) (mtn (σ 78) c S n)) (σ 81)) (60 * 0 + 10 * g + n) (-9)) from (by rw [fo_s]; simp only [mtn, ho11])] at ih9
          exact ih9
      · have hu11 : u11 < c := mhm_lt ho11
        refine ev_top (v := nI u11) rfl ?_
        refine ev_istore (lv' := [(4, .int (nI u11)), (0, .ref 77), (1, .int (nI g)), (2, .int S), (3, .int (nI n))]) dX6_readGroup_14 (by decide) rfl ?_
        refine ev_aload_n dX6_readGroup_16 rfl 1 rfl ?_
        refine ev_getR dX6_readGroup_17 C_X6 L_X6_19 (by decide) (by decide) sh_77 rfl ?_
        refine ev_iconst dX6_readGroup_20 (v := nI 0) (by decide) ?_
        refine ev_iload_n dX6_readGroup_21 rfl 2 rfl ?_
        refine ev_callSi (x := nI (60 * 0 + 10 * g)) dX6_readGroup_22 (Or.inl M_X6_173) Y_X6_groupCell [.int (nI 0), .int (nI g)] (c_X6_groupCell 0 g ) (by decide) (Nat.le_of_ble_eq_true rfl) rfl rfl (Nat.le_of_ble_eq_true rfl) ?_
        refine ev_iload_n dX6_readGroup_25 rfl 4 rfl ?_
        refine ev_iadd dX6_readGroup_26 ?_
        refine ev_top (v := nI (60 * 0 + 10 * g + n)) (nI_add _ _) ?_
        refine ev_iload dX6_readGroup_27 0 rfl ?_
        refine ev_bipush dX6_readGroup_29 (v := (-9)) (by decide) ?_
        refine ev_icmp_ne (tgt := 39) dX6_readGroup_31 (by decide) (fun h31 => ?_) (fun h31 => ?_)
        · refine ev_aload_n dX6_readGroup_39 rfl 1 rfl ?_
          refine ev_getR dX6_readGroup_40 C_X6 L_X6_7 (by decide) (by decide) sh_77 rfl ?_
          refine ev_bipush dX6_readGroup_43 (v := nI 10) (by decide) ?_
          refine ev_iload dX6_readGroup_45 0 rfl ?_
          refine ev_iload_n dX6_readGroup_47 rfl 4 rfl ?_
          refine ev_callSi (x := nI (10 * u11 + n)) dX6_readGroup_48 (Or.inl M_X6_58) Y_X6_userCell [.int (nI u11), .int (nI n)] (c_X6_userCell u11 n ) (by decide) (Nat.le_of_ble_eq_true rfl) rfl rfl (Nat.le_of_ble_eq_true rfl) ?_
          refine ev_iadd dX6_readGroup_51 ?_
          refine ev_top (v := nI (10 + (10 * u11 + n))) (nI_add _ _) ?_
          refine ev_iald (e := 10 + (10 * u11 + n)) (v := σ 78 (10 + (10 * u11 + n))) dX6_readGroup_52 (by decide) sh_78 (by omega) (by decide) (by first | rfl | (simp only [av_set, cpS]; (repeat' split) <;> first | rfl | (exfalso; omega))) ?_
          refine ev_iast (e := 60 * 0 + 10 * g + n) dX6_readGroup_53 (by decide) sh_81 (by omega) (by decide) ?_
          refine ev_st (σ' := av_set σ 81 (upd (fo n (fun n G => upd G (60 * 0 + 10 * g + n) (mtn (σ 78) c S n)) (σ 81)) (60 * 0 + 10 * g + n) (σ 78 (10 + (10 * u11 + n))))) (by first | rfl | (funext a; by_cases q81 : a = 81; (next => subst q81; rfl); simp only [av_set, q81, if_false]) | exact av_set_set _ _ _ _ | (funext a; unfold av_set; (repeat' split) <;> first | rfl | (exfalso; omega)) | (funext a; simp only [av_set, cpS]; (repeat' split) <;> first | rfl | (exfalso; omega))) ?_
          refine ev_iinc (lv' := [(3, .int (nI (n + 1))), (4, .int (nI u11)), (0, .ref 77), (1, .int (nI g)), (2, .int S)]) dX6_readGroup_54 4 rfl (nI_inc n) (by decide) rfl ?_
          refine ev_goto (tgt := 2) dX6_readGroup_57 (by decide) ?_
          refine ev_lv (lv' := [(0, .ref 77), (1, .int (nI g)), (2, .int S), (3, .int (nI (n + 1)))]) [2, 3, 4, 0] rfl ?_
          have ih9 : av_Ev l RX6 cX6_readGroup 5 none av_E0 3 2 [(0, .ref 77), (1, .int (nI g)), (2, .int S), (3, .int (nI (n + 1)))] [] (av_set σ 81 (fo (n + 1) (fun n G => upd G (60 * 0 + 10 * g + n) (mtn (σ 78) c S n)) (σ 81))) Q := ihn
          rw [show av_set σ 81 (fo (n + 1) (fun n G => upd G (60 * 0 + 10 * g + n) (mtn (σ 78) c S n)) (σ 81)) = av_set σ 81 (upd (fo n (fun n G => upd G (60 * 0 + 10 * g + n) (mtn (σ 78) c S n)) (σ 81)) (60 * 0 + 10 * g + n) (σ 78 (10 + (10 * u11 + n)))) from (by rw [fo_s]; simp only [mtn, ho11])] at ih9
          exact ih9
        · exact absurd h31 (nI_neg (by omega) (by decide))

set_option maxRecDepth 100000 in
set_option maxHeartbeats 1000000 in
theorem c_X6_mergeGroups {l : Launch} {σ : av_S} (v : Nat) (p : Nat) (q : Nat) (hv : v < 6) (hp : p < 6) (hq : q < 6) : av_M l RX6 cX6_mergeGroups 9 (some .int) 1 [.ref 77, .int (nI v), .int (nI p), .int (nI q)] σ (some (.int (nI ((mgg (σ 81) v p q 10).1)))) (av_set σ 81 ((mgg (σ 81) v p q 10).2)) := by
  intro Q hQ
  show av_Ev l RX6 cX6_mergeGroups 9 (some .int) av_E0 1 0 [(0, .ref 77), (1, .int (nI v)), (2, .int (nI p)), (3, .int (nI q))] [] σ Q
  refine ev_iconst dX6_mergeGroups_0 (v := nI 0) (by decide) ?_
  refine ev_istore (lv' := [(4, .int (nI 0)), (0, .ref 77), (1, .int (nI v)), (2, .int (nI p)), (3, .int (nI q))]) dX6_mergeGroups_1 (by decide) rfl ?_
  refine ev_iconst dX6_mergeGroups_3 (v := nI 0) (by decide) ?_
  refine ev_istore (lv' := [(5, .int (nI 0)), (4, .int (nI 0)), (0, .ref 77), (1, .int (nI v)), (2, .int (nI p)), (3, .int (nI q))]) dX6_mergeGroups_4 (by decide) rfl ?_
  refine ev_lv (lv' := [(0, .ref 77), (1, .int (nI v)), (2, .int (nI p)), (3, .int (nI q)), (4, .int (nI 0)), (5, .int (nI 0))]) [2, 3, 4, 5, 1, 0] rfl ?_
  refine ev_st (σ' := av_set σ 81 ((mgg (σ 81) v p q 0).2)) (by exact (av_set_self _ _).symm) ?_
  refine loop_up (fun n => av_Ev l RX6 cX6_mergeGroups 9 (some .int) av_E0 1 6 [(0, .ref 77), (1, .int (nI v)), (2, .int (nI p)), (3, .int (nI q)), (4, .int (nI ((mgg (σ 81) v p q n).1))), (5, .int (nI n))] [] (av_set σ 81 ((mgg (σ 81) v p q n).2)) Q) 10 ?_ ?_
  · show av_Ev l RX6 cX6_mergeGroups 9 (some .int) av_E0 1 6 [(0, .ref 77), (1, .int (nI v)), (2, .int (nI p)), (3, .int (nI q)), (4, .int (nI ((mgg (σ 81) v p q 10).1))), (5, .int (nI 10))] [] (av_set σ 81 ((mgg (σ 81) v p q 10).2)) Q
    refine ev_iload dX6_mergeGroups_6 5 rfl ?_
    refine ev_bipush dX6_mergeGroups_8 (v := nI 10) (by decide) ?_
    refine ev_ncmp_ge (tgt := 145) dX6_mergeGroups_10 (by decide) (by omega) (by omega) (fun h10 => ?_) (fun h10 => ?_)
    · refine ev_iload dX6_mergeGroups_145 4 rfl ?_
      exact ev_ireturn dX6_mergeGroups_147 rfl rfl (leafI hQ rfl rfl)
    · exact absurd h10 (by omega)
  · intro n hn ihn
    show av_Ev l RX6 cX6_mergeGroups 9 (some .int) av_E0 1 6 [(0, .ref 77), (1, .int (nI v)), (2, .int (nI p)), (3, .int (nI q)), (4, .int (nI ((mgg (σ 81) v p q n).1))), (5, .int (nI n))] [] (av_set σ 81 ((mgg (σ 81) v p q n).2)) Q
    refine ev_iload dX6_mergeGroups_6 5 rfl ?_
    refine ev_bipush dX6_mergeGroups_8 (v := nI 10) (by decide) ?_
    refine ev_ncmp_ge (tgt := 145) dX6_mergeGroups_10 (by decide) (by omega) (by omega) (fun h10 => ?_) (fun h10 => ?_)
    · exact absurd h10 (by omega)
    · refine ev_iload_n dX6_mergeGroups_13 rfl 1 rfl ?_
      refine ev_iload_n dX6_mergeGroups_14 rfl 2 rfl ?_
      refine ev_callSi (x := nI (60 * v + 10 * p)) dX6_mergeGroups_15 (Or.inl M_X6_173) Y_X6_groupCell [.int (nI v), .int (nI p)] (c_X6_groupCell v p ) (by decide) (Nat.le_of_ble_eq_true rfl) rfl rfl (Nat.le_of_ble_eq_true rfl) ?_
      refine ev_iload dX6_mergeGroups_18 5 rfl ?_
      refine ev_iadd dX6_mergeGroups_20 ?_
      refine ev_top (v := nI (60 * v + 10 * p + n)) (nI_add _ _) ?_
      refine ev_istore (lv' := [(6, .int (nI (60 * v + 10 * p + n))), (0, .ref 77), (1, .int (nI v)), (2, .int (nI p)), (3, .int (nI q)), (4, .int (nI ((mgg (σ 81) v p q n).1))), (5, .int (nI n))]) dX6_mergeGroups_21 (by decide) rfl ?_
      refine ev_aload_n dX6_mergeGroups_23 rfl 1 rfl ?_
      refine ev_getR dX6_mergeGroups_24 C_X6 L_X6_19 (by decide) (by decide) sh_77 rfl ?_
      refine ev_iload dX6_mergeGroups_27 0 rfl ?_
      refine ev_iald (e := 60 * v + 10 * p + n) (v := ((mgg (σ 81) v p q n).2) (60 * v + 10 * p + n)) dX6_mergeGroups_29 (by decide) sh_81 (by omega) (by decide) (by first | rfl | (simp only [av_set, cpS]; (repeat' split) <;> first | rfl | (exfalso; omega))) ?_
      refine ev_istore (lv' := [(7, .int (((mgg (σ 81) v p q n).2) (60 * v + 10 * p + n))), (6, .int (nI (60 * v + 10 * p + n))), (0, .ref 77), (1, .int (nI v)), (2, .int (nI p)), (3, .int (nI q)), (4, .int (nI ((mgg (σ 81) v p q n).1))), (5, .int (nI n))]) dX6_mergeGroups_30 (by decide) rfl ?_
      refine ev_aload_n dX6_mergeGroups_32 rfl 2 rfl ?_
      refine ev_getR dX6_mergeGroups_33 C_X6 L_X6_19 (by decide) (by decide) sh_77 rfl ?_
      refine ev_iload_n dX6_mergeGroups_36 rfl 3 rfl ?_
      refine ev_iload_n dX6_mergeGroups_37 rfl 5 rfl ?_
      refine ev_callSi (x := nI (60 * v + 10 * q)) dX6_mergeGroups_38 (Or.inl M_X6_173) Y_X6_groupCell [.int (nI v), .int (nI q)] (c_X6_groupCell v q ) (by decide) (Nat.le_of_ble_eq_true rfl) rfl rfl (Nat.le_of_ble_eq_true rfl) ?_
      refine ev_iload dX6_mergeGroups_41 7 rfl ?_
      refine ev_iadd dX6_mergeGroups_43 ?_
      refine ev_top (v := nI (60 * v + 10 * q + n)) (nI_add _ _) ?_
      refine ev_iald (e := 60 * v + 10 * q + n) (v := ((mgg (σ 81) v p q n).2) (60 * v + 10 * q + n)) dX6_mergeGroups_44 (by decide) sh_81 (by omega) (by decide) (by first | rfl | (simp only [av_set, cpS]; (repeat' split) <;> first | rfl | (exfalso; omega))) ?_
      refine ev_istore (lv' := [(8, .int (((mgg (σ 81) v p q n).2) (60 * v + 10 * q + n))), (7, .int (((mgg (σ 81) v p q n).2) (60 * v + 10 * p + n))), (6, .int (nI (60 * v + 10 * p + n))), (0, .ref 77), (1, .int (nI v)), (2, .int (nI p)), (3, .int (nI q)), (4, .int (nI ((mgg (σ 81) v p q n).1))), (5, .int (nI n))]) dX6_mergeGroups_45 (by decide) rfl ?_
      refine ev_iload dX6_mergeGroups_47 7 rfl ?_
      refine ev_iload dX6_mergeGroups_49 1 rfl ?_
      refine ev_bipush dX6_mergeGroups_51 (v := (-9)) (by decide) ?_
      refine ev_icmp_eq (tgt := 63) dX6_mergeGroups_53 (by decide) (fun h53 => ?_) (fun h53 => ?_)
      · refine ev_iconst dX6_mergeGroups_63 (v := nI 0) (by decide) ?_
        refine ev_goto (tgt := 79) dX6_mergeGroups_64 (by decide) ?_
        refine ev_iadd dX6_mergeGroups_79 ?_
        refine ev_top (v := nI ((mgg (σ 81) v p q n).1 + 0)) (nI_add _ _) ?_
        refine ev_istore (lv' := [(4, .int (nI ((mgg (σ 81) v p q n).1 + 0))), (8, .int (((mgg (σ 81) v p q n).2) (60 * v + 10 * q + n))), (7, .int (((mgg (σ 81) v p q n).2) (60 * v + 10 * p + n))), (6, .int (nI (60 * v + 10 * p + n))), (0, .ref 77), (1, .int (nI v)), (2, .int (nI p)), (3, .int (nI q)), (5, .int (nI n))]) dX6_mergeGroups_80 (by decide) rfl ?_
        refine ev_aload_n dX6_mergeGroups_82 rfl 4 rfl ?_
        refine ev_getR dX6_mergeGroups_83 C_X6 L_X6_19 (by decide) (by decide) sh_77 rfl ?_
        refine ev_iload dX6_mergeGroups_86 3 rfl ?_
        refine ev_iload dX6_mergeGroups_88 2 rfl ?_
        refine ev_bipush dX6_mergeGroups_90 (v := (-9)) (by decide) ?_
        refine ev_icmp_ne (tgt := 100) dX6_mergeGroups_92 (by decide) (fun h92 => ?_) (fun h92 => ?_)
        · exact absurd h53 h92
        · refine ev_iload dX6_mergeGroups_95 1 rfl ?_
          refine ev_goto (tgt := 138) dX6_mergeGroups_97 (by decide) ?_
          refine ev_iast (e := 60 * v + 10 * p + n) dX6_mergeGroups_138 (by decide) sh_81 (by omega) (by decide) ?_
          refine ev_st (σ' := av_set σ 81 (upd ((mgg (σ 81) v p q n).2) (60 * v + 10 * p + n) (((mgg (σ 81) v p q n).2) (60 * v + 10 * q + n)))) (by first | rfl | (funext a; by_cases q81 : a = 81; (next => subst q81; rfl); simp only [av_set, q81, if_false]) | exact av_set_set _ _ _ _ | (funext a; unfold av_set; (repeat' split) <;> first | rfl | (exfalso; omega)) | (funext a; simp only [av_set, cpS]; (repeat' split) <;> first | rfl | (exfalso; omega))) ?_
          refine ev_iinc (lv' := [(5, .int (nI (n + 1))), (4, .int (nI ((mgg (σ 81) v p q n).1 + 0))), (8, .int (((mgg (σ 81) v p q n).2) (60 * v + 10 * q + n))), (7, .int (((mgg (σ 81) v p q n).2) (60 * v + 10 * p + n))), (6, .int (nI (60 * v + 10 * p + n))), (0, .ref 77), (1, .int (nI v)), (2, .int (nI p)), (3, .int (nI q))]) dX6_mergeGroups_139 8 rfl (nI_inc n) (by decide) rfl ?_
          refine ev_goto (tgt := 6) dX6_mergeGroups_142 (by decide) ?_
          refine ev_lv (lv' := [(0, .ref 77), (1, .int (nI v)), (2, .int (nI p)), (3, .int (nI q)), (4, .int (nI ((mgg (σ 81) v p q n).1 + 0))), (5, .int (nI (n + 1)))]) [5, 6, 7, 8, 1, 0] rfl ?_
          have ih9 : av_Ev l RX6 cX6_mergeGroups 9 (some .int) av_E0 1 6 [(0, .ref 77), (1, .int (nI v)), (2, .int (nI p)), (3, .int (nI q)), (4, .int (nI ((mgg (σ 81) v p q (n + 1)).1))), (5, .int (nI (n + 1)))] [] (av_set σ 81 ((mgg (σ 81) v p q (n + 1)).2)) Q := ihn
          rw [show nI ((mgg (σ 81) v p q (n + 1)).1) = nI ((mgg (σ 81) v p q n).1 + 0) from (by show nI (mgF v p q n (mgg (σ 81) v p q n)).1 = _; unfold mgF; dsimp only; first | rw [mgK_1 h53] | rw [mgK_2 h53 h60] | rw [mgK_3 h53 h60 h71] | rw [mgK_4 h53 h60 h71])] at ih9
          rw [show av_set σ 81 ((mgg (σ 81) v p q (n + 1)).2) = av_set σ 81 (upd ((mgg (σ 81) v p q n).2) (60 * v + 10 * p + n) (((mgg (σ 81) v p q n).2) (60 * v + 10 * q + n))) from (by show av_set σ 81 (mgF v p q n (mgg (σ 81) v p q n)).2 = _; unfold mgF; dsimp only; first | rw [mgS_1 h53] | rw [mgS_2 h53 h60] | rw [mgS_3 h53 h60 h71] | rw [mgS_4 h53 h60 h71 h128] | rw [mgS_5 h53 h60 h71 h128])] at ih9
          exact ih9
      · refine ev_iload dX6_mergeGroups_56 0 rfl ?_
        refine ev_bipush dX6_mergeGroups_58 (v := (-9)) (by decide) ?_
        refine ev_icmp_ne (tgt := 67) dX6_mergeGroups_60 (by decide) (fun h60 => ?_) (fun h60 => ?_)
        · refine ev_iload dX6_mergeGroups_67 1 rfl ?_
          refine ev_iload dX6_mergeGroups_69 0 rfl ?_
          refine ev_icmp_ne (tgt := 78) dX6_mergeGroups_71 (by decide) (fun h71 => ?_) (fun h71 => ?_)
          · refine ev_iconst dX6_mergeGroups_78 (v := nI 1) (by decide) ?_
            refine ev_iadd dX6_mergeGroups_79 ?_
            refine ev_top (v := nI ((mgg (σ 81) v p q n).1 + 1)) (nI_add _ _) ?_
            refine ev_istore (lv' := [(4, .int (nI ((mgg (σ 81) v p q n).1 + 1))), (8, .int (((mgg (σ 81) v p q n).2) (60 * v + 10 * q + n))), (7, .int (((mgg (σ 81) v p q n).2) (60 * v + 10 * p + n))), (6, .int (nI (60 * v + 10 * p + n))), (0, .ref 77), (1, .int (nI v)), (2, .int (nI p)), (3, .int (nI q)), (5, .int (nI n))]) dX6_mergeGroups_80 (by decide) rfl ?_
            refine ev_aload_n dX6_mergeGroups_82 rfl 4 rfl ?_
            refine ev_getR dX6_mergeGroups_83 C_X6 L_X6_19 (by decide) (by decide) sh_77 rfl ?_
            refine ev_iload dX6_mergeGroups_86 3 rfl ?_
            refine ev_iload dX6_mergeGroups_88 2 rfl ?_
            refine ev_bipush dX6_mergeGroups_90 (v := (-9)) (by decide) ?_
            refine ev_icmp_ne (tgt := 100) dX6_mergeGroups_92 (by decide) (fun h92 => ?_) (fun h92 => ?_)
            · refine ev_iload dX6_mergeGroups_100 1 rfl ?_
              refine ev_bipush dX6_mergeGroups_102 (v := (-9)) (by decide) ?_
              refine ev_icmp_ne (tgt := 112) dX6_mergeGroups_104 (by decide) (fun h104 => ?_) (fun h104 => ?_)
              · refine ev_iload dX6_mergeGroups_112 2 rfl ?_
                refine ev_iload dX6_mergeGroups_114 1 rfl ?_
                refine ev_icmp_ne (tgt := 124) dX6_mergeGroups_116 (by decide) (fun h116 => ?_) (fun h116 => ?_)
                · refine ev_iload dX6_mergeGroups_124 2 rfl ?_
                  refine ev_iload dX6_mergeGroups_126 1 rfl ?_
                  refine ev_icmp_ge (tgt := 136) dX6_mergeGroups_128 (by decide) (fun h128 => ?_) (fun h128 => ?_)
                  · refine ev_iload dX6_mergeGroups_136 1 rfl ?_
                    refine ev_iast (e := 60 * v + 10 * p + n) dX6_mergeGroups_138 (by decide) sh_81 (by omega) (by decide) ?_
                    refine ev_st (σ' := av_set σ 81 (upd ((mgg (σ 81) v p q n).2) (60 * v + 10 * p + n) (((mgg (σ 81) v p q n).2) (60 * v + 10 * q + n)))) (by first | rfl | (funext a; by_cases q81 : a = 81; (next => subst q81; rfl); simp only [av_set, q81, if_false]) | exact av_set_set _ _ _ _ | (funext a; unfold av_set; (repeat' split) <;> first | rfl | (exfalso; omega)) | (funext a; simp only [av_set, cpS]; (repeat' split) <;> first | rfl | (exfalso; omega))) ?_
                    refine ev_iinc (lv' := [(5, .int (nI (n + 1))), (4, .int (nI ((mgg (σ 81) v p q n).1 + 1))), (8, .int (((mgg (σ 81) v p q n).2) (60 * v + 10 * q + n))), (7, .int (((mgg (σ 81) v p q n).2) (60 * v + 10 * p + n))), (6, .int (nI (60 * v + 10 * p + n))), (0, .ref 77), (1, .int (nI v)), (2, .int (nI p)), (3, .int (nI q))]) dX6_mergeGroups_139 8 rfl (nI_inc n) (by decide) rfl ?_
                    refine ev_goto (tgt := 6) dX6_mergeGroups_142 (by decide) ?_
                    refine ev_lv (lv' := [(0, .ref 77), (1, .int (nI v)), (2, .int (nI p)), (3, .int (nI q)), (4, .int (nI ((mgg (σ 81) v p q n).1 + 1))), (5, .int (nI (n + 1)))]) [5, 6, 7, 8, 1, 0] rfl ?_
                    have ih9 : av_Ev l RX6 cX6_mergeGroups 9 (some .int) av_E0 1 6 [(0, .ref 77), (1, .int (nI v)), (2, .int (nI p)), (3, .int (nI q)), (4, .int (nI ((mgg (σ 81) v p q (n + 1)).1))), (5, .int (nI (n + 1)))] [] (av_set σ 81 ((mgg (σ 81) v p q (n + 1)).2)) Q := ihn
                    rw [show nI ((mgg (σ 81) v p q (n + 1)).1) = nI ((mgg (σ 81) v p q n).1 + 1) from (by show nI (mgF v p q n (mgg (σ 81) v p q n)).1 = _; unfold mgF; dsimp only; first | rw [mgK_1 h53] | rw [mgK_2 h53 h60] | rw [mgK_3 h53 h60 h71] | rw [mgK_4 h53 h60 h71])] at ih9
                    rw [show av_set σ 81 ((mgg (σ 81) v p q (n + 1)).2) = av_set σ 81 (upd ((mgg (σ 81) v p q n).2) (60 * v + 10 * p + n) (((mgg (σ 81) v p q n).2) (60 * v + 10 * q + n))) from (by show av_set σ 81 (mgF v p q n (mgg (σ 81) v p q n)).2 = _; unfold mgF; dsimp only; first | rw [mgS_1 h53] | rw [mgS_2 h53 h60] | rw [mgS_3 h53 h60 h71] | rw [mgS_4 h53 h60 h71 h128] | rw [mgS_5 h53 h60 h71 h128])] at ih9
                    exact ih9
                  · refine ev_iload dX6_mergeGroups_131 2 rfl ?_
                    refine ev_goto (tgt := 138) dX6_mergeGroups_133 (by decide) ?_
                    refine ev_iast (e := 60 * v + 10 * p + n) dX6_mergeGroups_138 (by decide) sh_81 (by omega) (by decide) ?_
                    refine ev_st (σ' := av_set σ 81 (upd ((mgg (σ 81) v p q n).2) (60 * v + 10 * p + n) (((mgg (σ 81) v p q n).2) (60 * v + 10 * p + n)))) (by first | rfl | (funext a; by_cases q81 : a = 81; (next => subst q81; rfl); simp only [av_set, q81, if_false]) | exact av_set_set _ _ _ _ | (funext a; unfold av_set; (repeat' split) <;> first | rfl | (exfalso; omega)) | (funext a; simp only [av_set, cpS]; (repeat' split) <;> first | rfl | (exfalso; omega))) ?_
                    refine ev_iinc (lv' := [(5, .int (nI (n + 1))), (4, .int (nI ((mgg (σ 81) v p q n).1 + 1))), (8, .int (((mgg (σ 81) v p q n).2) (60 * v + 10 * q + n))), (7, .int (((mgg (σ 81) v p q n).2) (60 * v + 10 * p + n))), (6, .int (nI (60 * v + 10 * p + n))), (0, .ref 77), (1, .int (nI v)), (2, .int (nI p)), (3, .int (nI q))]) dX6_mergeGroups_139 8 rfl (nI_inc n) (by decide) rfl ?_
                    refine ev_goto (tgt := 6) dX6_mergeGroups_142 (by decide) ?_
                    refine ev_lv (lv' := [(0, .ref 77), (1, .int (nI v)), (2, .int (nI p)), (3, .int (nI q)), (4, .int (nI ((mgg (σ 81) v p q n).1 + 1))), (5, .int (nI (n + 1)))]) [5, 6, 7, 8, 1, 0] rfl ?_
                    have ih9 : av_Ev l RX6 cX6_mergeGroups 9 (some .int) av_E0 1 6 [(0, .ref 77), (1, .int (nI v)), (2, .int (nI p)), (3, .int (nI q)), (4, .int (nI ((mgg (σ 81) v p q (n + 1)).1))), (5, .int (nI (n + 1)))] [] (av_set σ 81 ((mgg (σ 81) v p q (n + 1)).2)) Q := ihn
                    rw [show nI ((mgg (σ 81) v p q (n + 1)).1) = nI ((mgg (σ 81) v p q n).1 + 1) from (by show nI (mgF v p q n (mgg (σ 81) v p q n)).1 = _; unfold mgF; dsimp only; first | rw [mgK_1 h53] | rw [mgK_2 h53 h60] | rw [mgK_3 h53 h60 h71] | rw [mgK_4 h53 h60 h71])] at ih9
                    rw [show av_set σ 81 ((mgg (σ 81) v p q (n + 1)).2) = av_set σ 81 (upd ((mgg (σ 81) v p q n).2) (60 * v + 10 * p + n) (((mgg (σ 81) v p q n).2) (60 * v + 10 * p + n))) from (by show av_set σ 81 (mgF v p q n (mgg (σ 81) v p q n)).2 = _; unfold mgF; dsimp only; first | rw [mgS_1 h53] | rw [mgS_2 h53 h60] | rw [mgS_3 h53 h60 h71] | rw [mgS_4 h53 h60 h71 h128] | rw [mgS_5 h53 h60 h71 h128])] at ih9
                    exact ih9
                · exact absurd h116 h71
              · exact absurd h104 h60
            · exact absurd h92 h53
          · refine ev_iconst dX6_mergeGroups_74 (v := nI 2) (by decide) ?_
            refine ev_goto (tgt := 79) dX6_mergeGroups_75 (by decide) ?_
            refine ev_iadd dX6_mergeGroups_79 ?_
            refine ev_top (v := nI ((mgg (σ 81) v p q n).1 + 2)) (nI_add _ _) ?_
            refine ev_istore (lv' := [(4, .int (nI ((mgg (σ 81) v p q n).1 + 2))), (8, .int (((mgg (σ 81) v p q n).2) (60 * v + 10 * q + n))), (7, .int (((mgg (σ 81) v p q n).2) (60 * v + 10 * p + n))), (6, .int (nI (60 * v + 10 * p + n))), (0, .ref 77), (1, .int (nI v)), (2, .int (nI p)), (3, .int (nI q)), (5, .int (nI n))]) dX6_mergeGroups_80 (by decide) rfl ?_
            refine ev_aload_n dX6_mergeGroups_82 rfl 4 rfl ?_
            refine ev_getR dX6_mergeGroups_83 C_X6 L_X6_19 (by decide) (by decide) sh_77 rfl ?_
            refine ev_iload dX6_mergeGroups_86 3 rfl ?_
            refine ev_iload dX6_mergeGroups_88 2 rfl ?_
            refine ev_bipush dX6_mergeGroups_90 (v := (-9)) (by decide) ?_
            refine ev_icmp_ne (tgt := 100) dX6_mergeGroups_92 (by decide) (fun h92 => ?_) (fun h92 => ?_)
            · refine ev_iload dX6_mergeGroups_100 1 rfl ?_
              refine ev_bipush dX6_mergeGroups_102 (v := (-9)) (by decide) ?_
              refine ev_icmp_ne (tgt := 112) dX6_mergeGroups_104 (by decide) (fun h104 => ?_) (fun h104 => ?_)
              · refine ev_iload dX6_mergeGroups_112 2 rfl ?_
                refine ev_iload dX6_mergeGroups_114 1 rfl ?_
                refine ev_icmp_ne (tgt := 124) dX6_mergeGroups_116 (by decide) (fun h116 => ?_) (fun h116 => ?_)
                · exact absurd h71 h116
                · refine ev_bipush dX6_mergeGroups_119 (v := (-9)) (by decide) ?_
                  refine ev_goto (tgt := 138) dX6_mergeGroups_121 (by decide) ?_
                  refine ev_iast (e := 60 * v + 10 * p + n) dX6_mergeGroups_138 (by decide) sh_81 (by omega) (by decide) ?_
                  refine ev_st (σ' := av_set σ 81 (upd ((mgg (σ 81) v p q n).2) (60 * v + 10 * p + n) (-9))) (by first | rfl | (funext a; by_cases q81 : a = 81; (next => subst q81; rfl); simp only [av_set, q81, if_false]) | exact av_set_set _ _ _ _ | (funext a; unfold av_set; (repeat' split) <;> first | rfl | (exfalso; omega)) | (funext a; simp only [av_set, cpS]; (repeat' split) <;> first | rfl | (exfalso; omega))) ?_
                  refine ev_iinc (lv' := [(5, .int (nI (n + 1))), (4, .int (nI ((mgg (σ 81) v p q n).1 + 2))), (8, .int (((mgg (σ 81) v p q n).2) (60 * v + 10 * q + n))), (7, .int (((mgg (σ 81) v p q n).2) (60 * v + 10 * p + n))), (6, .int (nI (60 * v + 10 * p + n))), (0, .ref 77), (1, .int (nI v)), (2, .int (nI p)), (3, .int (nI q))]) dX6_mergeGroups_139 8 rfl (nI_inc n) (by decide) rfl ?_
                  refine ev_goto (tgt := 6) dX6_mergeGroups_142 (by decide) ?_
                  refine ev_lv (lv' := [(0, .ref 77), (1, .int (nI v)), (2, .int (nI p)), (3, .int (nI q)), (4, .int (nI ((mgg (σ 81) v p q n).1 + 2))), (5, .int (nI (n + 1)))]) [5, 6, 7, 8, 1, 0] rfl ?_
                  have ih9 : av_Ev l RX6 cX6_mergeGroups 9 (some .int) av_E0 1 6 [(0, .ref 77), (1, .int (nI v)), (2, .int (nI p)), (3, .int (nI q)), (4, .int (nI ((mgg (σ 81) v p q (n + 1)).1))), (5, .int (nI (n + 1)))] [] (av_set σ 81 ((mgg (σ 81) v p q (n + 1)).2)) Q := ihn
                  rw [show nI ((mgg (σ 81) v p q (n + 1)).1) = nI ((mgg (σ 81) v p q n).1 + 2) from (by show nI (mgF v p q n (mgg (σ 81) v p q n)).1 = _; unfold mgF; dsimp only; first | rw [mgK_1 h53] | rw [mgK_2 h53 h60] | rw [mgK_3 h53 h60 h71] | rw [mgK_4 h53 h60 h71])] at ih9
                  rw [show av_set σ 81 ((mgg (σ 81) v p q (n + 1)).2) = av_set σ 81 (upd ((mgg (σ 81) v p q n).2) (60 * v + 10 * p + n) (-9)) from (by show av_set σ 81 (mgF v p q n (mgg (σ 81) v p q n)).2 = _; unfold mgF; dsimp only; first | rw [mgS_1 h53] | rw [mgS_2 h53 h60] | rw [mgS_3 h53 h60 h71] | rw [mgS_4 h53 h60 h71 h128] | rw [mgS_5 h53 h60 h71 h128])] at ih9
                  exact ih9
              · exact absurd h104 h60
            · exact absurd h92 h53
        · refine ev_iconst dX6_mergeGroups_63 (v := nI 0) (by decide) ?_
          refine ev_goto (tgt := 79) dX6_mergeGroups_64 (by decide) ?_
          refine ev_iadd dX6_mergeGroups_79 ?_
          refine ev_top (v := nI ((mgg (σ 81) v p q n).1 + 0)) (nI_add _ _) ?_
          refine ev_istore (lv' := [(4, .int (nI ((mgg (σ 81) v p q n).1 + 0))), (8, .int (((mgg (σ 81) v p q n).2) (60 * v + 10 * q + n))), (7, .int (((mgg (σ 81) v p q n).2) (60 * v + 10 * p + n))), (6, .int (nI (60 * v + 10 * p + n))), (0, .ref 77), (1, .int (nI v)), (2, .int (nI p)), (3, .int (nI q)), (5, .int (nI n))]) dX6_mergeGroups_80 (by decide) rfl ?_
          refine ev_aload_n dX6_mergeGroups_82 rfl 4 rfl ?_
          refine ev_getR dX6_mergeGroups_83 C_X6 L_X6_19 (by decide) (by decide) sh_77 rfl ?_
          refine ev_iload dX6_mergeGroups_86 3 rfl ?_
          refine ev_iload dX6_mergeGroups_88 2 rfl ?_
          refine ev_bipush dX6_mergeGroups_90 (v := (-9)) (by decide) ?_
          refine ev_icmp_ne (tgt := 100) dX6_mergeGroups_92 (by decide) (fun h92 => ?_) (fun h92 => ?_)
          · refine ev_iload dX6_mergeGroups_100 1 rfl ?_
            refine ev_bipush dX6_mergeGroups_102 (v := (-9)) (by decide) ?_
            refine ev_icmp_ne (tgt := 112) dX6_mergeGroups_104 (by decide) (fun h104 => ?_) (fun h104 => ?_)
            · exact absurd h60 h104
            · refine ev_iload dX6_mergeGroups_107 2 rfl ?_
              refine ev_goto (tgt := 138) dX6_mergeGroups_109 (by decide) ?_
              refine ev_iast (e := 60 * v + 10 * p + n) dX6_mergeGroups_138 (by decide) sh_81 (by omega) (by decide) ?_
              refine ev_st (σ' := av_set σ 81 (upd ((mgg (σ 81) v p q n).2) (60 * v + 10 * p + n) (((mgg (σ 81) v p q n).2) (60 * v + 10 * p + n)))) (by first | rfl | (funext a; by_cases q81 : a = 81; (next => subst q81; rfl); simp only [av_set, q81, if_false]) | exact av_set_set _ _ _ _ | (funext a; unfold av_set; (repeat' split) <;> first | rfl | (exfalso; omega)) | (funext a; simp only [av_set, cpS]; (repeat' split) <;> first | rfl | (exfalso; omega))) ?_
              refine ev_iinc (lv' := [(5, .int (nI (n + 1))), (4, .int (nI ((mgg (σ 81) v p q n).1 + 0))), (8, .int (((mgg (σ 81) v p q n).2) (60 * v + 10 * q + n))), (7, .int (((mgg (σ 81) v p q n).2) (60 * v + 10 * p + n))), (6, .int (nI (60 * v + 10 * p + n))), (0, .ref 77), (1, .int (nI v)), (2, .int (nI p)), (3, .int (nI q))]) dX6_mergeGroups_139 8 rfl (nI_inc n) (by decide) rfl ?_
              refine ev_goto (tgt := 6) dX6_mergeGroups_142 (by decide) ?_
              refine ev_lv (lv' := [(0, .ref 77), (1, .int (nI v)), (2, .int (nI p)), (3, .int (nI q)), (4, .int (nI ((mgg (σ 81) v p q n).1 + 0))), (5, .int (nI (n + 1)))]) [5, 6, 7, 8, 1, 0] rfl ?_
              have ih9 : av_Ev l RX6 cX6_mergeGroups 9 (some .int) av_E0 1 6 [(0, .ref 77), (1, .int (nI v)), (2, .int (nI p)), (3, .int (nI q)), (4, .int (nI ((mgg (σ 81) v p q (n + 1)).1))), (5, .int (nI (n + 1)))] [] (av_set σ 81 ((mgg (σ 81) v p q (n + 1)).2)) Q := ihn
              rw [show nI ((mgg (σ 81) v p q (n + 1)).1) = nI ((mgg (σ 81) v p q n).1 + 0) from (by show nI (mgF v p q n (mgg (σ 81) v p q n)).1 = _; unfold mgF; dsimp only; first | rw [mgK_1 h53] | rw [mgK_2 h53 h60] | rw [mgK_3 h53 h60 h71] | rw [mgK_4 h53 h60 h71])] at ih9
              rw [show av_set σ 81 ((mgg (σ 81) v p q (n + 1)).2) = av_set σ 81 (upd ((mgg (σ 81) v p q n).2) (60 * v + 10 * p + n) (((mgg (σ 81) v p q n).2) (60 * v + 10 * p + n))) from (by show av_set σ 81 (mgF v p q n (mgg (σ 81) v p q n)).2 = _; unfold mgF; dsimp only; first | rw [mgS_1 h53] | rw [mgS_2 h53 h60] | rw [mgS_3 h53 h60 h71] | rw [mgS_4 h53 h60 h71 h128] | rw [mgS_5 h53 h60 h71 h128])] at ih9
              exact ih9
          · exact absurd h92 h53

set_option maxRecDepth 100000 in
set_option maxHeartbeats 1000000 in
theorem c_X6_burstSize_bad {l : Launch} {σ : av_S} (x : Int32) (y : Int32) (c : Nat) (hx : (sv (nI c) x && sv (nI c) y) = false) (hcn : σ 78 0 = nI c) (hc1 : 1 ≤ c) (hc6 : c ≤ 6) : av_M l RX6 cX6_burstSize 4 (some .int) 4 [.ref 77, .int x, .int y] σ (some (.int (-1))) σ := by
  intro Q hQ
  show av_Ev l RX6 cX6_burstSize 4 (some .int) av_E0 4 0 [(0, .ref 77), (1, .int x), (2, .int y)] [] σ Q
  refine ev_aload_n dX6_burstSize_0 rfl 0 rfl ?_
  refine ev_iload_n dX6_burstSize_1 rfl 1 rfl ?_
  refine ev_iload_n dX6_burstSize_2 rfl 2 rfl ?_
  refine ev_callVi (x := (-1)) dX6_burstSize_3 M_X6_158 Y_X6_forecastError [.int x, .int y] (c_X6_fe_bad x y c hx (by first | exact hcn | omega) (by first | exact hc1 | omega) (by first | exact hc6 | omega)) (by decide) (Nat.le_of_ble_eq_true rfl) (by decide) sh_77 rfl rfl rfl (Nat.le_of_ble_eq_true rfl) ?_
  refine ev_istore_n (lv' := [(3, .int (-1)), (0, .ref 77), (1, .int x), (2, .int y)]) dX6_burstSize_6 rfl (by decide) rfl ?_
  refine ev_iload_n dX6_burstSize_7 rfl 0 rfl ?_
  refine ev_if_ge (tgt := 15) dX6_burstSize_8 (by decide) (fun h8 => ?_) (fun h8 => ?_)
  · exact absurd h8 (by decide)
  · refine ev_iload_n dX6_burstSize_11 rfl 0 rfl ?_
    refine ev_goto (tgt := 26) dX6_burstSize_12 (by decide) ?_
    exact ev_ireturn dX6_burstSize_26 rfl rfl (leafI hQ rfl rfl)

set_option maxRecDepth 100000 in
set_option maxHeartbeats 1000000 in
theorem c_X6_burstSize_st {l : Launch} {σ : av_S} (a : Nat) (b : Nat) (c : Nat) (ha : a < 6) (hb : b < 6) (hs : (sv (nI c) (nI a) && sv (nI c) (nI b)) = true) (hsh : tb (mnet (σ 78) c a) b = true) (hcn : σ 78 0 = nI c) (hc1 : 1 ≤ c) (hc6 : c ≤ 6) : av_M l RX6 cX6_burstSize 4 (some .int) 4 [.ref 77, .int (nI a), .int (nI b)] σ (some (.int (-2))) σ := by
  intro Q hQ
  show av_Ev l RX6 cX6_burstSize 4 (some .int) av_E0 4 0 [(0, .ref 77), (1, .int (nI a)), (2, .int (nI b))] [] σ Q
  refine ev_aload_n dX6_burstSize_0 rfl 0 rfl ?_
  refine ev_iload_n dX6_burstSize_1 rfl 1 rfl ?_
  refine ev_iload_n dX6_burstSize_2 rfl 2 rfl ?_
  refine ev_callVi (x := (-2)) dX6_burstSize_3 M_X6_158 Y_X6_forecastError [.int (nI a), .int (nI b)] (c_X6_fe_st a b c (by omega) (by omega) hs hsh (by first | exact hcn | omega) (by first | exact hc1 | omega) (by first | exact hc6 | omega)) (by decide) (Nat.le_of_ble_eq_true rfl) (by decide) sh_77 rfl rfl rfl (Nat.le_of_ble_eq_true rfl) ?_
  refine ev_istore_n (lv' := [(3, .int (-2)), (0, .ref 77), (1, .int (nI a)), (2, .int (nI b))]) dX6_burstSize_6 rfl (by decide) rfl ?_
  refine ev_iload_n dX6_burstSize_7 rfl 0 rfl ?_
  refine ev_if_ge (tgt := 15) dX6_burstSize_8 (by decide) (fun h8 => ?_) (fun h8 => ?_)
  · exact absurd h8 (by decide)
  · refine ev_iload_n dX6_burstSize_11 rfl 0 rfl ?_
    refine ev_goto (tgt := 26) dX6_burstSize_12 (by decide) ?_
    exact ev_ireturn dX6_burstSize_26 rfl rfl (leafI hQ rfl rfl)

set_option maxRecDepth 100000 in
set_option maxHeartbeats 1000000 in
theorem c_X6_burstSize_ok {l : Launch} {σ : av_S} (a : Nat) (b : Nat) (c : Nat) (ha : a < 6) (hb : b < 6) (hs : (sv (nI c) (nI a) && sv (nI c) (nI b)) = true) (hsh : tb (mnet (σ 78) c a) b = false) (hcn : σ 78 0 = nI c) (hc1 : 1 ≤ c) (hc6 : c ≤ 6) : av_M l RX6 cX6_burstSize 4 (some .int) 4 [.ref 77, .int (nI a), .int (nI b)] σ (some (.int (nI (mbu (σ 78) c a + mbu (σ 78) c b)))) σ := by
  intro Q hQ
  show av_Ev l RX6 cX6_burstSize 4 (some .int) av_E0 4 0 [(0, .ref 77), (1, .int (nI a)), (2, .int (nI b))] [] σ Q
  refine ev_aload_n dX6_burstSize_0 rfl 0 rfl ?_
  refine ev_iload_n dX6_burstSize_1 rfl 1 rfl ?_
  refine ev_iload_n dX6_burstSize_2 rfl 2 rfl ?_
  refine ev_callVi (x := nI 0) dX6_burstSize_3 M_X6_158 Y_X6_forecastError [.int (nI a), .int (nI b)] (c_X6_fe_ok a b c (by omega) (by omega) hs hsh (by first | exact hcn | omega) (by first | exact hc1 | omega) (by first | exact hc6 | omega)) (by decide) (Nat.le_of_ble_eq_true rfl) (by decide) sh_77 rfl rfl rfl (Nat.le_of_ble_eq_true rfl) ?_
  refine ev_istore_n (lv' := [(3, .int (nI 0)), (0, .ref 77), (1, .int (nI a)), (2, .int (nI b))]) dX6_burstSize_6 rfl (by decide) rfl ?_
  refine ev_iload_n dX6_burstSize_7 rfl 0 rfl ?_
  refine ev_nif_ge (tgt := 15) dX6_burstSize_8 (by decide) (by omega) ?_
  refine ev_aload_n dX6_burstSize_15 rfl 1 rfl ?_
  refine ev_iload_n dX6_burstSize_16 rfl 2 rfl ?_
  refine ev_callVi (x := nI (mbu (σ 78) c a)) dX6_burstSize_17 M_X6_161 Y_X6_burstOf [.int (nI a)] (c_X6_burstOf a c (by omega) (by first | exact hcn | omega) (by first | exact hc1 | omega) (by first | exact hc6 | omega)) (by decide) (Nat.le_of_ble_eq_true rfl) (by decide) sh_77 rfl rfl rfl (Nat.le_of_ble_eq_true rfl) ?_
  refine ev_aload_n dX6_burstSize_20 rfl 1 rfl ?_
  refine ev_iload_n dX6_burstSize_21 rfl 3 rfl ?_
  refine ev_callVi (x := nI (mbu (σ 78) c b)) dX6_burstSize_22 M_X6_161 Y_X6_burstOf [.int (nI b)] (c_X6_burstOf b c (by omega) (by first | exact hcn | omega) (by first | exact hc1 | omega) (by first | exact hc6 | omega)) (by decide) (Nat.le_of_ble_eq_true rfl) (by decide) sh_77 rfl rfl rfl (Nat.le_of_ble_eq_true rfl) ?_
  refine ev_iadd dX6_burstSize_25 ?_
  refine ev_top (v := nI (mbu (σ 78) c a + (mbu (σ 78) c b))) (nI_add _ _) ?_
  exact ev_ireturn dX6_burstSize_26 rfl rfl (leafI hQ (by first | rfl | (simp []; done)) rfl)

set_option maxRecDepth 100000 in
set_option maxHeartbeats 1000000 in
theorem c_X6_killsIfConnected_bad {l : Launch} {σ : av_S} (x : Int32) (y : Int32) (c : Nat) (hx : (sv (nI c) x && sv (nI c) y) = false) (hcn : σ 78 0 = nI c) (hc1 : 1 ≤ c) (hc6 : c ≤ 6) : av_M l RX6 cX6_killsIfConnected 4 (some .int) 4 [.ref 77, .int x, .int y] σ (some (.int (-1))) σ := by
  intro Q hQ
  show av_Ev l RX6 cX6_killsIfConnected 4 (some .int) av_E0 4 0 [(0, .ref 77), (1, .int x), (2, .int y)] [] σ Q
  refine ev_aload_n dX6_killsIfConnected_0 rfl 0 rfl ?_
  refine ev_iload_n dX6_killsIfConnected_1 rfl 1 rfl ?_
  refine ev_iload_n dX6_killsIfConnected_2 rfl 2 rfl ?_
  refine ev_callVi (x := (-1)) dX6_killsIfConnected_3 M_X6_158 Y_X6_forecastError [.int x, .int y] (c_X6_fe_bad x y c hx (by first | exact hcn | omega) (by first | exact hc1 | omega) (by first | exact hc6 | omega)) (by decide) (Nat.le_of_ble_eq_true rfl) (by decide) sh_77 rfl rfl rfl (Nat.le_of_ble_eq_true rfl) ?_
  refine ev_istore_n (lv' := [(3, .int (-1)), (0, .ref 77), (1, .int x), (2, .int y)]) dX6_killsIfConnected_6 rfl (by decide) rfl ?_
  refine ev_iload_n dX6_killsIfConnected_7 rfl 0 rfl ?_
  refine ev_if_ge (tgt := 13) dX6_killsIfConnected_8 (by decide) (fun h8 => ?_) (fun h8 => ?_)
  · exact absurd h8 (by decide)
  · refine ev_iload_n dX6_killsIfConnected_11 rfl 0 rfl ?_
    exact ev_ireturn dX6_killsIfConnected_12 rfl rfl (leafI hQ rfl rfl)

set_option maxRecDepth 100000 in
set_option maxHeartbeats 1000000 in
theorem c_X6_killsIfConnected_st {l : Launch} {σ : av_S} (a : Nat) (b : Nat) (c : Nat) (ha : a < 6) (hb : b < 6) (hs : (sv (nI c) (nI a) && sv (nI c) (nI b)) = true) (hsh : tb (mnet (σ 78) c a) b = true) (hcn : σ 78 0 = nI c) (hc1 : 1 ≤ c) (hc6 : c ≤ 6) : av_M l RX6 cX6_killsIfConnected 4 (some .int) 4 [.ref 77, .int (nI a), .int (nI b)] σ (some (.int (-2))) σ := by
  intro Q hQ
  show av_Ev l RX6 cX6_killsIfConnected 4 (some .int) av_E0 4 0 [(0, .ref 77), (1, .int (nI a)), (2, .int (nI b))] [] σ Q
  refine ev_aload_n dX6_killsIfConnected_0 rfl 0 rfl ?_
  refine ev_iload_n dX6_killsIfConnected_1 rfl 1 rfl ?_
  refine ev_iload_n dX6_killsIfConnected_2 rfl 2 rfl ?_
  refine ev_callVi (x := (-2)) dX6_killsIfConnected_3 M_X6_158 Y_X6_forecastError [.int (nI a), .int (nI b)] (c_X6_fe_st a b c (by omega) (by omega) hs hsh (by first | exact hcn | omega) (by first | exact hc1 | omega) (by first | exact hc6 | omega)) (by decide) (Nat.le_of_ble_eq_true rfl) (by decide) sh_77 rfl rfl rfl (Nat.le_of_ble_eq_true rfl) ?_
  refine ev_istore_n (lv' := [(3, .int (-2)), (0, .ref 77), (1, .int (nI a)), (2, .int (nI b))]) dX6_killsIfConnected_6 rfl (by decide) rfl ?_
  refine ev_iload_n dX6_killsIfConnected_7 rfl 0 rfl ?_
  refine ev_if_ge (tgt := 13) dX6_killsIfConnected_8 (by decide) (fun h8 => ?_) (fun h8 => ?_)
  · exact absurd h8 (by decide)
  · refine ev_iload_n dX6_killsIfConnected_11 rfl 0 rfl ?_
    exact ev_ireturn dX6_killsIfConnected_12 rfl rfl (leafI hQ rfl rfl)

set_option maxRecDepth 100000 in
set_option maxHeartbeats 1000000 in
theorem c_X6_killsIfConnected_ok {l : Launch} {σ : av_S} (a : Nat) (b : Nat) (c : Nat) (ha : a < 6) (hb : b < 6) (hs : (sv (nI c) (nI a) && sv (nI c) (nI b)) = true) (hsh : tb (mnet (σ 78) c a) b = false) (hcn : σ 78 0 = nI c) (hc1 : 1 ≤ c) (hc6 : c ≤ 6) : av_M l RX6 cX6_killsIfConnected 4 (some .int) 4 [.ref 77, .int (nI a), .int (nI b)] σ (some (.int (nI ((mgg (rgp (σ 78) c 1 (mnet (σ 78) c b) (rgp (σ 78) c 0 (mnet (σ 78) c a) (σ 81))) 0 0 1 10).1)))) (av_set σ 81 ((mgg (rgp (σ 78) c 1 (mnet (σ 78) c b) (rgp (σ 78) c 0 (mnet (σ 78) c a) (σ 81))) 0 0 1 10).2)) := by
  intro Q hQ
  show av_Ev l RX6 cX6_killsIfConnected 4 (some .int) av_E0 4 0 [(0, .ref 77), (1, .int (nI a)), (2, .int (nI b))] [] σ Q
  refine ev_aload_n dX6_killsIfConnected_0 rfl 0 rfl ?_
  refine ev_iload_n dX6_killsIfConnected_1 rfl 1 rfl ?_
  refine ev_iload_n dX6_killsIfConnected_2 rfl 2 rfl ?_
  refine ev_callVi (x := nI 0) dX6_killsIfConnected_3 M_X6_158 Y_X6_forecastError [.int (nI a), .int (nI b)] (c_X6_fe_ok a b c (by omega) (by omega) hs hsh (by first | exact hcn | omega) (by first | exact hc1 | omega) (by first | exact hc6 | omega)) (by decide) (Nat.le_of_ble_eq_true rfl) (by decide) sh_77 rfl rfl rfl (Nat.le_of_ble_eq_true rfl) ?_
  refine ev_istore_n (lv' := [(3, .int (nI 0)), (0, .ref 77), (1, .int (nI a)), (2, .int (nI b))]) dX6_killsIfConnected_6 rfl (by decide) rfl ?_
  refine ev_iload_n dX6_killsIfConnected_7 rfl 0 rfl ?_
  refine ev_nif_ge (tgt := 13) dX6_killsIfConnected_8 (by decide) (by omega) ?_
  refine ev_aload_n dX6_killsIfConnected_13 rfl 1 rfl ?_
  refine ev_iconst dX6_killsIfConnected_14 (v := nI 0) (by decide) ?_
  refine ev_aload_n dX6_killsIfConnected_15 rfl 1 rfl ?_
  refine ev_iload_n dX6_killsIfConnected_16 rfl 2 rfl ?_
  refine ev_callVi (x := mnet (σ 78) c a) dX6_killsIfConnected_17 M_X6_54 Y_X6_network [.int (nI a)] (c_X6_network a c (by omega) (by first | exact hcn | omega) (by first | exact hc1 | omega) (by first | exact hc6 | omega)) (by decide) (Nat.le_of_ble_eq_true rfl) (by decide) sh_77 rfl rfl rfl (Nat.le_of_ble_eq_true rfl) ?_
  refine ev_callVv (σ' := av_set σ 81 (rgp (σ 78) c 0 (mnet (σ 78) c a) (σ 81))) dX6_killsIfConnected_20 M_X6_164 Y_X6_readGroup [.int (nI 0), .int (mnet (σ 78) c a)] (c_X6_readGroup 0 (mnet (σ 78) c a) c (by omega) (by first | exact hcn | omega) (by first | exact hc1 | omega) (by first | exact hc6 | omega)) (by decide) (Nat.le_of_ble_eq_true rfl) (by decide) sh_77 rfl rfl rfl (Nat.le_of_ble_eq_true rfl) ?_
  refine ev_aload_n dX6_killsIfConnected_23 rfl 1 rfl ?_
  refine ev_iconst dX6_killsIfConnected_24 (v := nI 1) (by decide) ?_
  refine ev_aload_n dX6_killsIfConnected_25 rfl 1 rfl ?_
  refine ev_iload_n dX6_killsIfConnected_26 rfl 3 rfl ?_
  refine ev_callVi (x := mnet (σ 78) c b) dX6_killsIfConnected_27 M_X6_54 Y_X6_network [.int (nI b)] (c_X6_network b c (by omega) (by first | exact hcn | omega) (by first | exact hc1 | omega) (by first | exact hc6 | omega)) (by decide) (Nat.le_of_ble_eq_true rfl) (by decide) sh_77 rfl rfl rfl (Nat.le_of_ble_eq_true rfl) ?_
  refine ev_callVv dX6_killsIfConnected_30 M_X6_164 Y_X6_readGroup [.int (nI 1), .int (mnet (σ 78) c b)] (c_X6_readGroup 1 (mnet (σ 78) c b) c (by omega) (by first | exact hcn | omega) (by first | exact hc1 | omega) (by first | exact hc6 | omega)) (by decide) (Nat.le_of_ble_eq_true rfl) (by decide) sh_77 rfl rfl rfl (Nat.le_of_ble_eq_true rfl) ?_
  refine ev_st (σ' := av_set σ 81 (rgp (σ 78) c 1 (mnet (σ 78) c b) (rgp (σ 78) c 0 (mnet (σ 78) c a) (σ 81)))) (by first | rfl | (funext a; by_cases q81 : a = 81; (next => subst q81; rfl); simp only [av_set, q81, if_false]) | exact av_set_set _ _ _ _ | (funext a; unfold av_set; (repeat' split) <;> first | rfl | (exfalso; omega)) | (funext a; simp only [av_set, cpS]; (repeat' split) <;> first | rfl | (exfalso; omega))) ?_
  refine ev_aload_n dX6_killsIfConnected_33 rfl 1 rfl ?_
  refine ev_iconst dX6_killsIfConnected_34 (v := nI 0) (by decide) ?_
  refine ev_iconst dX6_killsIfConnected_35 (v := nI 0) (by decide) ?_
  refine ev_iconst dX6_killsIfConnected_36 (v := nI 1) (by decide) ?_
  refine ev_callVi (x := nI ((mgg (rgp (σ 78) c 1 (mnet (σ 78) c b) (rgp (σ 78) c 0 (mnet (σ 78) c a) (σ 81))) 0 0 1 10).1)) dX6_killsIfConnected_37 M_X6_167 Y_X6_mergeGroups [.int (nI 0), .int (nI 0), .int (nI 1)] (c_X6_mergeGroups 0 0 1 (by omega) (by omega) (by omega)) (by decide) (Nat.le_of_ble_eq_true rfl) (by decide) sh_77 rfl rfl rfl (Nat.le_of_ble_eq_true rfl) ?_
  refine ev_st (σ' := av_set σ 81 ((mgg (rgp (σ 78) c 1 (mnet (σ 78) c b) (rgp (σ 78) c 0 (mnet (σ 78) c a) (σ 81))) 0 0 1 10).2)) (by first | rfl | (funext a; by_cases q81 : a = 81; (next => subst q81; rfl); simp only [av_set, q81, if_false]) | exact av_set_set _ _ _ _ | (funext a; unfold av_set; (repeat' split) <;> first | rfl | (exfalso; omega)) | (funext a; simp only [av_set, cpS]; (repeat' split) <;> first | rfl | (exfalso; omega))) ?_
  exact ev_ireturn dX6_killsIfConnected_40 rfl rfl (leafI hQ rfl rfl)

