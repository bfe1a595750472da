/-! ===== the reference: contracts, first part ===== -/
set_option maxRecDepth 100000 in
set_option maxHeartbeats 1000000 in
theorem c_X6_in {l : Launch} {σ : av_S} (v : Int32) (a : Int32) (b : Int32)  : av_M l RX6 cX6_in 3 (some .boolean) 0 [.int v, .int a, .int b] σ (some (.int (b2i (inb v a b)))) σ := by
  intro Q hQ
  show av_Ev l RX6 cX6_in 3 (some .boolean) av_E0 0 0 [(0, .int v), (1, .int a), (2, .int b)] [] σ Q
  refine ev_iload_n dX6_in_0 rfl 0 rfl ?_
  refine ev_iload_n dX6_in_1 rfl 1 rfl ?_
  refine ev_icmp_lt (tgt := 14) dX6_in_2 (by decide) (fun h2 => ?_) (fun h2 => ?_)
  · refine ev_iconst dX6_in_14 (v := nI 0) (by decide) ?_
    exact ev_ireturn dX6_in_15 rfl (by decide) (leafI hQ (by simp [b2i, inb, h2]) rfl)
  · refine ev_iload_n dX6_in_5 rfl 0 rfl ?_
    refine ev_iload_n dX6_in_6 rfl 2 rfl ?_
    refine ev_icmp_gt (tgt := 14) dX6_in_7 (by decide) (fun h7 => ?_) (fun h7 => ?_)
    · refine ev_iconst dX6_in_14 (v := nI 0) (by decide) ?_
      exact ev_ireturn dX6_in_15 rfl (by decide) (leafI hQ (by simp [b2i, inb, h2, h7]) rfl)
    · refine ev_iconst dX6_in_10 (v := nI 1) (by decide) ?_
      refine ev_goto (tgt := 15) dX6_in_11 (by decide) ?_
      exact ev_ireturn dX6_in_15 rfl (by decide) (leafI hQ (by simp [b2i, inb, h2, h7]) rfl)

set_option maxRecDepth 100000 in
set_option maxHeartbeats 1000000 in
theorem c_X6_has {l : Launch} {σ : av_S} (S : Int32) (k : Nat) (hk : k < 32) : av_M l RX6 cX6_has 2 (some .boolean) 0 [.int S, .int (nI k)] σ (some (.int (b2i (tb S k)))) σ := by
  intro Q hQ
  show av_Ev l RX6 cX6_has 2 (some .boolean) av_E0 0 0 [(0, .int S), (1, .int (nI k))] [] σ Q
  refine ev_iload_n dX6_has_0 rfl 0 rfl ?_
  refine ev_iload_n dX6_has_1 rfl 1 rfl ?_
  refine ev_ishr dX6_has_2 ?_
  refine ev_iconst dX6_has_3 (v := nI 1) (by decide) ?_
  refine ev_iand dX6_has_4 ?_
  refine ev_iconst dX6_has_5 (v := nI 1) (by decide) ?_
  refine ev_icmp_ne (tgt := 13) dX6_has_6 (by decide) (fun h6 => ?_) (fun h6 => ?_)
  · refine ev_iconst dX6_has_13 (v := nI 0) (by decide) ?_
    exact ev_ireturn dX6_has_14 rfl (by decide) (leafI hQ (by first | (rw [has_t (by omega) (by assumption)]; rfl) | (rw [has_f (by omega) (by assumption)]; rfl)) rfl)
  · refine ev_iconst dX6_has_9 (v := nI 1) (by decide) ?_
    refine ev_goto (tgt := 14) dX6_has_10 (by decide) ?_
    exact ev_ireturn dX6_has_14 rfl (by decide) (leafI hQ (by first | (rw [has_t (by omega) (by assumption)]; rfl) | (rw [has_f (by omega) (by assumption)]; rfl)) rfl)

set_option maxRecDepth 100000 in
set_option maxHeartbeats 1000000 in
theorem c_X6_bitCount {l : Launch} {σ : av_S} (S : Int32)  : av_M l RX6 cX6_bitCount 3 (some .int) 0 [.int S] σ (some (.int (nI (cb 10 S)))) σ := by
  intro Q hQ
  show av_Ev l RX6 cX6_bitCount 3 (some .int) av_E0 0 0 [(0, .int S)] [] σ Q
  refine ev_iconst dX6_bitCount_0 (v := nI 0) (by decide) ?_
  refine ev_istore_n (lv' := [(1, .int (nI 0)), (0, .int S)]) dX6_bitCount_1 rfl (by decide) rfl ?_
  refine ev_iconst dX6_bitCount_2 (v := nI 0) (by decide) ?_
  refine ev_istore_n (lv' := [(2, .int (nI 0)), (1, .int (nI 0)), (0, .int S)]) dX6_bitCount_3 rfl (by decide) rfl ?_
  refine ev_lv (lv' := [(0, .int S), (1, .int (nI 0)), (2, .int (nI 0))]) [2, 1, 0] rfl ?_
  refine loop_up (fun k => av_Ev l RX6 cX6_bitCount 3 (some .int) av_E0 0 4 [(0, .int S), (1, .int (nI (cb k S))), (2, .int (nI k))] [] σ Q) 10 ?_ ?_
  · show av_Ev l RX6 cX6_bitCount 3 (some .int) av_E0 0 4 [(0, .int S), (1, .int (nI (cb 10 S))), (2, .int (nI 10))] [] σ Q
    refine ev_iload_n dX6_bitCount_4 rfl 2 rfl ?_
    refine ev_bipush dX6_bitCount_5 (v := nI 10) (by decide) ?_
    refine ev_ncmp_ge (tgt := 24) dX6_bitCount_7 (by decide) (by omega) (by omega) (fun h7 => ?_) (fun h7 => ?_)
    · refine ev_iload_n dX6_bitCount_24 rfl 1 rfl ?_
      exact ev_ireturn dX6_bitCount_25 rfl rfl (leafI hQ rfl rfl)
    · exact absurd h7 (by omega)
  · intro k hk ihk
    show av_Ev l RX6 cX6_bitCount 3 (some .int) av_E0 0 4 [(0, .int S), (1, .int (nI (cb k S))), (2, .int (nI k))] [] σ Q
    refine ev_iload_n dX6_bitCount_4 rfl 2 rfl ?_
    refine ev_bipush dX6_bitCount_5 (v := nI 10) (by decide) ?_
    refine ev_ncmp_ge (tgt := 24) dX6_bitCount_7 (by decide) (by omega) (by omega) (fun h7 => ?_) (fun h7 => ?_)
    · exact absurd h7 (by omega)
    · refine ev_iload_n dX6_bitCount_10 rfl 1 rfl ?_
      refine ev_iload_n dX6_bitCount_11 rfl 0 rfl ?_
      refine ev_iload_n dX6_bitCount_12 rfl 2 rfl ?_
      refine ev_ishr dX6_bitCount_13 ?_
      refine ev_iconst dX6_bitCount_14 (v := nI 1) (by decide) ?_
      refine ev_iand dX6_bitCount_15 ?_
      refine ev_iadd dX6_bitCount_16 ?_
      refine ev_top (v := nI (cb (k + 1) S)) (cb_add (by omega)) ?_
      refine ev_istore_n (lv' := [(1, .int (nI (cb (k + 1) S))), (0, .int S), (2, .int (nI k))]) dX6_bitCount_17 rfl (by decide) rfl ?_
      refine ev_iinc (lv' := [(2, .int (nI (k + 1))), (1, .int (nI (cb (k + 1) S))), (0, .int S)]) dX6_bitCount_18 2 rfl (nI_inc k) (by decide) rfl ?_
      refine ev_goto (tgt := 4) dX6_bitCount_21 (by decide) ?_
      refine ev_lv (lv' := [(0, .int S), (1, .int (nI (cb (k + 1) S))), (2, .int (nI (k + 1)))]) [2, 1, 0] rfl ?_
      have ih9 : av_Ev l RX6 cX6_bitCount 3 (some .int) av_E0 0 4 [(0, .int S), (1, .int (nI (cb (k + 1) S))), (2, .int (nI (k + 1)))] [] σ Q := ihk
      exact ih9

set_option maxRecDepth 100000 in
set_option maxHeartbeats 1000000 in
theorem c_X6_reset {l : Launch} {σ : av_S} (x : Int32)  : av_M l RX6 cX6_reset 3 none 0 [.ref 77, .int x] σ none (av_set σ 78 (mrs (σ 78) x)) := by
  intro Q hQ
  show av_Ev l RX6 cX6_reset 3 none av_E0 0 0 [(0, .ref 77), (1, .int x)] [] σ Q
  refine ev_iconst dX6_reset_0 (v := nI 0) (by decide) ?_
  refine ev_istore_n (lv' := [(2, .int (nI 0)), (0, .ref 77), (1, .int x)]) dX6_reset_1 rfl (by decide) rfl ?_
  refine ev_lv (lv' := [(0, .ref 77), (1, .int x), (2, .int (nI 0))]) [1, 2, 0] rfl ?_
  refine ev_st (σ' := av_set σ 78 (fo 0 (fun k g => upd g k (mr0 k)) (σ 78))) (by simp only [fo_0] <;> first | rfl | (funext a; unfold av_set; (repeat' split) <;> first | rfl | (subst_vars; rfl) | (exfalso; omega))) ?_
  refine loop_up (fun k => av_Ev l RX6 cX6_reset 3 none av_E0 0 2 [(0, .ref 77), (1, .int x), (2, .int (nI k))] [] (av_set σ 78 (fo k (fun k g => upd g k (mr0 k)) (σ 78))) Q) 238 ?_ ?_
  · show av_Ev l RX6 cX6_reset 3 none av_E0 0 2 [(0, .ref 77), (1, .int x), (2, .int (nI 238))] [] (av_set σ 78 (fo 238 (fun k g => upd g k (mr0 k)) (σ 78))) Q
    refine ev_iload_n dX6_reset_2 rfl 2 rfl ?_
    refine ev_sipush dX6_reset_3 (v := nI 238) (by decide) ?_
    refine ev_ncmp_ge (tgt := 39) dX6_reset_6 (by decide) (by omega) (by omega) (fun h6 => ?_) (fun h6 => ?_)
    · refine ev_aload_n dX6_reset_39 rfl 0 rfl ?_
      refine ev_getR dX6_reset_40 C_X6 L_X6_7 (by decide) (by decide) sh_77 rfl ?_
      refine ev_iconst dX6_reset_43 (v := nI 0) (by decide) ?_
      refine ev_iload_n dX6_reset_44 rfl 1 rfl ?_
      refine ev_iast (e := 0) dX6_reset_45 (by decide) sh_78 (by omega) (by decide) ?_
      refine ev_st (σ' := av_set σ 78 (upd (fo 238 (fun k g => upd g k (mr0 k)) (σ 78)) 0 x)) (by first | rfl | (funext a; by_cases q78 : a = 78; (next => subst q78; rfl); simp only [av_set, q78, if_false]) | exact av_set_set _ _ _ _ | (funext a; unfold av_set; (repeat' split) <;> first | rfl | (exfalso; omega)) | (funext a; simp only [av_set, cpS]; (repeat' split) <;> first | rfl | (exfalso; omega))) ?_
      exact ev_return dX6_reset_46 rfl (leafV hQ rfl)
    · exact absurd h6 (by omega)
  · intro k hk ihk
    show av_Ev l RX6 cX6_reset 3 none av_E0 0 2 [(0, .ref 77), (1, .int x), (2, .int (nI k))] [] (av_set σ 78 (fo k (fun k g => upd g k (mr0 k)) (σ 78))) Q
    refine ev_iload_n dX6_reset_2 rfl 2 rfl ?_
    refine ev_sipush dX6_reset_3 (v := nI 238) (by decide) ?_
    refine ev_ncmp_ge (tgt := 39) dX6_reset_6 (by decide) (by omega) (by omega) (fun h6 => ?_) (fun h6 => ?_)
    · exact absurd h6 (by omega)
    · refine ev_aload_n dX6_reset_9 rfl 0 rfl ?_
      refine ev_getR dX6_reset_10 C_X6 L_X6_7 (by decide) (by decide) sh_77 rfl ?_
      refine ev_iload_n dX6_reset_13 rfl 2 rfl ?_
      refine ev_iload_n dX6_reset_14 rfl 2 rfl ?_
      refine ev_bipush dX6_reset_15 (v := nI 10) (by decide) ?_
      refine ev_ncmp_lt (tgt := 31) dX6_reset_17 (by decide) (by omega) (by omega) (fun h17 => ?_) (fun h17 => ?_)
      · refine ev_iconst dX6_reset_31 (v := nI 0) (by decide) ?_
        refine ev_iast (e := k) dX6_reset_32 (by decide) sh_78 (by omega) (by decide) ?_
        refine ev_st (σ' := av_set σ 78 (upd (fo k (fun k g => upd g k (mr0 k)) (σ 78)) k (nI 0))) (by first | rfl | (funext a; by_cases q78 : a = 78; (next => subst q78; rfl); simp only [av_set, q78, if_false]) | exact av_set_set _ _ _ _ | (funext a; unfold av_set; (repeat' split) <;> first | rfl | (exfalso; omega)) | (funext a; simp only [av_set, cpS]; (repeat' split) <;> first | rfl | (exfalso; omega))) ?_
        refine ev_iinc (lv' := [(2, .int (nI (k + 1))), (0, .ref 77), (1, .int x)]) dX6_reset_33 2 rfl (nI_inc k) (by decide) rfl ?_
        refine ev_goto (tgt := 2) dX6_reset_36 (by decide) ?_
        refine ev_lv (lv' := [(0, .ref 77), (1, .int x), (2, .int (nI (k + 1)))]) [1, 2, 0] rfl ?_
        have ih9 : av_Ev l RX6 cX6_reset 3 none av_E0 0 2 [(0, .ref 77), (1, .int x), (2, .int (nI (k + 1)))] [] (av_set σ 78 (fo (k + 1) (fun k g => upd g k (mr0 k)) (σ 78))) Q := ihk
        rw [show av_set σ 78 (fo (k + 1) (fun k g => upd g k (mr0 k)) (σ 78)) = av_set σ 78 (upd (fo k (fun k g => upd g k (mr0 k)) (σ 78)) k (nI 0)) from (by rw [fo_s]; first | rw [show mr0 k = -9 from if_pos ⟨by omega, by omega⟩] | rw [show mr0 k = nI 0 from if_neg (by omega)])] at ih9
        exact ih9
      · refine ev_iload_n dX6_reset_20 rfl 2 rfl ?_
        refine ev_bipush dX6_reset_21 (v := nI 70) (by decide) ?_
        refine ev_ncmp_ge (tgt := 31) dX6_reset_23 (by decide) (by omega) (by omega) (fun h23 => ?_) (fun h23 => ?_)
        · refine ev_iconst dX6_reset_31 (v := nI 0) (by decide) ?_
          refine ev_iast (e := k) dX6_reset_32 (by decide) sh_78 (by omega) (by decide) ?_
          refine ev_st (σ' := av_set σ 78 (upd (fo k (fun k g => upd g k (mr0 k)) (σ 78)) k (nI 0))) (by first | rfl | (funext a; by_cases q78 : a = 78; (next => subst q78; rfl); simp only [av_set, q78, if_false]) | exact av_set_set _ _ _ _ | (funext a; unfold av_set; (repeat' split) <;> first | rfl | (exfalso; omega)) | (funext a; simp only [av_set, cpS]; (repeat' split) <;> first | rfl | (exfalso; omega))) ?_
          refine ev_iinc (lv' := [(2, .int (nI (k + 1))), (0, .ref 77), (1, .int x)]) dX6_reset_33 2 rfl (nI_inc k) (by decide) rfl ?_
          refine ev_goto (tgt := 2) dX6_reset_36 (by decide) ?_
          refine ev_lv (lv' := [(0, .ref 77), (1, .int x), (2, .int (nI (k + 1)))]) [1, 2, 0] rfl ?_
          have ih9 : av_Ev l RX6 cX6_reset 3 none av_E0 0 2 [(0, .ref 77), (1, .int x), (2, .int (nI (k + 1)))] [] (av_set σ 78 (fo (k + 1) (fun k g => upd g k (mr0 k)) (σ 78))) Q := ihk
          rw [show av_set σ 78 (fo (k + 1) (fun k g => upd g k (mr0 k)) (σ 78)) = av_set σ 78 (upd (fo k (fun k g => upd g k (mr0 k)) (σ 78)) k (nI 0)) from (by rw [fo_s]; first | rw [show mr0 k = -9 from if_pos ⟨by omega, by omega⟩] | rw [show mr0 k = nI 0 from if_neg (by omega)])] at ih9
          exact ih9
        · refine ev_bipush dX6_reset_26 (v := (-9)) (by decide) ?_
          refine ev_goto (tgt := 32) dX6_reset_28 (by decide) ?_
          refine ev_iast (e := k) dX6_reset_32 (by decide) sh_78 (by omega) (by decide) ?_
          refine ev_st (σ' := av_set σ 78 (upd (fo k (fun k g => upd g k (mr0 k)) (σ 78)) k (-9))) (by first | rfl | (funext a; by_cases q78 : a = 78; (next => subst q78; rfl); simp only [av_set, q78, if_false]) | exact av_set_set _ _ _ _ | (funext a; unfold av_set; (repeat' split) <;> first | rfl | (exfalso; omega)) | (funext a; simp only [av_set, cpS]; (repeat' split) <;> first | rfl | (exfalso; omega))) ?_
          refine ev_iinc (lv' := [(2, .int (nI (k + 1))), (0, .ref 77), (1, .int x)]) dX6_reset_33 2 rfl (nI_inc k) (by decide) rfl ?_
          refine ev_goto (tgt := 2) dX6_reset_36 (by decide) ?_
          refine ev_lv (lv' := [(0, .ref 77), (1, .int x), (2, .int (nI (k + 1)))]) [1, 2, 0] rfl ?_
          have ih9 : av_Ev l RX6 cX6_reset 3 none av_E0 0 2 [(0, .ref 77), (1, .int x), (2, .int (nI (k + 1)))] [] (av_set σ 78 (fo (k + 1) (fun k g => upd g k (mr0 k)) (σ 78))) Q := ihk
          rw [show av_set σ 78 (fo (k + 1) (fun k g => upd g k (mr0 k)) (σ 78)) = av_set σ 78 (upd (fo k (fun k g => upd g k (mr0 k)) (σ 78)) k (-9)) from (by rw [fo_s]; first | rw [show mr0 k = -9 from if_pos ⟨by omega, by omega⟩] | rw [show mr0 k = nI 0 from if_neg (by omega)])] at ih9
          exact ih9

set_option maxRecDepth 100000 in
set_option maxHeartbeats 1000000 in
theorem c_X6_save_l {l : Launch} {σ : av_S} (u : Nat) (hu : σ 77 2 = nI u) (hu8 : u ≤ 8) (hu7 : u < 8) : av_M l RX6 cX6_save 2 none 0 [.ref 77] σ none (av_set (av_set σ 77 (upd (σ 77) 2 (nI (svU u)))) 79 (svH (σ 79) (σ 78) u)) := by
  intro Q hQ
  show av_Ev l RX6 cX6_save 2 none av_E0 0 0 [(0, .ref 77)] [] σ Q
  refine ev_aload_n dX6_save_0 rfl 0 rfl ?_
  refine ev_getI dX6_save_1 C_X6 L_X6_38 (by decide) (by decide) sh_77 rfl ?_
  refine ev_top (v := nI u) hu ?_
  refine ev_bipush dX6_save_4 (v := nI 8) (by decide) ?_
  refine ev_ncmp_ne (tgt := 50) dX6_save_6 (by decide) (by omega) (by omega) (fun h6 => ?_) (fun h6 => ?_)
  · refine ev_iconst dX6_save_50 (v := nI 0) (by decide) ?_
    refine ev_istore_n (lv' := [(1, .int (nI 0)), (0, .ref 77)]) dX6_save_51 rfl (by decide) rfl ?_
    refine ev_lv (lv' := [(0, .ref 77), (1, .int (nI 0))]) [1, 0] rfl ?_
    refine ev_st (σ' := av_set σ 79 (fo 0 (fun k g => upd g (238 * u + k) (σ 78 k)) (σ 79))) (by simp only [fo_0] <;> first | rfl | (funext a; unfold av_set; (repeat' split) <;> first | rfl | (subst_vars; rfl) | (exfalso; omega))) ?_
    refine loop_up (fun k => av_Ev l RX6 cX6_save 2 none av_E0 0 52 [(0, .ref 77), (1, .int (nI k))] [] (av_set σ 79 (fo k (fun k g => upd g (238 * u + k) (σ 78 k)) (σ 79))) Q) 238 ?_ ?_
    · show av_Ev l RX6 cX6_save 2 none av_E0 0 52 [(0, .ref 77), (1, .int (nI 238))] [] (av_set σ 79 (fo 238 (fun k g => upd g (238 * u + k) (σ 78 k)) (σ 79))) Q
      refine ev_iload_n dX6_save_52 rfl 1 rfl ?_
      refine ev_sipush dX6_save_53 (v := nI 238) (by decide) ?_
      refine ev_ncmp_ge (tgt := 86) dX6_save_56 (by decide) (by omega) (by omega) (fun h56 => ?_) (fun h56 => ?_)
      · refine ev_aload_n dX6_save_86 rfl 0 rfl ?_
        refine ev_dup_a dX6_save_87 ?_
        refine ev_getI dX6_save_88 C_X6 L_X6_38 (by decide) (by decide) sh_77 rfl ?_
        refine ev_top (v := σ 77 2) (by first | rfl | (simp only [av_set, cpS]; (repeat' split) <;> first | rfl | (exfalso; omega))) ?_
        refine ev_top (v := nI u) hu ?_
        refine ev_iconst dX6_save_91 (v := nI 1) (by decide) ?_
        refine ev_iadd dX6_save_92 ?_
        refine ev_top (v := nI (u + 1)) (nI_add _ _) ?_
        refine ev_putI dX6_save_93 C_X6 L_X6_38 (by decide) (by decide) sh_77 rfl rfl rfl ?_
        refine ev_st (σ' := av_set (av_set σ 77 (upd (σ 77) 2 (nI (u + 1)))) 79 (fo 238 (fun k g => upd g (238 * u + k) (σ 78 k)) (σ 79))) (by first | rfl | (funext a; by_cases q77 : a = 77; (next => subst q77; rfl); by_cases q79 : a = 79; (next => subst q79; rfl); simp only [av_set, q77, q79, if_false]) | exact av_set_set _ _ _ _ | (funext a; unfold av_set; (repeat' split) <;> first | rfl | (exfalso; omega)) | (funext a; simp only [av_set, cpS]; (repeat' split) <;> first | rfl | (exfalso; omega))) ?_
        exact ev_return dX6_save_96 rfl (leafV hQ (by rw [show svU u = u + 1 from if_neg (by omega), show svH (σ 79) (σ 78) u = svP (σ 79) (σ 78) u from if_neg (by omega)]; rfl))
      · exact absurd h56 (by omega)
    · intro k hk ihk
      show av_Ev l RX6 cX6_save 2 none av_E0 0 52 [(0, .ref 77), (1, .int (nI k))] [] (av_set σ 79 (fo k (fun k g => upd g (238 * u + k) (σ 78 k)) (σ 79))) Q
      refine ev_iload_n dX6_save_52 rfl 1 rfl ?_
      refine ev_sipush dX6_save_53 (v := nI 238) (by decide) ?_
      refine ev_ncmp_ge (tgt := 86) dX6_save_56 (by decide) (by omega) (by omega) (fun h56 => ?_) (fun h56 => ?_)
      · exact absurd h56 (by omega)
      · refine ev_aload_n dX6_save_59 rfl 0 rfl ?_
        refine ev_getR dX6_save_60 C_X6 L_X6_13 (by decide) (by decide) sh_77 rfl ?_
        refine ev_sipush dX6_save_63 (v := nI 238) (by decide) ?_
        refine ev_aload_n dX6_save_66 rfl 0 rfl ?_
        refine ev_getI dX6_save_67 C_X6 L_X6_38 (by decide) (by decide) sh_77 rfl ?_
        refine ev_top (v := σ 77 2) (by first | rfl | (simp only [av_set, cpS]; (repeat' split) <;> first | rfl | (exfalso; omega))) ?_
        refine ev_top (v := nI u) hu ?_
        refine ev_imul dX6_save_70 ?_
        refine ev_top (v := nI (238 * u)) (pk_mul _ _) ?_
        refine ev_iload_n dX6_save_71 rfl 1 rfl ?_
        refine ev_iadd dX6_save_72 ?_
        refine ev_top (v := nI (238 * u + k)) (nI_add _ _) ?_
        refine ev_aload_n dX6_save_73 rfl 0 rfl ?_
        refine ev_getR dX6_save_74 C_X6 L_X6_7 (by decide) (by decide) sh_77 rfl ?_
        refine ev_iload_n dX6_save_77 rfl 1 rfl ?_
        refine ev_iald (e := k) (v := σ 78 k) dX6_save_78 (by decide) sh_78 (by omega) (by decide) (by first | rfl | (simp only [av_set, cpS]; (repeat' split) <;> first | rfl | (exfalso; omega))) ?_
        refine ev_iast (e := 238 * u + k) dX6_save_79 (by decide) sh_79 (by omega) (by decide) ?_
        refine ev_st (σ' := av_set σ 79 (upd (fo k (fun k g => upd g (238 * u + k) (σ 78 k)) (σ 79)) (238 * u + k) (σ 78 k))) (by first | rfl | (funext a; by_cases q79 : a = 79; (next => subst q79; rfl); simp only [av_set, q79, if_false]) | exact av_set_set _ _ _ _ | (funext a; unfold av_set; (repeat' split) <;> first | rfl | (exfalso; omega)) | (funext a; simp only [av_set, cpS]; (repeat' split) <;> first | rfl | (exfalso; omega))) ?_
        refine ev_iinc (lv' := [(1, .int (nI (k + 1))), (0, .ref 77)]) dX6_save_80 1 rfl (nI_inc k) (by decide) rfl ?_
        refine ev_goto (tgt := 52) dX6_save_83 (by decide) ?_
        refine ev_lv (lv' := [(0, .ref 77), (1, .int (nI (k + 1)))]) [1, 0] rfl ?_
        have ih9 : av_Ev l RX6 cX6_save 2 none av_E0 0 52 [(0, .ref 77), (1, .int (nI (k + 1)))] [] (av_set σ 79 (fo (k + 1) (fun k g => upd g (238 * u + k) (σ 78 k)) (σ 79))) Q := ihk
        rw [show av_set σ 79 (fo (k + 1) (fun k g => upd g (238 * u + k) (σ 78 k)) (σ 79)) = av_set σ 79 (upd (fo k (fun k g => upd g (238 * u + k) (σ 78 k)) (σ 79)) (238 * u + k) (σ 78 k)) from rfl] at ih9
        exact ih9
  · exact absurd h6 (by omega)

set_option maxRecDepth 100000 in
set_option maxHeartbeats 1000000 in
theorem c_X6_save_f {l : Launch} {σ : av_S} (u : Nat) (hu : σ 77 2 = nI u) (hu8 : u ≤ 8) (hu7 : u = 8) : av_M l RX6 cX6_save 2 none 0 [.ref 77] σ none (av_set (av_set σ 77 (upd (σ 77) 2 (nI (svU u)))) 79 (svH (σ 79) (σ 78) u)) := by
  intro Q hQ
  show av_Ev l RX6 cX6_save 2 none av_E0 0 0 [(0, .ref 77)] [] σ Q
  refine ev_aload_n dX6_save_0 rfl 0 rfl ?_
  refine ev_getI dX6_save_1 C_X6 L_X6_38 (by decide) (by decide) sh_77 rfl ?_
  refine ev_top (v := nI u) hu ?_
  refine ev_bipush dX6_save_4 (v := nI 8) (by decide) ?_
  refine ev_ncmp_ne (tgt := 50) dX6_save_6 (by decide) (by omega) (by omega) (fun h6 => ?_) (fun h6 => ?_)
  · exact absurd h6 (by omega)
  · refine ev_iconst dX6_save_9 (v := nI 0) (by decide) ?_
    refine ev_istore_n (lv' := [(1, .int (nI 0)), (0, .ref 77)]) dX6_save_10 rfl (by decide) rfl ?_
    refine ev_lv (lv' := [(0, .ref 77), (1, .int (nI 0))]) [1, 0] rfl ?_
    refine ev_st (σ' := av_set σ 79 (fo 0 (fun k g => upd g k (g (k + 238))) (σ 79))) (by simp only [fo_0] <;> first | rfl | (funext a; unfold av_set; (repeat' split) <;> first | rfl | (subst_vars; rfl) | (exfalso; omega))) ?_
    refine loop_up (fun k => av_Ev l RX6 cX6_save 2 none av_E0 0 11 [(0, .ref 77), (1, .int (nI k))] [] (av_set σ 79 (fo k (fun k g => upd g k (g (k + 238))) (σ 79))) Q) 1666 ?_ ?_
    · show av_Ev l RX6 cX6_save 2 none av_E0 0 11 [(0, .ref 77), (1, .int (nI 1666))] [] (av_set σ 79 (fo 1666 (fun k g => upd g k (g (k + 238))) (σ 79))) Q
      refine ev_iload_n dX6_save_11 rfl 1 rfl ?_
      refine ev_sipush dX6_save_12 (v := nI 1666) (by decide) ?_
      refine ev_ncmp_ge (tgt := 40) dX6_save_15 (by decide) (by omega) (by omega) (fun h15 => ?_) (fun h15 => ?_)
      · refine ev_aload_n dX6_save_40 rfl 0 rfl ?_
        refine ev_dup_a dX6_save_41 ?_
        refine ev_getI dX6_save_42 C_X6 L_X6_38 (by decide) (by decide) sh_77 rfl ?_
        refine ev_top (v := σ 77 2) (by first | rfl | (simp only [av_set, cpS]; (repeat' split) <;> first | rfl | (exfalso; omega))) ?_
        refine ev_top (v := nI u) hu ?_
        refine ev_iconst dX6_save_45 (v := nI 1) (by decide) ?_
        refine ev_isub dX6_save_46 ?_
        refine ev_top (v := nI (u - 1)) (pk_sub (by omega)) ?_
        refine ev_putI dX6_save_47 C_X6 L_X6_38 (by decide) (by decide) sh_77 rfl rfl rfl ?_
        refine ev_st (σ' := av_set (av_set σ 77 (upd (σ 77) 2 (nI (u - 1)))) 79 (fo 1666 (fun k g => upd g k (g (k + 238))) (σ 79))) (by first | rfl | (funext a; by_cases q77 : a = 77; (next => subst q77; rfl); by_cases q79 : a = 79; (next => subst q79; rfl); simp only [av_set, q77, q79, if_false]) | exact av_set_set _ _ _ _ | (funext a; unfold av_set; (repeat' split) <;> first | rfl | (exfalso; omega)) | (funext a; simp only [av_set, cpS]; (repeat' split) <;> first | rfl | (exfalso; omega))) ?_
        refine ev_iconst dX6_save_50 (v := nI 0) (by decide) ?_
        refine ev_istore_n (lv' := [(1, .int (nI 0)), (0, .ref 77)]) dX6_save_51 rfl (by decide) rfl ?_
        refine ev_lv (lv' := [(0, .ref 77), (1, .int (nI 0))]) [1, 0] rfl ?_
        refine ev_st (σ' := av_set (av_set σ 77 (upd (σ 77) 2 (nI (u - 1)))) 79 (fo 0 (fun k g => upd g (238 * (u - 1) + k) (σ 78 k)) (fo 1666 (fun k g => upd g k (g (k + 238))) (σ 79)))) (by simp only [fo_0] <;> first | rfl | (funext a; unfold av_set; (repeat' split) <;> first | rfl | (subst_vars; rfl) | (exfalso; omega))) ?_
        refine loop_up (fun k => av_Ev l RX6 cX6_save 2 none av_E0 0 52 [(0, .ref 77), (1, .int (nI k))] [] (av_set (av_set σ 77 (upd (σ 77) 2 (nI (u - 1)))) 79 (fo k (fun k g => upd g (238 * (u - 1) + k) (σ 78 k)) (fo 1666 (fun k g => upd g k (g (k + 238))) (σ 79)))) Q) 238 ?_ ?_
        · show av_Ev l RX6 cX6_save 2 none av_E0 0 52 [(0, .ref 77), (1, .int (nI 238))] [] (av_set (av_set σ 77 (upd (σ 77) 2 (nI (u - 1)))) 79 (fo 238 (fun k g => upd g (238 * (u - 1) + k) (σ 78 k)) (fo 1666 (fun k g => upd g k (g (k + 238))) (σ 79)))) Q
          refine ev_iload_n dX6_save_52 rfl 1 rfl ?_
          refine ev_sipush dX6_save_53 (v := nI 238) (by decide) ?_
          refine ev_ncmp_ge (tgt := 86) dX6_save_56 (by decide) (by omega) (by omega) (fun h56 => ?_) (fun h56 => ?_)
          · refine ev_aload_n dX6_save_86 rfl 0 rfl ?_
            refine ev_dup_a dX6_save_87 ?_
            refine ev_getI dX6_save_88 C_X6 L_X6_38 (by decide) (by decide) sh_77 rfl ?_
            refine ev_top (v := nI (u - 1)) (by first | rfl | (simp only [av_set, cpS]; (repeat' split) <;> first | rfl | (exfalso; omega))) ?_
            refine ev_iconst dX6_save_91 (v := nI 1) (by decide) ?_
            refine ev_iadd dX6_save_92 ?_
            refine ev_top (v := nI (u - 1 + 1)) (nI_add _ _) ?_
            refine ev_putI dX6_save_93 C_X6 L_X6_38 (by decide) (by decide) sh_77 rfl rfl rfl ?_
            refine ev_st (σ' := av_set (av_set σ 77 (upd (upd (σ 77) 2 (nI (u - 1))) 2 (nI (u - 1 + 1)))) 79 (fo 238 (fun k g => upd g (238 * (u - 1) + k) (σ 78 k)) (fo 1666 (fun k g => upd g k (g (k + 238))) (σ 79)))) (by first | rfl | (funext a; by_cases q77 : a = 77; (next => subst q77; rfl); by_cases q79 : a = 79; (next => subst q79; rfl); simp only [av_set, q77, q79, if_false]) | exact av_set_set _ _ _ _ | (funext a; unfold av_set; (repeat' split) <;> first | rfl | (exfalso; omega)) | (funext a; simp only [av_set, cpS]; (repeat' split) <;> first | rfl | (exfalso; omega))) ?_
            exact ev_return dX6_save_96 rfl (leafV hQ (by subst hu7; rw [upd_upd]; rfl))
          · exact absurd h56 (by omega)
        · intro k hk ihk
          show av_Ev l RX6 cX6_save 2 none av_E0 0 52 [(0, .ref 77), (1, .int (nI k))] [] (av_set (av_set σ 77 (upd (σ 77) 2 (nI (u - 1)))) 79 (fo k (fun k g => upd g (238 * (u - 1) + k) (σ 78 k)) (fo 1666 (fun k g => upd g k (g (k + 238))) (σ 79)))) Q
          refine ev_iload_n dX6_save_52 rfl 1 rfl ?_
          refine ev_sipush dX6_save_53 (v := nI 238) (by decide) ?_
          refine ev_ncmp_ge (tgt := 86) dX6_save_56 (by decide) (by omega) (by omega) (fun h56 => ?_) (fun h56 => ?_)
          · exact absurd h56 (by omega)
          · refine ev_aload_n dX6_save_59 rfl 0 rfl ?_
            refine ev_getR dX6_save_60 C_X6 L_X6_13 (by decide) (by decide) sh_77 rfl ?_
            refine ev_sipush dX6_save_63 (v := nI 238) (by decide) ?_
            refine ev_aload_n dX6_save_66 rfl 0 rfl ?_
            refine ev_getI dX6_save_67 C_X6 L_X6_38 (by decide) (by decide) sh_77 rfl ?_
            refine ev_top (v := nI (u - 1)) (by first | rfl | (simp only [av_set, cpS]; (repeat' split) <;> first | rfl | (exfalso; omega))) ?_
            refine ev_imul dX6_save_70 ?_
            refine ev_top (v := nI (238 * (u - 1))) (pk_mul _ _) ?_
            refine ev_iload_n dX6_save_71 rfl 1 rfl ?_
            refine ev_iadd dX6_save_72 ?_
            refine ev_top (v := nI (238 * (u - 1) + k)) (nI_add _ _) ?_
            refine ev_aload_n dX6_save_73 rfl 0 rfl ?_
            refine ev_getR dX6_save_74 C_X6 L_X6_7 (by decide) (by decide) sh_77 rfl ?_
            refine ev_iload_n dX6_save_77 rfl 1 rfl ?_
            refine ev_iald (e := k) (v := σ 78 k) dX6_save_78 (by decide) sh_78 (by omega) (by decide) (by first | rfl | (simp only [av_set, cpS]; (repeat' split) <;> first | rfl | (exfalso; omega))) ?_
            refine ev_iast (e := 238 * (u - 1) + k) dX6_save_79 (by decide) sh_79 (by omega) (by decide) ?_
            refine ev_st (σ' := av_set (av_set σ 77 (upd (σ 77) 2 (nI (u - 1)))) 79 (upd (fo k (fun k g => upd g (238 * (u - 1) + k) (σ 78 k)) (fo 1666 (fun k g => upd g k (g (k + 238))) (σ 79))) (238 * (u - 1) + k) (σ 78 k))) (by first | rfl | (funext a; by_cases q77 : a = 77; (next => subst q77; rfl); by_cases q79 : a = 79; (next => subst q79; rfl); simp only [av_set, q77, q79, if_false]) | exact av_set_set _ _ _ _ | (funext a; unfold av_set; (repeat' split) <;> first | rfl | (exfalso; omega)) | (funext a; simp only [av_set, cpS]; (repeat' split) <;> first | rfl | (exfalso; omega))) ?_
            refine ev_iinc (lv' := [(1, .int (nI (k + 1))), (0, .ref 77)]) dX6_save_80 1 rfl (nI_inc k) (by decide) rfl ?_
            refine ev_goto (tgt := 52) dX6_save_83 (by decide) ?_
            refine ev_lv (lv' := [(0, .ref 77), (1, .int (nI (k + 1)))]) [1, 0] rfl ?_
            have ih9 : av_Ev l RX6 cX6_save 2 none av_E0 0 52 [(0, .ref 77), (1, .int (nI (k + 1)))] [] (av_set (av_set σ 77 (upd (σ 77) 2 (nI (u - 1)))) 79 (fo (k + 1) (fun k g => upd g (238 * (u - 1) + k) (σ 78 k)) (fo 1666 (fun k g => upd g k (g (k + 238))) (σ 79)))) Q := ihk
            rw [show av_set (av_set σ 77 (upd (σ 77) 2 (nI (u - 1)))) 79 (fo (k + 1) (fun k g => upd g (238 * (u - 1) + k) (σ 78 k)) (fo 1666 (fun k g => upd g k (g (k + 238))) (σ 79))) = av_set (av_set σ 77 (upd (σ 77) 2 (nI (u - 1)))) 79 (upd (fo k (fun k g => upd g (238 * (u - 1) + k) (σ 78 k)) (fo 1666 (fun k g => upd g k (g (k + 238))) (σ 79))) (238 * (u - 1) + k) (σ 78 k)) from rfl] at ih9
            exact ih9
      · exact absurd h15 (by omega)
    · intro k hk ihk
      show av_Ev l RX6 cX6_save 2 none av_E0 0 11 [(0, .ref 77), (1, .int (nI k))] [] (av_set σ 79 (fo k (fun k g => upd g k (g (k + 238))) (σ 79))) Q
      refine ev_iload_n dX6_save_11 rfl 1 rfl ?_
      refine ev_sipush dX6_save_12 (v := nI 1666) (by decide) ?_
      refine ev_ncmp_ge (tgt := 40) dX6_save_15 (by decide) (by omega) (by omega) (fun h15 => ?_) (fun h15 => ?_)
      · exact absurd h15 (by omega)
      · refine ev_aload_n dX6_save_18 rfl 0 rfl ?_
        refine ev_getR dX6_save_19 C_X6 L_X6_13 (by decide) (by decide) sh_77 rfl ?_
        refine ev_iload_n dX6_save_22 rfl 1 rfl ?_
        refine ev_aload_n dX6_save_23 rfl 0 rfl ?_
        refine ev_getR dX6_save_24 C_X6 L_X6_13 (by decide) (by decide) sh_77 rfl ?_
        refine ev_iload_n dX6_save_27 rfl 1 rfl ?_
        refine ev_sipush dX6_save_28 (v := nI 238) (by decide) ?_
        refine ev_iadd dX6_save_31 ?_
        refine ev_top (v := nI (k + 238)) (nI_add _ _) ?_
        refine ev_iald (e := k + 238) (v := (fo k (fun k g => upd g k (g (k + 238))) (σ 79)) (k + 238)) dX6_save_32 (by decide) sh_79 (by omega) (by decide) (by first | rfl | (simp only [av_set, cpS]; (repeat' split) <;> first | rfl | (exfalso; omega))) ?_
        refine ev_iast (e := k) dX6_save_33 (by decide) sh_79 (by omega) (by decide) ?_
        refine ev_st (σ' := av_set σ 79 (upd (fo k (fun k g => upd g k (g (k + 238))) (σ 79)) k ((fo k (fun k g => upd g k (g (k + 238))) (σ 79)) (k + 238)))) (by first | rfl | (funext a; by_cases q79 : a = 79; (next => subst q79; rfl); simp only [av_set, q79, if_false]) | exact av_set_set _ _ _ _ | (funext a; unfold av_set; (repeat' split) <;> first | rfl | (exfalso; omega)) | (funext a; simp only [av_set, cpS]; (repeat' split) <;> first | rfl | (exfalso; omega))) ?_
        refine ev_iinc (lv' := [(1, .int (nI (k + 1))), (0, .ref 77)]) dX6_save_34 1 rfl (nI_inc k) (by decide) rfl ?_
        refine ev_goto (tgt := 11) dX6_save_37 (by decide) ?_
        refine ev_lv (lv' := [(0, .ref 77), (1, .int (nI (k + 1)))]) [1, 0] rfl ?_
        have ih9 : av_Ev l RX6 cX6_save 2 none av_E0 0 11 [(0, .ref 77), (1, .int (nI (k + 1)))] [] (av_set σ 79 (fo (k + 1) (fun k g => upd g k (g (k + 238))) (σ 79))) Q := ihk
        rw [show av_set σ 79 (fo (k + 1) (fun k g => upd g k (g (k + 238))) (σ 79)) = av_set σ 79 (upd (fo k (fun k g => upd g k (g (k + 238))) (σ 79)) k ((fo k (fun k g => upd g k (g (k + 238))) (σ 79)) (k + 238))) from rfl] at ih9
        exact ih9

theorem c_X6_save {l : Launch} {σ : av_S} (u : Nat) (hu : σ 77 2 = nI u) (hu8 : u ≤ 8) : av_M l RX6 cX6_save 2 none 0 [.ref 77] σ none (av_set (av_set σ 77 (upd (σ 77) 2 (nI (svU u)))) 79 (svH (σ 79) (σ 78) u)) := by
  by_cases h : u = 8
  · exact c_X6_save_f u hu hu8 h
  · exact c_X6_save_l u hu hu8 (by omega)

set_option maxRecDepth 100000 in
set_option maxHeartbeats 1000000 in
theorem c_X6_undo_st {l : Launch} {σ : av_S}  (hu : σ 77 2 = nI 0) : av_M l RX6 cX6_undo 2 (some .int) 0 [.ref 77] σ (some (.int (-2))) σ := by
  intro Q hQ
  show av_Ev l RX6 cX6_undo 2 (some .int) av_E0 0 0 [(0, .ref 77)] [] σ Q
  refine ev_aload_n dX6_undo_0 rfl 0 rfl ?_
  refine ev_getI dX6_undo_1 C_X6 L_X6_38 (by decide) (by decide) sh_77 rfl ?_
  refine ev_top (v := nI 0) hu ?_
  refine ev_nif_ne (tgt := 10) dX6_undo_4 (by decide) (by omega) (fun h4 => ?_) (fun h4 => ?_)
  · exact absurd h4 (by omega)
  · refine ev_bipush dX6_undo_7 (v := (-2)) (by decide) ?_
    exact ev_ireturn dX6_undo_9 rfl rfl (leafI hQ rfl rfl)

set_option maxRecDepth 100000 in
set_option maxHeartbeats 1000000 in
theorem c_X6_undo_ok {l : Launch} {σ : av_S} (u : Nat) (hu : σ 77 2 = nI u) (hu8 : u ≤ 8) (hu1 : 1 ≤ u) : av_M l RX6 cX6_undo 2 (some .int) 0 [.ref 77] σ (some (.int (nI (u - 1)))) (av_set (av_set σ 77 (upd (σ 77) 2 (nI (u - 1)))) 78 (unN (σ 78) (σ 79) (u - 1))) := by
  intro Q hQ
  show av_Ev l RX6 cX6_undo 2 (some .int) av_E0 0 0 [(0, .ref 77)] [] σ Q
  refine ev_aload_n dX6_undo_0 rfl 0 rfl ?_
  refine ev_getI dX6_undo_1 C_X6 L_X6_38 (by decide) (by decide) sh_77 rfl ?_
  refine ev_top (v := nI u) hu ?_
  refine ev_nif_ne (tgt := 10) dX6_undo_4 (by decide) (by omega) (fun h4 => ?_) (fun h4 => ?_)
  · refine ev_aload_n dX6_undo_10 rfl 0 rfl ?_
    refine ev_dup_a dX6_undo_11 ?_
    refine ev_getI dX6_undo_12 C_X6 L_X6_38 (by decide) (by decide) sh_77 rfl ?_
    refine ev_top (v := nI u) hu ?_
    refine ev_iconst dX6_undo_15 (v := nI 1) (by decide) ?_
    refine ev_isub dX6_undo_16 ?_
    refine ev_top (v := nI (u - 1)) (pk_sub (by omega)) ?_
    refine ev_putI dX6_undo_17 C_X6 L_X6_38 (by decide) (by decide) sh_77 rfl rfl rfl ?_
    refine ev_iconst dX6_undo_20 (v := nI 0) (by decide) ?_
    refine ev_istore_n (lv' := [(1, .int (nI 0)), (0, .ref 77)]) dX6_undo_21 rfl (by decide) rfl ?_
    refine ev_lv (lv' := [(0, .ref 77), (1, .int (nI 0))]) [1, 0] rfl ?_
    refine ev_st (σ' := av_set (av_set σ 77 (upd (σ 77) 2 (nI (u - 1)))) 78 (fo 0 (fun k g => upd g k (σ 79 (238 * (u - 1) + k))) (σ 78))) (by simp only [fo_0] <;> first | rfl | (funext a; unfold av_set; (repeat' split) <;> first | rfl | (subst_vars; rfl) | (exfalso; omega))) ?_
    refine loop_up (fun k => av_Ev l RX6 cX6_undo 2 (some .int) av_E0 0 22 [(0, .ref 77), (1, .int (nI k))] [] (av_set (av_set σ 77 (upd (σ 77) 2 (nI (u - 1)))) 78 (fo k (fun k g => upd g k (σ 79 (238 * (u - 1) + k))) (σ 78))) Q) 238 ?_ ?_
    · show av_Ev l RX6 cX6_undo 2 (some .int) av_E0 0 22 [(0, .ref 77), (1, .int (nI 238))] [] (av_set (av_set σ 77 (upd (σ 77) 2 (nI (u - 1)))) 78 (fo 238 (fun k g => upd g k (σ 79 (238 * (u - 1) + k))) (σ 78))) Q
      refine ev_iload_n dX6_undo_22 rfl 1 rfl ?_
      refine ev_sipush dX6_undo_23 (v := nI 238) (by decide) ?_
      refine ev_ncmp_ge (tgt := 56) dX6_undo_26 (by decide) (by omega) (by omega) (fun h26 => ?_) (fun h26 => ?_)
      · refine ev_aload_n dX6_undo_56 rfl 0 rfl ?_
        refine ev_getI dX6_undo_57 C_X6 L_X6_38 (by decide) (by decide) sh_77 rfl ?_
        refine ev_top (v := nI (u - 1)) (by first | rfl | (simp only [av_set, cpS]; (repeat' split) <;> first | rfl | (exfalso; omega))) ?_
        exact ev_ireturn dX6_undo_60 rfl rfl (leafI hQ rfl rfl)
      · exact absurd h26 (by omega)
    · intro k hk ihk
      show av_Ev l RX6 cX6_undo 2 (some .int) av_E0 0 22 [(0, .ref 77), (1, .int (nI k))] [] (av_set (av_set σ 77 (upd (σ 77) 2 (nI (u - 1)))) 78 (fo k (fun k g => upd g k (σ 79 (238 * (u - 1) + k))) (σ 78))) Q
      refine ev_iload_n dX6_undo_22 rfl 1 rfl ?_
      refine ev_sipush dX6_undo_23 (v := nI 238) (by decide) ?_
      refine ev_ncmp_ge (tgt := 56) dX6_undo_26 (by decide) (by omega) (by omega) (fun h26 => ?_) (fun h26 => ?_)
      · exact absurd h26 (by omega)
      · refine ev_aload_n dX6_undo_29 rfl 0 rfl ?_
        refine ev_getR dX6_undo_30 C_X6 L_X6_7 (by decide) (by decide) sh_77 rfl ?_
        refine ev_iload_n dX6_undo_33 rfl 1 rfl ?_
        refine ev_aload_n dX6_undo_34 rfl 0 rfl ?_
        refine ev_getR dX6_undo_35 C_X6 L_X6_13 (by decide) (by decide) sh_77 rfl ?_
        refine ev_sipush dX6_undo_38 (v := nI 238) (by decide) ?_
        refine ev_aload_n dX6_undo_41 rfl 0 rfl ?_
        refine ev_getI dX6_undo_42 C_X6 L_X6_38 (by decide) (by decide) sh_77 rfl ?_
        refine ev_top (v := nI (u - 1)) (by first | rfl | (simp only [av_set, cpS]; (repeat' split) <;> first | rfl | (exfalso; omega))) ?_
        refine ev_imul dX6_undo_45 ?_
        refine ev_top (v := nI (238 * (u - 1))) (pk_mul _ _) ?_
        refine ev_iload_n dX6_undo_46 rfl 1 rfl ?_
        refine ev_iadd dX6_undo_47 ?_
        refine ev_top (v := nI (238 * (u - 1) + k)) (nI_add _ _) ?_
        refine ev_iald (e := 238 * (u - 1) + k) (v := σ 79 (238 * (u - 1) + k)) dX6_undo_48 (by decide) sh_79 (by omega) (by decide) (by first | rfl | (simp only [av_set, cpS]; (repeat' split) <;> first | rfl | (exfalso; omega))) ?_
        refine ev_iast (e := k) dX6_undo_49 (by decide) sh_78 (by omega) (by decide) ?_
        refine ev_st (σ' := av_set (av_set σ 77 (upd (σ 77) 2 (nI (u - 1)))) 78 (upd (fo k (fun k g => upd g k (σ 79 (238 * (u - 1) + k))) (σ 78)) k (σ 79 (238 * (u - 1) + k)))) (by first | rfl | (funext a; by_cases q77 : a = 77; (next => subst q77; rfl); by_cases q78 : a = 78; (next => subst q78; rfl); simp only [av_set, q77, q78, if_false]) | exact av_set_set _ _ _ _ | (funext a; unfold av_set; (repeat' split) <;> first | rfl | (exfalso; omega)) | (funext a; simp only [av_set, cpS]; (repeat' split) <;> first | rfl | (exfalso; omega))) ?_
        refine ev_iinc (lv' := [(1, .int (nI (k + 1))), (0, .ref 77)]) dX6_undo_50 1 rfl (nI_inc k) (by decide) rfl ?_
        refine ev_goto (tgt := 22) dX6_undo_53 (by decide) ?_
        refine ev_lv (lv' := [(0, .ref 77), (1, .int (nI (k + 1)))]) [1, 0] rfl ?_
        have ih9 : av_Ev l RX6 cX6_undo 2 (some .int) av_E0 0 22 [(0, .ref 77), (1, .int (nI (k + 1)))] [] (av_set (av_set σ 77 (upd (σ 77) 2 (nI (u - 1)))) 78 (fo (k + 1) (fun k g => upd g k (σ 79 (238 * (u - 1) + k))) (σ 78))) Q := ihk
        rw [show av_set (av_set σ 77 (upd (σ 77) 2 (nI (u - 1)))) 78 (fo (k + 1) (fun k g => upd g k (σ 79 (238 * (u - 1) + k))) (σ 78)) = av_set (av_set σ 77 (upd (σ 77) 2 (nI (u - 1)))) 78 (upd (fo k (fun k g => upd g k (σ 79 (238 * (u - 1) + k))) (σ 78)) k (σ 79 (238 * (u - 1) + k))) from rfl] at ih9
        exact ih9
  · exact absurd h4 (by omega)

set_option maxRecDepth 100000 in
set_option maxHeartbeats 1000000 in
theorem c_X6_isServer {l : Launch} {σ : av_S} (x : Int32) (c : Nat) (hcn : σ 78 0 = nI c) (hc1 : 1 ≤ c) (hc6 : c ≤ 6) : av_M l RX6 cX6_isServer 2 (some .boolean) 1 [.ref 77, .int x] σ (some (.int (b2i (sv (nI c) x)))) σ := by
  intro Q hQ
  show av_Ev l RX6 cX6_isServer 2 (some .boolean) av_E0 1 0 [(0, .ref 77), (1, .int x)] [] σ Q
  refine ev_iload_n dX6_isServer_0 rfl 1 rfl ?_
  refine ev_iconst dX6_isServer_1 (v := nI 0) (by decide) ?_
  refine ev_aload_n dX6_isServer_2 rfl 0 rfl ?_
  refine ev_getR dX6_isServer_3 C_X6 L_X6_7 (by decide) (by decide) sh_77 rfl ?_
  refine ev_iconst dX6_isServer_6 (v := nI 0) (by decide) ?_
  refine ev_iald (e := 0) (v := σ 78 0) dX6_isServer_7 (by decide) sh_78 (by omega) (by decide) rfl ?_
  refine ev_top (v := nI c) hcn ?_
  refine ev_iconst dX6_isServer_8 (v := nI 1) (by decide) ?_
  refine ev_isub dX6_isServer_9 ?_
  refine ev_top (v := nI (c - 1)) (pk_sub (by omega)) ?_
  refine ev_callSi (x := b2i (inb x (nI 0) (nI (c - 1)))) dX6_isServer_10 (Or.inl M_X6_42) Y_X6_in [.int x, .int (nI 0), .int (nI (c - 1))] (c_X6_in x (nI 0) (nI (c - 1)) ) (by decide) (Nat.le_of_ble_eq_true rfl) rfl rfl (Nat.le_of_ble_eq_true rfl) ?_
  refine ev_top (v := b2i (sv (nI c) x)) (by rw [sv_inb (by omega) (by omega)]) ?_
  exact ev_ireturn dX6_isServer_13 rfl (b2i_narrow _) (leafI hQ rfl rfl)

set_option maxRecDepth 100000 in
set_option maxHeartbeats 1000000 in
theorem c_X6_areServers {l : Launch} {σ : av_S} (x : Int32) (y : Int32) (c : Nat) (hcn : σ 78 0 = nI c) (hc1 : 1 ≤ c) (hc6 : c ≤ 6) : av_M l RX6 cX6_areServers 3 (some .boolean) 2 [.ref 77, .int x, .int y] σ (some (.int (b2i (sv (nI c) x && sv (nI c) y)))) σ := by
  intro Q hQ
  show av_Ev l RX6 cX6_areServers 3 (some .boolean) av_E0 2 0 [(0, .ref 77), (1, .int x), (2, .int y)] [] σ Q
  refine ev_aload_n dX6_areServers_0 rfl 0 rfl ?_
  refine ev_iload_n dX6_areServers_1 rfl 1 rfl ?_
  refine ev_callVi (x := b2i (sv (nI c) x)) dX6_areServers_2 M_X6_46 Y_X6_isServer [.int x] (c_X6_isServer x c (by first | exact hcn | omega) (by first | exact hc1 | omega) (by first | exact hc6 | omega)) (by decide) (Nat.le_of_ble_eq_true rfl) (by decide) sh_77 rfl rfl rfl (Nat.le_of_ble_eq_true rfl) ?_
  refine ev_ifb_eq (tgt := 20) dX6_areServers_5 (by decide) (fun h5 => ?_) (fun h5 => ?_)
  · refine ev_iconst dX6_areServers_20 (v := nI 0) (by decide) ?_
    exact ev_ireturn dX6_areServers_21 rfl (by decide) (leafI hQ (by simp [b2i, h5]) rfl)
  · refine ev_aload_n dX6_areServers_8 rfl 0 rfl ?_
    refine ev_iload_n dX6_areServers_9 rfl 2 rfl ?_
    refine ev_callVi (x := b2i (sv (nI c) y)) dX6_areServers_10 M_X6_46 Y_X6_isServer [.int y] (c_X6_isServer y c (by first | exact hcn | omega) (by first | exact hc1 | omega) (by first | exact hc6 | omega)) (by decide) (Nat.le_of_ble_eq_true rfl) (by decide) sh_77 rfl rfl rfl (Nat.le_of_ble_eq_true rfl) ?_
    refine ev_ifb_eq (tgt := 20) dX6_areServers_13 (by decide) (fun h13 => ?_) (fun h13 => ?_)
    · refine ev_iconst dX6_areServers_20 (v := nI 0) (by decide) ?_
      exact ev_ireturn dX6_areServers_21 rfl (by decide) (leafI hQ (by simp [b2i, h5, h13]) rfl)
    · refine ev_iconst dX6_areServers_16 (v := nI 1) (by decide) ?_
      refine ev_goto (tgt := 21) dX6_areServers_17 (by decide) ?_
      exact ev_ireturn dX6_areServers_21 rfl (by decide) (leafI hQ (by simp [b2i, h5, h13]) rfl)

set_option maxRecDepth 100000 in
set_option maxHeartbeats 1000000 in
theorem c_X6_isNick {l : Launch} {σ : av_S} (x : Int32)  : av_M l RX6 cX6_isNick 1 (some .boolean) 1 [.int x] σ (some (.int (b2i (sv (nI 10) x)))) σ := by
  intro Q hQ
  show av_Ev l RX6 cX6_isNick 1 (some .boolean) av_E0 1 0 [(0, .int x)] [] σ Q
  refine ev_iload_n dX6_isNick_0 rfl 0 rfl ?_
  refine ev_iconst dX6_isNick_1 (v := nI 0) (by decide) ?_
  refine ev_bipush dX6_isNick_2 (v := nI 9) (by decide) ?_
  refine ev_callSi (x := b2i (inb x (nI 0) (nI 9))) dX6_isNick_4 (Or.inl M_X6_42) Y_X6_in [.int x, .int (nI 0), .int (nI 9)] (c_X6_in x (nI 0) (nI 9) ) (by decide) (Nat.le_of_ble_eq_true rfl) rfl rfl (Nat.le_of_ble_eq_true rfl) ?_
  refine ev_top (v := b2i (sv (nI 10) x)) (by rw [show nI 9 = nI (10 - 1) from rfl, sv_inb (by omega) (by omega)]) ?_
  exact ev_ireturn dX6_isNick_7 rfl (b2i_narrow _) (leafI hQ rfl rfl)

set_option maxRecDepth 100000 in
set_option maxHeartbeats 1000000 in
theorem c_X6_isChannel {l : Launch} {σ : av_S} (x : Int32)  : av_M l RX6 cX6_isChannel 1 (some .boolean) 1 [.int x] σ (some (.int (b2i (sv (nI 4) x)))) σ := by
  intro Q hQ
  show av_Ev l RX6 cX6_isChannel 1 (some .boolean) av_E0 1 0 [(0, .int x)] [] σ Q
  refine ev_iload_n dX6_isChannel_0 rfl 0 rfl ?_
  refine ev_iconst dX6_isChannel_1 (v := nI 0) (by decide) ?_
  refine ev_iconst dX6_isChannel_2 (v := nI 3) (by decide) ?_
  refine ev_callSi (x := b2i (inb x (nI 0) (nI 3))) dX6_isChannel_3 (Or.inl M_X6_42) Y_X6_in [.int x, .int (nI 0), .int (nI 3)] (c_X6_in x (nI 0) (nI 3) ) (by decide) (Nat.le_of_ble_eq_true rfl) rfl rfl (Nat.le_of_ble_eq_true rfl) ?_
  refine ev_top (v := b2i (sv (nI 4) x)) (by rw [show nI 3 = nI (4 - 1) from rfl, sv_inb (by omega) (by omega)]) ?_
  exact ev_ireturn dX6_isChannel_6 rfl (b2i_narrow _) (leafI hQ rfl rfl)

set_option maxRecDepth 100000 in
set_option maxHeartbeats 1000000 in
theorem c_X6_network {l : Launch} {σ : av_S} (s : Nat) (c : Nat) (hs : s < 6) (hcn : σ 78 0 = nI c) (hc1 : 1 ≤ c) (hc6 : c ≤ 6) : av_M l RX6 cX6_network 5 (some .int) 1 [.ref 77, .int (nI s)] σ (some (.int (mnet (σ 78) c s))) σ := by
  intro Q hQ
  show av_Ev l RX6 cX6_network 5 (some .int) av_E0 1 0 [(0, .ref 77), (1, .int (nI s))] [] σ Q
  refine ev_iconst dX6_network_0 (v := nI 1) (by decide) ?_
  refine ev_iload_n dX6_network_1 rfl 1 rfl ?_
  refine ev_ishl dX6_network_2 ?_
  refine ev_top (v := bt s) rfl ?_
  refine ev_istore_n (lv' := [(2, .int (bt s)), (0, .ref 77), (1, .int (nI s))]) dX6_network_3 rfl (by decide) rfl ?_
  refine ev_iconst dX6_network_4 (v := nI 0) (by decide) ?_
  refine ev_istore_n (lv' := [(3, .int (nI 0)), (2, .int (bt s)), (0, .ref 77), (1, .int (nI s))]) dX6_network_5 rfl (by decide) rfl ?_
  refine ev_lv (lv' := [(0, .ref 77), (1, .int (nI s)), (2, .int (bt s)), (3, .int (nI 0))]) [2, 3, 1, 0] rfl ?_
  refine loop_up (fun r => av_Ev l RX6 cX6_network 5 (some .int) av_E0 1 6 [(0, .ref 77), (1, .int (nI s)), (2, .int (fo r (fun _ S => mnR (σ 78) c S) (bt s))), (3, .int (nI r))] [] σ Q) 6 ?_ ?_
  · show av_Ev l RX6 cX6_network 5 (some .int) av_E0 1 6 [(0, .ref 77), (1, .int (nI s)), (2, .int (fo 6 (fun _ S => mnR (σ 78) c S) (bt s))), (3, .int (nI 6))] [] σ Q
    refine ev_iload_n dX6_network_6 rfl 3 rfl ?_
    refine ev_bipush dX6_network_7 (v := nI 6) (by decide) ?_
    refine ev_ncmp_ge (tgt := 63) dX6_network_9 (by decide) (by omega) (by omega) (fun h9 => ?_) (fun h9 => ?_)
    · refine ev_iload_n dX6_network_63 rfl 2 rfl ?_
      exact ev_ireturn dX6_network_64 rfl rfl (leafI hQ (by first | rfl | (simp [h9]; done)) rfl)
    · exact absurd h9 (by omega)
  · intro r hr ihr
    show av_Ev l RX6 cX6_network 5 (some .int) av_E0 1 6 [(0, .ref 77), (1, .int (nI s)), (2, .int (fo r (fun _ S => mnR (σ 78) c S) (bt s))), (3, .int (nI r))] [] σ Q
    refine ev_iload_n dX6_network_6 rfl 3 rfl ?_
    refine ev_bipush dX6_network_7 (v := nI 6) (by decide) ?_
    refine ev_ncmp_ge (tgt := 63) dX6_network_9 (by decide) (by omega) (by omega) (fun h9 => ?_) (fun h9 => ?_)
    · exact absurd h9 (by omega)
    · refine ev_iconst dX6_network_12 (v := nI 0) (by decide) ?_
      refine ev_istore (lv' := [(4, .int (nI 0)), (0, .ref 77), (1, .int (nI s)), (2, .int (fo r (fun _ S => mnR (σ 78) c S) (bt s))), (3, .int (nI r))]) dX6_network_13 (by decide) rfl ?_
      refine ev_lv (lv' := [(0, .ref 77), (1, .int (nI s)), (2, .int (fo r (fun _ S => mnR (σ 78) c S) (bt s))), (3, .int (nI r)), (4, .int (nI 0))]) [1, 2, 3, 4, 0] rfl ?_
      refine loop_up (fun k => av_Ev l RX6 cX6_network 5 (some .int) av_E0 1 15 [(0, .ref 77), (1, .int (nI s)), (2, .int (fo k (fun k S => mnF (σ 78) k S) (fo r (fun _ S => mnR (σ 78) c S) (bt s)))), (3, .int (nI r)), (4, .int (nI k))] [] σ Q) c ?_ ?_
      · show av_Ev l RX6 cX6_network 5 (some .int) av_E0 1 15 [(0, .ref 77), (1, .int (nI s)), (2, .int (fo c (fun k S => mnF (σ 78) k S) (fo r (fun _ S => mnR (σ 78) c S) (bt s)))), (3, .int (nI r)), (4, .int (nI c))] [] σ Q
        refine ev_iload dX6_network_15 4 rfl ?_
        refine ev_aload_n dX6_network_17 rfl 0 rfl ?_
        refine ev_getR dX6_network_18 C_X6 L_X6_7 (by decide) (by decide) sh_77 rfl ?_
        refine ev_iconst dX6_network_21 (v := nI 0) (by decide) ?_
        refine ev_iald (e := 0) (v := σ 78 0) dX6_network_22 (by decide) sh_78 (by omega) (by decide) rfl ?_
        refine ev_top (v := nI c) hcn ?_
        refine ev_ncmp_ge (tgt := 57) dX6_network_23 (by decide) (by omega) (by omega) (fun h23 => ?_) (fun h23 => ?_)
        · refine ev_iinc (lv' := [(3, .int (nI (r + 1))), (0, .ref 77), (1, .int (nI s)), (2, .int (fo c (fun k S => mnF (σ 78) k S) (fo r (fun _ S => mnR (σ 78) c S) (bt s)))), (4, .int (nI c))]) dX6_network_57 3 rfl (nI_inc r) (by decide) rfl ?_
          refine ev_goto (tgt := 6) dX6_network_60 (by decide) ?_
          refine ev_lv (lv' := [(0, .ref 77), (1, .int (nI s)), (2, .int (fo c (fun k S => mnF (σ 78) k S) (fo r (fun _ S => mnR (σ 78) c S) (bt s)))), (3, .int (nI (r + 1)))]) [1, 2, 3, 0] rfl ?_
          have ih9 : av_Ev l RX6 cX6_network 5 (some .int) av_E0 1 6 [(0, .ref 77), (1, .int (nI s)), (2, .int (fo (r + 1) (fun _ S => mnR (σ 78) c S) (bt s))), (3, .int (nI (r + 1)))] [] σ Q := ihr
          rw [show fo (r + 1) (fun _ S => mnR (σ 78) c S) (bt s) = fo c (fun k S => mnF (σ 78) k S) (fo r (fun _ S => mnR (σ 78) c S) (bt s)) from rfl] at ih9
          exact ih9
        · exact absurd h23 (by omega)
      · intro k hk ihk
        show av_Ev l RX6 cX6_network 5 (some .int) av_E0 1 15 [(0, .ref 77), (1, .int (nI s)), (2, .int (fo k (fun k S => mnF (σ 78) k S) (fo r (fun _ S => mnR (σ 78) c S) (bt s)))), (3, .int (nI r)), (4, .int (nI k))] [] σ Q
        refine ev_iload dX6_network_15 4 rfl ?_
        refine ev_aload_n dX6_network_17 rfl 0 rfl ?_
        refine ev_getR dX6_network_18 C_X6 L_X6_7 (by decide) (by decide) sh_77 rfl ?_
        refine ev_iconst dX6_network_21 (v := nI 0) (by decide) ?_
        refine ev_iald (e := 0) (v := σ 78 0) dX6_network_22 (by decide) sh_78 (by omega) (by decide) rfl ?_
        refine ev_top (v := nI c) hcn ?_
        refine ev_ncmp_ge (tgt := 57) dX6_network_23 (by decide) (by omega) (by omega) (fun h23 => ?_) (fun h23 => ?_)
        · exact absurd h23 (by omega)
        · refine ev_iload_n dX6_network_26 rfl 2 rfl ?_
          refine ev_iload_n dX6_network_27 rfl 2 rfl ?_
          refine ev_iload dX6_network_28 4 rfl ?_
          refine ev_callSi (x := b2i (tb (fo k (fun k S => mnF (σ 78) k S) (fo r (fun _ S => mnR (σ 78) c S) (bt s))) k)) dX6_network_30 (Or.inl M_X6_50) Y_X6_has [.int (fo k (fun k S => mnF (σ 78) k S) (fo r (fun _ S => mnR (σ 78) c S) (bt s))), .int (nI k)] (c_X6_has (fo k (fun k S => mnF (σ 78) k S) (fo r (fun _ S => mnR (σ 78) c S) (bt s))) k (by omega)) (by decide) (Nat.le_of_ble_eq_true rfl) rfl rfl (Nat.le_of_ble_eq_true rfl) ?_
          refine ev_ifb_eq (tgt := 48) dX6_network_33 (by decide) (fun h33 => ?_) (fun h33 => ?_)
          · refine ev_iconst dX6_network_48 (v := nI 0) (by decide) ?_
            refine ev_ior dX6_network_49 ?_
            refine ev_istore_n (lv' := [(2, .int ((fo k (fun k S => mnF (σ 78) k S) (fo r (fun _ S => mnR (σ 78) c S) (bt s))) ||| (nI 0))), (0, .ref 77), (1, .int (nI s)), (3, .int (nI r)), (4, .int (nI k))]) dX6_network_50 rfl (by decide) rfl ?_
            refine ev_iinc (lv' := [(4, .int (nI (k + 1))), (2, .int ((fo k (fun k S => mnF (σ 78) k S) (fo r (fun _ S => mnR (σ 78) c S) (bt s))) ||| (nI 0))), (0, .ref 77), (1, .int (nI s)), (3, .int (nI r))]) dX6_network_51 4 rfl (nI_inc k) (by decide) rfl ?_
            refine ev_goto (tgt := 15) dX6_network_54 (by decide) ?_
            refine ev_lv (lv' := [(0, .ref 77), (1, .int (nI s)), (2, .int ((fo k (fun k S => mnF (σ 78) k S) (fo r (fun _ S => mnR (σ 78) c S) (bt s))) ||| (nI 0))), (3, .int (nI r)), (4, .int (nI (k + 1)))]) [2, 3, 1, 4, 0] rfl ?_
            have ih9 : av_Ev l RX6 cX6_network 5 (some .int) av_E0 1 15 [(0, .ref 77), (1, .int (nI s)), (2, .int (fo (k + 1) (fun k S => mnF (σ 78) k S) (fo r (fun _ S => mnR (σ 78) c S) (bt s)))), (3, .int (nI r)), (4, .int (nI (k + 1)))] [] σ Q := ihk
            rw [show fo (k + 1) (fun k S => mnF (σ 78) k S) (fo r (fun _ S => mnR (σ 78) c S) (bt s)) = (fo k (fun k S => mnF (σ 78) k S) (fo r (fun _ S => mnR (σ 78) c S) (bt s))) ||| (nI 0) from (by rw [fo_s]; first | rw [mnF_t h33] | rw [mnF_f h33])] at ih9
            exact ih9
          · refine ev_aload_n dX6_network_36 rfl 0 rfl ?_
            refine ev_getR dX6_network_37 C_X6 L_X6_7 (by decide) (by decide) sh_77 rfl ?_
            refine ev_iconst dX6_network_40 (v := nI 4) (by decide) ?_
            refine ev_iload dX6_network_41 4 rfl ?_
            refine ev_iadd dX6_network_43 ?_
            refine ev_top (v := nI (4 + k)) (nI_add _ _) ?_
            refine ev_iald (e := 4 + k) (v := σ 78 (4 + k)) dX6_network_44 (by decide) sh_78 (by omega) (by decide) rfl ?_
            refine ev_goto (tgt := 49) dX6_network_45 (by decide) ?_
            refine ev_ior dX6_network_49 ?_
            refine ev_istore_n (lv' := [(2, .int ((fo k (fun k S => mnF (σ 78) k S) (fo r (fun _ S => mnR (σ 78) c S) (bt s))) ||| (σ 78 (4 + k)))), (0, .ref 77), (1, .int (nI s)), (3, .int (nI r)), (4, .int (nI k))]) dX6_network_50 rfl (by decide) rfl ?_
            refine ev_iinc (lv' := [(4, .int (nI (k + 1))), (2, .int ((fo k (fun k S => mnF (σ 78) k S) (fo r (fun _ S => mnR (σ 78) c S) (bt s))) ||| (σ 78 (4 + k)))), (0, .ref 77), (1, .int (nI s)), (3, .int (nI r))]) dX6_network_51 4 rfl (nI_inc k) (by decide) rfl ?_
            refine ev_goto (tgt := 15) dX6_network_54 (by decide) ?_
            refine ev_lv (lv' := [(0, .ref 77), (1, .int (nI s)), (2, .int ((fo k (fun k S => mnF (σ 78) k S) (fo r (fun _ S => mnR (σ 78) c S) (bt s))) ||| (σ 78 (4 + k)))), (3, .int (nI r)), (4, .int (nI (k + 1)))]) [2, 3, 1, 4, 0] rfl ?_
            have ih9 : av_Ev l RX6 cX6_network 5 (some .int) av_E0 1 15 [(0, .ref 77), (1, .int (nI s)), (2, .int (fo (k + 1) (fun k S => mnF (σ 78) k S) (fo r (fun _ S => mnR (σ 78) c S) (bt s)))), (3, .int (nI r)), (4, .int (nI (k + 1)))] [] σ Q := ihk
            rw [show fo (k + 1) (fun k S => mnF (σ 78) k S) (fo r (fun _ S => mnR (σ 78) c S) (bt s)) = (fo k (fun k S => mnF (σ 78) k S) (fo r (fun _ S => mnR (σ 78) c S) (bt s))) ||| (σ 78 (4 + k)) from (by rw [fo_s]; first | rw [mnF_t h33] | rw [mnF_f h33])] at ih9
            exact ih9

set_option maxRecDepth 100000 in
set_option maxHeartbeats 1000000 in
theorem c_X6_areConnected {l : Launch} {σ : av_S} (a : Nat) (b : Nat) (c : Nat) (ha : a < 6) (hb : b < 32) (hcn : σ 78 0 = nI c) (hc1 : 1 ≤ c) (hc6 : c ≤ 6) : av_M l RX6 cX6_areConnected 3 (some .boolean) 2 [.ref 77, .int (nI a), .int (nI b)] σ (some (.int (b2i (tb (mnet (σ 78) c a) b)))) σ := by
  intro Q hQ
  show av_Ev l RX6 cX6_areConnected 3 (some .boolean) av_E0 2 0 [(0, .ref 77), (1, .int (nI a)), (2, .int (nI b))] [] σ Q
  refine ev_aload_n dX6_areConnected_0 rfl 0 rfl ?_
  refine ev_iload_n dX6_areConnected_1 rfl 1 rfl ?_
  refine ev_callVi (x := mnet (σ 78) c a) dX6_areConnected_2 M_X6_54 Y_X6_network [.int (nI a)] (c_X6_network a c (by omega) (by first | exact hcn | omega) (by first | exact hc1 | omega) (by first | exact hc6 | omega)) (by decide) (Nat.le_of_ble_eq_true rfl) (by decide) sh_77 rfl rfl rfl (Nat.le_of_ble_eq_true rfl) ?_
  refine ev_iload_n dX6_areConnected_5 rfl 2 rfl ?_
  refine ev_callSi (x := b2i (tb (mnet (σ 78) c a) b)) dX6_areConnected_6 (Or.inl M_X6_50) Y_X6_has [.int (mnet (σ 78) c a), .int (nI b)] (c_X6_has (mnet (σ 78) c a) b (by omega)) (by decide) (Nat.le_of_ble_eq_true rfl) rfl rfl (Nat.le_of_ble_eq_true rfl) ?_
  exact ev_ireturn dX6_areConnected_9 rfl (b2i_narrow _) (leafI hQ rfl rfl)

set_option maxRecDepth 100000 in
set_option maxHeartbeats 1000000 in
theorem c_X6_areLinked {l : Launch} {σ : av_S} (a : Nat) (b : Nat) (ha : a < 6) (hb : b < 32) : av_M l RX6 cX6_areLinked 3 (some .boolean) 1 [.ref 77, .int (nI a), .int (nI b)] σ (some (.int (b2i (tb (σ 78 (4 + a)) b)))) σ := by
  intro Q hQ
  show av_Ev l RX6 cX6_areLinked 3 (some .boolean) av_E0 1 0 [(0, .ref 77), (1, .int (nI a)), (2, .int (nI b))] [] σ Q
  refine ev_aload_n dX6_areLinked_0 rfl 0 rfl ?_
  refine ev_getR dX6_areLinked_1 C_X6 L_X6_7 (by decide) (by decide) sh_77 rfl ?_
  refine ev_iconst dX6_areLinked_4 (v := nI 4) (by decide) ?_
  refine ev_iload_n dX6_areLinked_5 rfl 1 rfl ?_
  refine ev_iadd dX6_areLinked_6 ?_
  refine ev_top (v := nI (4 + a)) (nI_add _ _) ?_
  refine ev_iald (e := 4 + a) (v := σ 78 (4 + a)) dX6_areLinked_7 (by decide) sh_78 (by omega) (by decide) rfl ?_
  refine ev_iload_n dX6_areLinked_8 rfl 2 rfl ?_
  refine ev_callSi (x := b2i (tb (σ 78 (4 + a)) b)) dX6_areLinked_9 (Or.inl M_X6_50) Y_X6_has [.int (σ 78 (4 + a)), .int (nI b)] (c_X6_has (σ 78 (4 + a)) b (by omega)) (by decide) (Nat.le_of_ble_eq_true rfl) rfl rfl (Nat.le_of_ble_eq_true rfl) ?_
  exact ev_ireturn dX6_areLinked_12 rfl (b2i_narrow _) (leafI hQ rfl rfl)

set_option maxRecDepth 100000 in
set_option maxHeartbeats 1000000 in
theorem c_X6_setLink {l : Launch} {σ : av_S} (a : Nat) (b : Nat) (p : Bool) (ha : a < 6) (hb : b < 6) : av_M l RX6 cX6_setLink 4 none 0 [.ref 77, .int (nI a), .int (nI b), .int (b2i p)] σ none (av_set σ 78 (mlk (σ 78) a b p)) := by
  intro Q hQ
  show av_Ev l RX6 cX6_setLink 4 none av_E0 0 0 [(0, .ref 77), (1, .int (nI a)), (2, .int (nI b)), (3, .int (b2i p))] [] σ Q
  refine ev_aload_n dX6_setLink_0 rfl 0 rfl ?_
  refine ev_getR dX6_setLink_1 C_X6 L_X6_7 (by decide) (by decide) sh_77 rfl ?_
  refine ev_iconst dX6_setLink_4 (v := nI 4) (by decide) ?_
  refine ev_iload_n dX6_setLink_5 rfl 1 rfl ?_
  refine ev_iadd dX6_setLink_6 ?_
  refine ev_top (v := nI (4 + a)) (nI_add _ _) ?_
  refine ev_aload_n dX6_setLink_7 rfl 0 rfl ?_
  refine ev_getR dX6_setLink_8 C_X6 L_X6_7 (by decide) (by decide) sh_77 rfl ?_
  refine ev_iconst dX6_setLink_11 (v := nI 4) (by decide) ?_
  refine ev_iload_n dX6_setLink_12 rfl 1 rfl ?_
  refine ev_iadd dX6_setLink_13 ?_
  refine ev_top (v := nI (4 + a)) (nI_add _ _) ?_
  refine ev_iald (e := 4 + a) (v := σ 78 (4 + a)) dX6_setLink_14 (by decide) sh_78 (by omega) (by decide) rfl ?_
  refine ev_iconst dX6_setLink_15 (v := nI 1) (by decide) ?_
  refine ev_iload_n dX6_setLink_16 rfl 2 rfl ?_
  refine ev_ishl dX6_setLink_17 ?_
  refine ev_top (v := bt b) rfl ?_
  refine ev_iconst dX6_setLink_18 (v := (-1)) (by decide) ?_
  refine ev_ixor dX6_setLink_19 ?_
  refine ev_iand dX6_setLink_20 ?_
  refine ev_iload_n dX6_setLink_21 rfl 3 rfl ?_
  refine ev_ifb_eq (tgt := 31) dX6_setLink_22 (by decide) (fun h22 => ?_) (fun h22 => ?_)
  · refine ev_iconst dX6_setLink_31 (v := nI 0) (by decide) ?_
    refine ev_ior dX6_setLink_32 ?_
    refine ev_iast (e := 4 + a) dX6_setLink_33 (by decide) sh_78 (by omega) (by decide) ?_
    refine ev_aload_n dX6_setLink_34 rfl 0 rfl ?_
    refine ev_getR dX6_setLink_35 C_X6 L_X6_7 (by decide) (by decide) sh_77 rfl ?_
    refine ev_iconst dX6_setLink_38 (v := nI 4) (by decide) ?_
    refine ev_iload_n dX6_setLink_39 rfl 2 rfl ?_
    refine ev_iadd dX6_setLink_40 ?_
    refine ev_top (v := nI (4 + b)) (nI_add _ _) ?_
    refine ev_aload_n dX6_setLink_41 rfl 0 rfl ?_
    refine ev_getR dX6_setLink_42 C_X6 L_X6_7 (by decide) (by decide) sh_77 rfl ?_
    refine ev_iconst dX6_setLink_45 (v := nI 4) (by decide) ?_
    refine ev_iload_n dX6_setLink_46 rfl 2 rfl ?_
    refine ev_iadd dX6_setLink_47 ?_
    refine ev_top (v := nI (4 + b)) (nI_add _ _) ?_
    refine ev_iald (e := 4 + b) (v := (upd (σ 78) (4 + a) (((σ 78 (4 + a)) &&& ((bt b) ^^^ (-1))) ||| (nI 0))) (4 + b)) dX6_setLink_48 (by decide) sh_78 (by omega) (by decide) (by first | rfl | (simp only [av_set, cpS]; (repeat' split) <;> first | rfl | (exfalso; omega))) ?_
    refine ev_iconst dX6_setLink_49 (v := nI 1) (by decide) ?_
    refine ev_iload_n dX6_setLink_50 rfl 1 rfl ?_
    refine ev_ishl dX6_setLink_51 ?_
    refine ev_top (v := bt a) rfl ?_
    refine ev_iconst dX6_setLink_52 (v := (-1)) (by decide) ?_
    refine ev_ixor dX6_setLink_53 ?_
    refine ev_iand dX6_setLink_54 ?_
    refine ev_iload_n dX6_setLink_55 rfl 3 rfl ?_
    refine ev_ifb_eq (tgt := 65) dX6_setLink_56 (by decide) (fun h56 => ?_) (fun h56 => ?_)
    · refine ev_iconst dX6_setLink_65 (v := nI 0) (by decide) ?_
      refine ev_ior dX6_setLink_66 ?_
      refine ev_iast (e := 4 + b) dX6_setLink_67 (by decide) sh_78 (by omega) (by decide) ?_
      refine ev_st (σ' := av_set σ 78 (upd (upd (σ 78) (4 + a) (((σ 78 (4 + a)) &&& ((bt b) ^^^ (-1))) ||| (nI 0))) (4 + b) ((((upd (σ 78) (4 + a) (((σ 78 (4 + a)) &&& ((bt b) ^^^ (-1))) ||| (nI 0))) (4 + b)) &&& ((bt a) ^^^ (-1))) ||| (nI 0)))) (by first | rfl | (funext a; by_cases q78 : a = 78; (next => subst q78; rfl); simp only [av_set, q78, if_false]) | exact av_set_set _ _ _ _ | (funext a; unfold av_set; (repeat' split) <;> first | rfl | (exfalso; omega)) | (funext a; simp only [av_set, cpS]; (repeat' split) <;> first | rfl | (exfalso; omega))) ?_
      exact ev_return dX6_setLink_68 rfl (leafV hQ (by simp only [mlk, ml1, h22, h56, cond_true, cond_false]))
    · exact absurd (h22.symm.trans h56) (by decide)
  · refine ev_iconst dX6_setLink_25 (v := nI 1) (by decide) ?_
    refine ev_iload_n dX6_setLink_26 rfl 2 rfl ?_
    refine ev_ishl dX6_setLink_27 ?_
    refine ev_top (v := bt b) rfl ?_
    refine ev_goto (tgt := 32) dX6_setLink_28 (by decide) ?_
    refine ev_ior dX6_setLink_32 ?_
    refine ev_iast (e := 4 + a) dX6_setLink_33 (by decide) sh_78 (by omega) (by decide) ?_
    refine ev_aload_n dX6_setLink_34 rfl 0 rfl ?_
    refine ev_getR dX6_setLink_35 C_X6 L_X6_7 (by decide) (by decide) sh_77 rfl ?_
    refine ev_iconst dX6_setLink_38 (v := nI 4) (by decide) ?_
    refine ev_iload_n dX6_setLink_39 rfl 2 rfl ?_
    refine ev_iadd dX6_setLink_40 ?_
    refine ev_top (v := nI (4 + b)) (nI_add _ _) ?_
    refine ev_aload_n dX6_setLink_41 rfl 0 rfl ?_
    refine ev_getR dX6_setLink_42 C_X6 L_X6_7 (by decide) (by decide) sh_77 rfl ?_
    refine ev_iconst dX6_setLink_45 (v := nI 4) (by decide) ?_
    refine ev_iload_n dX6_setLink_46 rfl 2 rfl ?_
    refine ev_iadd dX6_setLink_47 ?_
    refine ev_top (v := nI (4 + b)) (nI_add _ _) ?_
    refine ev_iald (e := 4 + b) (v := (upd (σ 78) (4 + a) (((σ 78 (4 + a)) &&& ((bt b) ^^^ (-1))) ||| (bt b))) (4 + b)) dX6_setLink_48 (by decide) sh_78 (by omega) (by decide) (by first | rfl | (simp only [av_set, cpS]; (repeat' split) <;> first | rfl | (exfalso; omega))) ?_
    refine ev_iconst dX6_setLink_49 (v := nI 1) (by decide) ?_
    refine ev_iload_n dX6_setLink_50 rfl 1 rfl ?_
    refine ev_ishl dX6_setLink_51 ?_
    refine ev_top (v := bt a) rfl ?_
    refine ev_iconst dX6_setLink_52 (v := (-1)) (by decide) ?_
    refine ev_ixor dX6_setLink_53 ?_
    refine ev_iand dX6_setLink_54 ?_
    refine ev_iload_n dX6_setLink_55 rfl 3 rfl ?_
    refine ev_ifb_eq (tgt := 65) dX6_setLink_56 (by decide) (fun h56 => ?_) (fun h56 => ?_)
    · exact absurd (h22.symm.trans h56) (by decide)
    · refine ev_iconst dX6_setLink_59 (v := nI 1) (by decide) ?_
      refine ev_iload_n dX6_setLink_60 rfl 1 rfl ?_
      refine ev_ishl dX6_setLink_61 ?_
      refine ev_top (v := bt a) rfl ?_
      refine ev_goto (tgt := 66) dX6_setLink_62 (by decide) ?_
      refine ev_ior dX6_setLink_66 ?_
      refine ev_iast (e := 4 + b) dX6_setLink_67 (by decide) sh_78 (by omega) (by decide) ?_
      refine ev_st (σ' := av_set σ 78 (upd (upd (σ 78) (4 + a) (((σ 78 (4 + a)) &&& ((bt b) ^^^ (-1))) ||| (bt b))) (4 + b) ((((upd (σ 78) (4 + a) (((σ 78 (4 + a)) &&& ((bt b) ^^^ (-1))) ||| (bt b))) (4 + b)) &&& ((bt a) ^^^ (-1))) ||| (bt a)))) (by first | rfl | (funext a; by_cases q78 : a = 78; (next => subst q78; rfl); simp only [av_set, q78, if_false]) | exact av_set_set _ _ _ _ | (funext a; unfold av_set; (repeat' split) <;> first | rfl | (exfalso; omega)) | (funext a; simp only [av_set, cpS]; (repeat' split) <;> first | rfl | (exfalso; omega))) ?_
      exact ev_return dX6_setLink_68 rfl (leafV hQ (by simp only [mlk, ml1, h22, h56, cond_true, cond_false]))

set_option maxRecDepth 100000 in
set_option maxHeartbeats 1000000 in
theorem c_X6_userCell {l : Launch} {σ : av_S} (h : Nat) (n : Nat)  : av_M l RX6 cX6_userCell 2 (some .int) 0 [.int (nI h), .int (nI n)] σ (some (.int (nI (10 * h + n)))) σ := by
  intro Q hQ
  show av_Ev l RX6 cX6_userCell 2 (some .int) av_E0 0 0 [(0, .int (nI h)), (1, .int (nI n))] [] σ Q
  refine ev_bipush dX6_userCell_0 (v := nI 10) (by decide) ?_
  refine ev_iload_n dX6_userCell_2 rfl 0 rfl ?_
  refine ev_imul dX6_userCell_3 ?_
  refine ev_top (v := nI (10 * h)) (pk_mul _ _) ?_
  refine ev_iload_n dX6_userCell_4 rfl 1 rfl ?_
  refine ev_iadd dX6_userCell_5 ?_
  refine ev_top (v := nI (10 * h + n)) (nI_add _ _) ?_
  exact ev_ireturn dX6_userCell_6 rfl rfl (leafI hQ rfl rfl)

set_option maxRecDepth 100000 in
set_option maxHeartbeats 1000000 in
theorem c_X6_isUser {l : Launch} {σ : av_S} (h : Nat) (n : Nat) (hh : h < 6) (hn0 : n < 10) : av_M l RX6 cX6_isUser 3 (some .boolean) 1 [.ref 77, .int (nI h), .int (nI n)] σ (some (.int (b2i (mus (σ 78) h n)))) σ := by
  intro Q hQ
  show av_Ev l RX6 cX6_isUser 3 (some .boolean) av_E0 1 0 [(0, .ref 77), (1, .int (nI h)), (2, .int (nI n))] [] σ Q
  refine ev_aload_n dX6_isUser_0 rfl 0 rfl ?_
  refine ev_getR dX6_isUser_1 C_X6 L_X6_7 (by decide) (by decide) sh_77 rfl ?_
  refine ev_bipush dX6_isUser_4 (v := nI 10) (by decide) ?_
  refine ev_iload_n dX6_isUser_6 rfl 1 rfl ?_
  refine ev_iload_n dX6_isUser_7 rfl 2 rfl ?_
  refine ev_callSi (x := nI (10 * h + n)) dX6_isUser_8 (Or.inl M_X6_58) Y_X6_userCell [.int (nI h), .int (nI n)] (c_X6_userCell h n ) (by decide) (Nat.le_of_ble_eq_true rfl) rfl rfl (Nat.le_of_ble_eq_true rfl) ?_
  refine ev_iadd dX6_isUser_11 ?_
  refine ev_top (v := nI (10 + (10 * h + n))) (nI_add _ _) ?_
  refine ev_iald (e := 10 + (10 * h + n)) (v := σ 78 (10 + (10 * h + n))) dX6_isUser_12 (by decide) sh_78 (by omega) (by decide) rfl ?_
  refine ev_bipush dX6_isUser_13 (v := (-9)) (by decide) ?_
  refine ev_icmp_eq (tgt := 22) dX6_isUser_15 (by decide) (fun h15 => ?_) (fun h15 => ?_)
  · refine ev_iconst dX6_isUser_22 (v := nI 0) (by decide) ?_
    exact ev_ireturn dX6_isUser_23 rfl (by decide) (leafI hQ (by simp [b2i, mus, h15]) rfl)
  · refine ev_iconst dX6_isUser_18 (v := nI 1) (by decide) ?_
    refine ev_goto (tgt := 23) dX6_isUser_19 (by decide) ?_
    exact ev_ireturn dX6_isUser_23 rfl (by decide) (leafI hQ (by simp [b2i, mus, h15]) rfl)

set_option maxRecDepth 100000 in
set_option maxHeartbeats 1000000 in
theorem c_X6_homeIn {l : Launch} {σ : av_S} (S : Int32) (n : Nat) (c : Nat) (hn0 : n < 10) (hcn : σ 78 0 = nI c) (hc1 : 1 ≤ c) (hc6 : c ≤ 6) : av_M l RX6 cX6_homeIn 5 (some .int) 2 [.ref 77, .int S, .int (nI n)] σ (some (.int (oJ (mhm (σ 78) c S n)))) σ := by
  intro Q hQ
  show av_Ev l RX6 cX6_homeIn 5 (some .int) av_E0 2 0 [(0, .ref 77), (1, .int S), (2, .int (nI n))] [] σ Q
  refine ev_bipush dX6_homeIn_0 (v := (-9)) (by decide) ?_
  refine ev_istore_n (lv' := [(3, .int (-9)), (0, .ref 77), (1, .int S), (2, .int (nI n))]) dX6_homeIn_2 rfl (by decide) rfl ?_
  refine ev_iconst dX6_homeIn_3 (v := nI 0) (by decide) ?_
  refine ev_istore (lv' := [(4, .int (nI 0)), (3, .int (-9)), (0, .ref 77), (1, .int S), (2, .int (nI n))]) dX6_homeIn_4 (by decide) rfl ?_
  refine ev_lv (lv' := [(0, .ref 77), (1, .int S), (2, .int (nI n)), (3, .int (-9)), (4, .int (nI 0))]) [2, 3, 4, 1, 0] rfl ?_
  refine loop_up (fun k => av_Ev l RX6 cX6_homeIn 5 (some .int) av_E0 2 6 [(0, .ref 77), (1, .int S), (2, .int (nI n)), (3, .int (oJ (fo k (fun h o => mhF (σ 78) S n h o) none))), (4, .int (nI k))] [] σ Q) c ?_ ?_
  · show av_Ev l RX6 cX6_homeIn 5 (some .int) av_E0 2 6 [(0, .ref 77), (1, .int S), (2, .int (nI n)), (3, .int (oJ (fo c (fun h o => mhF (σ 78) S n h o) none))), (4, .int (nI c))] [] σ Q
    refine ev_iload dX6_homeIn_6 4 rfl ?_
    refine ev_aload_n dX6_homeIn_8 rfl 0 rfl ?_
    refine ev_getR dX6_homeIn_9 C_X6 L_X6_7 (by decide) (by decide) sh_77 rfl ?_
    refine ev_iconst dX6_homeIn_12 (v := nI 0) (by decide) ?_
    refine ev_iald (e := 0) (v := σ 78 0) dX6_homeIn_13 (by decide) sh_78 (by omega) (by decide) rfl ?_
    refine ev_top (v := nI c) hcn ?_
    refine ev_ncmp_ge (tgt := 49) dX6_homeIn_14 (by decide) (by omega) (by omega) (fun h14 => ?_) (fun h14 => ?_)
    · refine ev_iload_n dX6_homeIn_49 rfl 3 rfl ?_
      exact ev_ireturn dX6_homeIn_50 rfl rfl (leafI hQ (by first | rfl | (simp [h14]; done)) rfl)
    · exact absurd h14 (by omega)
  · intro k hk ihk
    show av_Ev l RX6 cX6_homeIn 5 (some .int) av_E0 2 6 [(0, .ref 77), (1, .int S), (2, .int (nI n)), (3, .int (oJ (fo k (fun h o => mhF (σ 78) S n h o) none))), (4, .int (nI k))] [] σ Q
    refine ev_iload dX6_homeIn_6 4 rfl ?_
    refine ev_aload_n dX6_homeIn_8 rfl 0 rfl ?_
    refine ev_getR dX6_homeIn_9 C_X6 L_X6_7 (by decide) (by decide) sh_77 rfl ?_
    refine ev_iconst dX6_homeIn_12 (v := nI 0) (by decide) ?_
    refine ev_iald (e := 0) (v := σ 78 0) dX6_homeIn_13 (by decide) sh_78 (by omega) (by decide) rfl ?_
    refine ev_top (v := nI c) hcn ?_
    refine ev_ncmp_ge (tgt := 49) dX6_homeIn_14 (by decide) (by omega) (by omega) (fun h14 => ?_) (fun h14 => ?_)
    · exact absurd h14 (by omega)
    · refine ev_iload_n dX6_homeIn_17 rfl 1 rfl ?_
      refine ev_iload dX6_homeIn_18 4 rfl ?_
      refine ev_callSi (x := b2i (tb S k)) dX6_homeIn_20 (Or.inl M_X6_50) Y_X6_has [.int S, .int (nI k)] (c_X6_has S k (by omega)) (by decide) (Nat.le_of_ble_eq_true rfl) rfl rfl (Nat.le_of_ble_eq_true rfl) ?_
      refine ev_ifb_eq (tgt := 41) dX6_homeIn_23 (by decide) (fun h23 => ?_) (fun h23 => ?_)
      · refine ev_iload_n dX6_homeIn_41 rfl 3 rfl ?_
        refine ev_istore_n (lv' := [(3, .int (oJ (fo k (fun h o => mhF (σ 78) S n h o) none))), (0, .ref 77), (1, .int S), (2, .int (nI n)), (4, .int (nI k))]) dX6_homeIn_42 rfl (by decide) rfl ?_
        refine ev_iinc (lv' := [(4, .int (nI (k + 1))), (3, .int (oJ (fo k (fun h o => mhF (σ 78) S n h o) none))), (0, .ref 77), (1, .int S), (2, .int (nI n))]) dX6_homeIn_43 4 rfl (nI_inc k) (by decide) rfl ?_
        refine ev_goto (tgt := 6) dX6_homeIn_46 (by decide) ?_
        refine ev_lv (lv' := [(0, .ref 77), (1, .int S), (2, .int (nI n)), (3, .int (oJ (fo k (fun h o => mhF (σ 78) S n h o) none))), (4, .int (nI (k + 1)))]) [2, 3, 4, 1, 0] rfl ?_
        have ih9 : av_Ev l RX6 cX6_homeIn 5 (some .int) av_E0 2 6 [(0, .ref 77), (1, .int S), (2, .int (nI n)), (3, .int (oJ (fo (k + 1) (fun h o => mhF (σ 78) S n h o) none))), (4, .int (nI (k + 1)))] [] σ Q := ihk
        rw [show oJ (fo (k + 1) (fun h o => mhF (σ 78) S n h o) none) = oJ (fo k (fun h o => mhF (σ 78) S n h o) none) from (by rw [fo_s]; show oJ (mhF (σ 78) S n k _) = _; unfold mhF; simp only [h14, h23, Bool.and_true, Bool.and_false, Bool.true_and, Bool.false_and, cond_true, cond_false] <;> rfl)] at ih9
        exact ih9
      · refine ev_aload_n dX6_homeIn_26 rfl 0 rfl ?_
        refine ev_iload dX6_homeIn_27 4 rfl ?_
        refine ev_iload_n dX6_homeIn_29 rfl 2 rfl ?_
        refine ev_callVi (x := b2i (mus (σ 78) k n)) dX6_homeIn_30 M_X6_62 Y_X6_isUser [.int (nI k), .int (nI n)] (c_X6_isUser k n (by omega) (by omega)) (by decide) (Nat.le_of_ble_eq_true rfl) (by decide) sh_77 rfl rfl rfl (Nat.le_of_ble_eq_true rfl) ?_
        refine ev_ifb_eq (tgt := 41) dX6_homeIn_33 (by decide) (fun h33 => ?_) (fun h33 => ?_)
        · refine ev_iload_n dX6_homeIn_41 rfl 3 rfl ?_
          refine ev_istore_n (lv' := [(3, .int (oJ (fo k (fun h o => mhF (σ 78) S n h o) none))), (0, .ref 77), (1, .int S), (2, .int (nI n)), (4, .int (nI k))]) dX6_homeIn_42 rfl (by decide) rfl ?_
          refine ev_iinc (lv' := [(4, .int (nI (k + 1))), (3, .int (oJ (fo k (fun h o => mhF (σ 78) S n h o) none))), (0, .ref 77), (1, .int S), (2, .int (nI n))]) dX6_homeIn_43 4 rfl (nI_inc k) (by decide) rfl ?_
          refine ev_goto (tgt := 6) dX6_homeIn_46 (by decide) ?_
          refine ev_lv (lv' := [(0, .ref 77), (1, .int S), (2, .int (nI n)), (3, .int (oJ (fo k (fun h o => mhF (σ 78) S n h o) none))), (4, .int (nI (k + 1)))]) [2, 3, 4, 1, 0] rfl ?_
          have ih9 : av_Ev l RX6 cX6_homeIn 5 (some .int) av_E0 2 6 [(0, .ref 77), (1, .int S), (2, .int (nI n)), (3, .int (oJ (fo (k + 1) (fun h o => mhF (σ 78) S n h o) none))), (4, .int (nI (k + 1)))] [] σ Q := ihk
          rw [show oJ (fo (k + 1) (fun h o => mhF (σ 78) S n h o) none) = oJ (fo k (fun h o => mhF (σ 78) S n h o) none) from (by rw [fo_s]; show oJ (mhF (σ 78) S n k _) = _; unfold mhF; simp only [h14, h23, h33, Bool.and_true, Bool.and_false, Bool.true_and, Bool.false_and, cond_true, cond_false] <;> rfl)] at ih9
          exact ih9
        · refine ev_iload dX6_homeIn_36 4 rfl ?_
          refine ev_goto (tgt := 42) dX6_homeIn_38 (by decide) ?_
          refine ev_istore_n (lv' := [(3, .int (nI k)), (0, .ref 77), (1, .int S), (2, .int (nI n)), (4, .int (nI k))]) dX6_homeIn_42 rfl (by decide) rfl ?_
          refine ev_iinc (lv' := [(4, .int (nI (k + 1))), (3, .int (nI k)), (0, .ref 77), (1, .int S), (2, .int (nI n))]) dX6_homeIn_43 4 rfl (nI_inc k) (by decide) rfl ?_
          refine ev_goto (tgt := 6) dX6_homeIn_46 (by decide) ?_
          refine ev_lv (lv' := [(0, .ref 77), (1, .int S), (2, .int (nI n)), (3, .int (nI k)), (4, .int (nI (k + 1)))]) [2, 3, 4, 1, 0] rfl ?_
          have ih9 : av_Ev l RX6 cX6_homeIn 5 (some .int) av_E0 2 6 [(0, .ref 77), (1, .int S), (2, .int (nI n)), (3, .int (oJ (fo (k + 1) (fun h o => mhF (σ 78) S n h o) none))), (4, .int (nI (k + 1)))] [] σ Q := ihk
          rw [show oJ (fo (k + 1) (fun h o => mhF (σ 78) S n h o) none) = nI k from (by rw [fo_s]; show oJ (mhF (σ 78) S n k _) = _; unfold mhF; simp only [h14, h23, h33, Bool.and_true, Bool.and_false, Bool.true_and, Bool.false_and, cond_true, cond_false] <;> rfl)] at ih9
          exact ih9

set_option maxRecDepth 100000 in
set_option maxHeartbeats 1000000 in
theorem c_X6_nicksIn_s {l : Launch} {σ : av_S} (S : Int32) (c : Nat) (hcn : σ 78 0 = nI c) (hc1 : 1 ≤ c) (hc6 : c ≤ 6) : av_M l RX6 cX6_nicksIn 9 (some .int) 1 [.ref 77, .int S, .int (nI 10), .int (nI 0)] σ (some (.int (mni (mus (σ 78)) c S))) σ := by
  intro Q hQ
  show av_Ev l RX6 cX6_nicksIn 9 (some .int) av_E0 1 0 [(0, .ref 77), (1, .int S), (2, .int (nI 10)), (3, .int (nI 0))] [] σ Q
  refine ev_iconst dX6_nicksIn_0 (v := nI 0) (by decide) ?_
  refine ev_istore (lv' := [(4, .int (nI 0)), (0, .ref 77), (1, .int S), (2, .int (nI 10)), (3, .int (nI 0))]) dX6_nicksIn_1 (by decide) rfl ?_
  refine ev_iconst dX6_nicksIn_3 (v := nI 0) (by decide) ?_
  refine ev_istore (lv' := [(5, .int (nI 0)), (4, .int (nI 0)), (0, .ref 77), (1, .int S), (2, .int (nI 10)), (3, .int (nI 0))]) dX6_nicksIn_4 (by decide) rfl ?_
  refine ev_lv (lv' := [(0, .ref 77), (1, .int S), (2, .int (nI 10)), (3, .int (nI 0)), (4, .int (nI 0)), (5, .int (nI 0))]) [2, 3, 4, 5, 1, 0] rfl ?_
  refine loop_up (fun k => av_Ev l RX6 cX6_nicksIn 9 (some .int) av_E0 1 6 [(0, .ref 77), (1, .int S), (2, .int (nI 10)), (3, .int (nI 0)), (4, .int (fo k (fun h a => fo 10 (fun n a => a ||| (bif tb S h && (mus (σ 78)) h n then bt n else nI 0)) a) (nI 0))), (5, .int (nI k))] [] σ Q) c ?_ ?_
  · show av_Ev l RX6 cX6_nicksIn 9 (some .int) av_E0 1 6 [(0, .ref 77), (1, .int S), (2, .int (nI 10)), (3, .int (nI 0)), (4, .int (fo c (fun h a => fo 10 (fun n a => a ||| (bif tb S h && (mus (σ 78)) h n then bt n else nI 0)) a) (nI 0))), (5, .int (nI c))] [] σ Q
    refine ev_iload dX6_nicksIn_6 5 rfl ?_
    refine ev_aload_n dX6_nicksIn_8 rfl 0 rfl ?_
    refine ev_getR dX6_nicksIn_9 C_X6 L_X6_7 (by decide) (by decide) sh_77 rfl ?_
    refine ev_iconst dX6_nicksIn_12 (v := nI 0) (by decide) ?_
    refine ev_iald (e := 0) (v := σ 78 0) dX6_nicksIn_13 (by decide) sh_78 (by omega) (by decide) rfl ?_
    refine ev_top (v := nI c) hcn ?_
    refine ev_ncmp_ge (tgt := 119) dX6_nicksIn_14 (by decide) (by omega) (by omega) (fun h14 => ?_) (fun h14 => ?_)
    · refine ev_iload dX6_nicksIn_119 4 rfl ?_
      exact ev_ireturn dX6_nicksIn_121 rfl rfl (leafI hQ (by first | rfl | (simp [h14]; done)) rfl)
    · exact absurd h14 (by omega)
  · intro k hk ihk
    show av_Ev l RX6 cX6_nicksIn 9 (some .int) av_E0 1 6 [(0, .ref 77), (1, .int S), (2, .int (nI 10)), (3, .int (nI 0)), (4, .int (fo k (fun h a => fo 10 (fun n a => a ||| (bif tb S h && (mus (σ 78)) h n then bt n else nI 0)) a) (nI 0))), (5, .int (nI k))] [] σ Q
    refine ev_iload dX6_nicksIn_6 5 rfl ?_
    refine ev_aload_n dX6_nicksIn_8 rfl 0 rfl ?_
    refine ev_getR dX6_nicksIn_9 C_X6 L_X6_7 (by decide) (by decide) sh_77 rfl ?_
    refine ev_iconst dX6_nicksIn_12 (v := nI 0) (by decide) ?_
    refine ev_iald (e := 0) (v := σ 78 0) dX6_nicksIn_13 (by decide) sh_78 (by omega) (by decide) rfl ?_
    refine ev_top (v := nI c) hcn ?_
    refine ev_ncmp_ge (tgt := 119) dX6_nicksIn_14 (by decide) (by omega) (by omega) (fun h14 => ?_) (fun h14 => ?_)
    · exact absurd h14 (by omega)
    · refine ev_iconst dX6_nicksIn_17 (v := nI 0) (by decide) ?_
      refine ev_istore (lv' := [(6, .int (nI 0)), (0, .ref 77), (1, .int S), (2, .int (nI 10)), (3, .int (nI 0)), (4, .int (fo k (fun h a => fo 10 (fun n a => a ||| (bif tb S h && (mus (σ 78)) h n then bt n else nI 0)) a) (nI 0))), (5, .int (nI k))]) dX6_nicksIn_18 (by decide) rfl ?_
      refine ev_lv (lv' := [(0, .ref 77), (1, .int S), (2, .int (nI 10)), (3, .int (nI 0)), (4, .int (fo k (fun h a => fo 10 (fun n a => a ||| (bif tb S h && (mus (σ 78)) h n then bt n else nI 0)) a) (nI 0))), (5, .int (nI k)), (6, .int (nI 0))]) [1, 2, 3, 4, 5, 6, 0] rfl ?_
      refine loop_up (fun n => av_Ev l RX6 cX6_nicksIn 9 (some .int) av_E0 1 20 [(0, .ref 77), (1, .int S), (2, .int (nI 10)), (3, .int (nI 0)), (4, .int (fo n (fun n a => a ||| (bif tb S k && (mus (σ 78)) k n then bt n else nI 0)) (fo k (fun h a => fo 10 (fun n a => a ||| (bif tb S h && (mus (σ 78)) h n then bt n else nI 0)) a) (nI 0)))), (5, .int (nI k)), (6, .int (nI n))] [] σ Q) 10 ?_ ?_
      · show av_Ev l RX6 cX6_nicksIn 9 (some .int) av_E0 1 20 [(0, .ref 77), (1, .int S), (2, .int (nI 10)), (3, .int (nI 0)), (4, .int (fo 10 (fun n a => a ||| (bif tb S k && (mus (σ 78)) k n then bt n else nI 0)) (fo k (fun h a => fo 10 (fun n a => a ||| (bif tb S h && (mus (σ 78)) h n then bt n else nI 0)) a) (nI 0)))), (5, .int (nI k)), (6, .int (nI 10))] [] σ Q
        refine ev_iload dX6_nicksIn_20 6 rfl ?_
        refine ev_bipush dX6_nicksIn_22 (v := nI 10) (by decide) ?_
        refine ev_ncmp_ge (tgt := 113) dX6_nicksIn_24 (by decide) (by omega) (by omega) (fun h24 => ?_) (fun h24 => ?_)
        · refine ev_iinc (lv' := [(5, .int (nI (k + 1))), (0, .ref 77), (1, .int S), (2, .int (nI 10)), (3, .int (nI 0)), (4, .int (fo 10 (fun n a => a ||| (bif tb S k && (mus (σ 78)) k n then bt n else nI 0)) (fo k (fun h a => fo 10 (fun n a => a ||| (bif tb S h && (mus (σ 78)) h n then bt n else nI 0)) a) (nI 0)))), (6, .int (nI 10))]) dX6_nicksIn_113 5 rfl (nI_inc k) (by decide) rfl ?_
          refine ev_goto (tgt := 6) dX6_nicksIn_116 (by decide) ?_
          refine ev_lv (lv' := [(0, .ref 77), (1, .int S), (2, .int (nI 10)), (3, .int (nI 0)), (4, .int (fo 10 (fun n a => a ||| (bif tb S k && (mus (σ 78)) k n then bt n else nI 0)) (fo k (fun h a => fo 10 (fun n a => a ||| (bif tb S h && (mus (σ 78)) h n then bt n else nI 0)) a) (nI 0)))), (5, .int (nI (k + 1)))]) [1, 2, 3, 4, 5, 0] rfl ?_
          have ih9 : av_Ev l RX6 cX6_nicksIn 9 (some .int) av_E0 1 6 [(0, .ref 77), (1, .int S), (2, .int (nI 10)), (3, .int (nI 0)), (4, .int (fo (k + 1) (fun h a => fo 10 (fun n a => a ||| (bif tb S h && (mus (σ 78)) h n then bt n else nI 0)) a) (nI 0))), (5, .int (nI (k + 1)))] [] σ Q := ihk
          rw [show fo (k + 1) (fun h a => fo 10 (fun n a => a ||| (bif tb S h && (mus (σ 78)) h n then bt n else nI 0)) a) (nI 0) = fo 10 (fun n a => a ||| (bif tb S k && (mus (σ 78)) k n then bt n else nI 0)) (fo k (fun h a => fo 10 (fun n a => a ||| (bif tb S h && (mus (σ 78)) h n then bt n else nI 0)) a) (nI 0)) from rfl] at ih9
          exact ih9
        · exact absurd h24 (by omega)
      · intro n hn ihn
        show av_Ev l RX6 cX6_nicksIn 9 (some .int) av_E0 1 20 [(0, .ref 77), (1, .int S), (2, .int (nI 10)), (3, .int (nI 0)), (4, .int (fo n (fun n a => a ||| (bif tb S k && (mus (σ 78)) k n then bt n else nI 0)) (fo k (fun h a => fo 10 (fun n a => a ||| (bif tb S h && (mus (σ 78)) h n then bt n else nI 0)) a) (nI 0)))), (5, .int (nI k)), (6, .int (nI n))] [] σ Q
        refine ev_iload dX6_nicksIn_20 6 rfl ?_
        refine ev_bipush dX6_nicksIn_22 (v := nI 10) (by decide) ?_
        refine ev_ncmp_ge (tgt := 113) dX6_nicksIn_24 (by decide) (by omega) (by omega) (fun h24 => ?_) (fun h24 => ?_)
        · exact absurd h24 (by omega)
        · refine ev_iload dX6_nicksIn_27 5 rfl ?_
          refine ev_iload dX6_nicksIn_29 6 rfl ?_
          refine ev_callSi (x := nI (10 * k + n)) dX6_nicksIn_31 (Or.inl M_X6_58) Y_X6_userCell [.int (nI k), .int (nI n)] (c_X6_userCell k n ) (by decide) (Nat.le_of_ble_eq_true rfl) rfl rfl (Nat.le_of_ble_eq_true rfl) ?_
          refine ev_istore (lv' := [(7, .int (nI (10 * k + n))), (0, .ref 77), (1, .int S), (2, .int (nI 10)), (3, .int (nI 0)), (4, .int (fo n (fun n a => a ||| (bif tb S k && (mus (σ 78)) k n then bt n else nI 0)) (fo k (fun h a => fo 10 (fun n a => a ||| (bif tb S h && (mus (σ 78)) h n then bt n else nI 0)) a) (nI 0)))), (5, .int (nI k)), (6, .int (nI n))]) dX6_nicksIn_34 (by decide) rfl ?_
          refine ev_iload_n dX6_nicksIn_36 rfl 3 rfl ?_
          refine ev_bipush dX6_nicksIn_37 (v := nI 10) (by decide) ?_
          refine ev_ncmp_ne (tgt := 65) dX6_nicksIn_39 (by decide) (by omega) (by omega) (fun h39 => ?_) (fun h39 => ?_)
          · exact absurd h39 (by omega)
          · refine ev_aload_n dX6_nicksIn_42 rfl 1 rfl ?_
            refine ev_getR dX6_nicksIn_43 C_X6 L_X6_7 (by decide) (by decide) sh_77 rfl ?_
            refine ev_bipush dX6_nicksIn_46 (v := nI 10) (by decide) ?_
            refine ev_iload dX6_nicksIn_48 0 rfl ?_
            refine ev_iadd dX6_nicksIn_50 ?_
            refine ev_top (v := nI (10 + (10 * k + n))) (nI_add _ _) ?_
            refine ev_iald (e := 10 + (10 * k + n)) (v := σ 78 (10 + (10 * k + n))) dX6_nicksIn_51 (by decide) sh_78 (by omega) (by decide) rfl ?_
            refine ev_bipush dX6_nicksIn_52 (v := (-9)) (by decide) ?_
            refine ev_icmp_eq (tgt := 61) dX6_nicksIn_54 (by decide) (fun h54 => ?_) (fun h54 => ?_)
            · refine ev_iconst dX6_nicksIn_61 (v := nI 0) (by decide) ?_
              refine ev_goto (tgt := 78) dX6_nicksIn_62 (by decide) ?_
              refine ev_istore (lv' := [(8, .int (nI 0)), (7, .int (nI (10 * k + n))), (0, .ref 77), (1, .int S), (2, .int (nI 10)), (3, .int (nI 0)), (4, .int (fo n (fun n a => a ||| (bif tb S k && (mus (σ 78)) k n then bt n else nI 0)) (fo k (fun h a => fo 10 (fun n a => a ||| (bif tb S h && (mus (σ 78)) h n then bt n else nI 0)) a) (nI 0)))), (5, .int (nI k)), (6, .int (nI n))]) dX6_nicksIn_78 (by decide) rfl ?_
              refine ev_iload dX6_nicksIn_80 6 rfl ?_
              refine ev_iload_n dX6_nicksIn_82 rfl 3 rfl ?_
              refine ev_iload dX6_nicksIn_83 7 rfl ?_
              refine ev_callSi (x := b2i (tb S k)) dX6_nicksIn_85 (Or.inl M_X6_50) Y_X6_has [.int S, .int (nI k)] (c_X6_has S k (by omega)) (by decide) (Nat.le_of_ble_eq_true rfl) rfl rfl (Nat.le_of_ble_eq_true rfl) ?_
              refine ev_ifb_eq (tgt := 103) dX6_nicksIn_88 (by decide) (fun h88 => ?_) (fun h88 => ?_)
              · refine ev_iconst dX6_nicksIn_103 (v := nI 0) (by decide) ?_
                refine ev_ior dX6_nicksIn_104 ?_
                refine ev_istore (lv' := [(4, .int ((fo n (fun n a => a ||| (bif tb S k && (mus (σ 78)) k n then bt n else nI 0)) (fo k (fun h a => fo 10 (fun n a => a ||| (bif tb S h && (mus (σ 78)) h n then bt n else nI 0)) a) (nI 0))) ||| (nI 0))), (8, .int (nI 0)), (7, .int (nI (10 * k + n))), (0, .ref 77), (1, .int S), (2, .int (nI 10)), (3, .int (nI 0)), (5, .int (nI k)), (6, .int (nI n))]) dX6_nicksIn_105 (by decide) rfl ?_
                refine ev_iinc (lv' := [(6, .int (nI (n + 1))), (4, .int ((fo n (fun n a => a ||| (bif tb S k && (mus (σ 78)) k n then bt n else nI 0)) (fo k (fun h a => fo 10 (fun n a => a ||| (bif tb S h && (mus (σ 78)) h n then bt n else nI 0)) a) (nI 0))) ||| (nI 0))), (8, .int (nI 0)), (7, .int (nI (10 * k + n))), (0, .ref 77), (1, .int S), (2, .int (nI 10)), (3, .int (nI 0)), (5, .int (nI k))]) dX6_nicksIn_107 8 rfl (nI_inc n) (by decide) rfl ?_
                refine ev_goto (tgt := 20) dX6_nicksIn_110 (by decide) ?_
                refine ev_lv (lv' := [(0, .ref 77), (1, .int S), (2, .int (nI 10)), (3, .int (nI 0)), (4, .int ((fo n (fun n a => a ||| (bif tb S k && (mus (σ 78)) k n then bt n else nI 0)) (fo k (fun h a => fo 10 (fun n a => a ||| (bif tb S h && (mus (σ 78)) h n then bt n else nI 0)) a) (nI 0))) ||| (nI 0))), (5, .int (nI k)), (6, .int (nI (n + 1)))]) [4, 5, 6, 7, 1, 8, 0] rfl ?_
                have ih9 : av_Ev l RX6 cX6_nicksIn 9 (some .int) av_E0 1 20 [(0, .ref 77), (1, .int S), (2, .int (nI 10)), (3, .int (nI 0)), (4, .int (fo (n + 1) (fun n a => a ||| (bif tb S k && (mus (σ 78)) k n then bt n else nI 0)) (fo k (fun h a => fo 10 (fun n a => a ||| (bif tb S h && (mus (σ 78)) h n then bt n else nI 0)) a) (nI 0)))), (5, .int (nI k)), (6, .int (nI (n + 1)))] [] σ Q := ihn
                rw [show fo (n + 1) (fun n a => a ||| (bif tb S k && (mus (σ 78)) k n then bt n else nI 0)) (fo k (fun h a => fo 10 (fun n a => a ||| (bif tb S h && (mus (σ 78)) h n then bt n else nI 0)) a) (nI 0)) = (fo n (fun n a => a ||| (bif tb S k && (mus (σ 78)) k n then bt n else nI 0)) (fo k (fun h a => fo 10 (fun n a => a ||| (bif tb S h && (mus (σ 78)) h n then bt n else nI 0)) a) (nI 0))) ||| (nI 0) from (by rw [fo_s]; simp only [mus, h14, h24, h39, h54, h88, decide_true, decide_false, not_true, not_false_iff, Bool.and_true, Bool.and_false, Bool.true_and, Bool.false_and, cond_true, cond_false])] at ih9
                exact ih9
              · refine ev_iload dX6_nicksIn_91 0 rfl ?_
                refine ev_nif_eq (tgt := 103) dX6_nicksIn_93 (by decide) (by omega) (fun h93 => ?_) (fun h93 => ?_)
                · refine ev_iconst dX6_nicksIn_103 (v := nI 0) (by decide) ?_
                  refine ev_ior dX6_nicksIn_104 ?_
                  refine ev_istore (lv' := [(4, .int ((fo n (fun n a => a ||| (bif tb S k && (mus (σ 78)) k n then bt n else nI 0)) (fo k (fun h a => fo 10 (fun n a => a ||| (bif tb S h && (mus (σ 78)) h n then bt n else nI 0)) a) (nI 0))) ||| (nI 0))), (8, .int (nI 0)), (7, .int (nI (10 * k + n))), (0, .ref 77), (1, .int S), (2, .int (nI 10)), (3, .int (nI 0)), (5, .int (nI k)), (6, .int (nI n))]) dX6_nicksIn_105 (by decide) rfl ?_
                  refine ev_iinc (lv' := [(6, .int (nI (n + 1))), (4, .int ((fo n (fun n a => a ||| (bif tb S k && (mus (σ 78)) k n then bt n else nI 0)) (fo k (fun h a => fo 10 (fun n a => a ||| (bif tb S h && (mus (σ 78)) h n then bt n else nI 0)) a) (nI 0))) ||| (nI 0))), (8, .int (nI 0)), (7, .int (nI (10 * k + n))), (0, .ref 77), (1, .int S), (2, .int (nI 10)), (3, .int (nI 0)), (5, .int (nI k))]) dX6_nicksIn_107 8 rfl (nI_inc n) (by decide) rfl ?_
                  refine ev_goto (tgt := 20) dX6_nicksIn_110 (by decide) ?_
                  refine ev_lv (lv' := [(0, .ref 77), (1, .int S), (2, .int (nI 10)), (3, .int (nI 0)), (4, .int ((fo n (fun n a => a ||| (bif tb S k && (mus (σ 78)) k n then bt n else nI 0)) (fo k (fun h a => fo 10 (fun n a => a ||| (bif tb S h && (mus (σ 78)) h n then bt n else nI 0)) a) (nI 0))) ||| (nI 0))), (5, .int (nI k)), (6, .int (nI (n + 1)))]) [4, 5, 6, 7, 1, 8, 0] rfl ?_
                  have ih9 : av_Ev l RX6 cX6_nicksIn 9 (some .int) av_E0 1 20 [(0, .ref 77), (1, .int S), (2, .int (nI 10)), (3, .int (nI 0)), (4, .int (fo (n + 1) (fun n a => a ||| (bif tb S k && (mus (σ 78)) k n then bt n else nI 0)) (fo k (fun h a => fo 10 (fun n a => a ||| (bif tb S h && (mus (σ 78)) h n then bt n else nI 0)) a) (nI 0)))), (5, .int (nI k)), (6, .int (nI (n + 1)))] [] σ Q := ihn
                  rw [show fo (n + 1) (fun n a => a ||| (bif tb S k && (mus (σ 78)) k n then bt n else nI 0)) (fo k (fun h a => fo 10 (fun n a => a ||| (bif tb S h && (mus (σ 78)) h n then bt n else nI 0)) a) (nI 0)) = (fo n (fun n a => a ||| (bif tb S k && (mus (σ 78)) k n then bt n else nI 0)) (fo k (fun h a => fo 10 (fun n a => a ||| (bif tb S h && (mus (σ 78)) h n then bt n else nI 0)) a) (nI 0))) ||| (nI 0) from (by rw [fo_s]; simp only [mus, h14, h24, h39, h54, h88, h93, decide_true, decide_false, not_true, not_false_iff, Bool.and_true, Bool.and_false, Bool.true_and, Bool.false_and, cond_true, cond_false])] at ih9
                  exact ih9
                · exact absurd h93 (by omega)
            · refine ev_iconst dX6_nicksIn_57 (v := nI 1) (by decide) ?_
              refine ev_goto (tgt := 78) dX6_nicksIn_58 (by decide) ?_
              refine ev_istore (lv' := [(8, .int (nI 1)), (7, .int (nI (10 * k + n))), (0, .ref 77), (1, .int S), (2, .int (nI 10)), (3, .int (nI 0)), (4, .int (fo n (fun n a => a ||| (bif tb S k && (mus (σ 78)) k n then bt n else nI 0)) (fo k (fun h a => fo 10 (fun n a => a ||| (bif tb S h && (mus (σ 78)) h n then bt n else nI 0)) a) (nI 0)))), (5, .int (nI k)), (6, .int (nI n))]) dX6_nicksIn_78 (by decide) rfl ?_
              refine ev_iload dX6_nicksIn_80 6 rfl ?_
              refine ev_iload_n dX6_nicksIn_82 rfl 3 rfl ?_
              refine ev_iload dX6_nicksIn_83 7 rfl ?_
              refine ev_callSi (x := b2i (tb S k)) dX6_nicksIn_85 (Or.inl M_X6_50) Y_X6_has [.int S, .int (nI k)] (c_X6_has S k (by omega)) (by decide) (Nat.le_of_ble_eq_true rfl) rfl rfl (Nat.le_of_ble_eq_true rfl) ?_
              refine ev_ifb_eq (tgt := 103) dX6_nicksIn_88 (by decide) (fun h88 => ?_) (fun h88 => ?_)
              · refine ev_iconst dX6_nicksIn_103 (v := nI 0) (by decide) ?_
                refine ev_ior dX6_nicksIn_104 ?_
                refine ev_istore (lv' := [(4, .int ((fo n (fun n a => a ||| (bif tb S k && (mus (σ 78)) k n then bt n else nI 0)) (fo k (fun h a => fo 10 (fun n a => a ||| (bif tb S h && (mus (σ 78)) h n then bt n else nI 0)) a) (nI 0))) ||| (nI 0))), (8, .int (nI 1)), (7, .int (nI (10 * k + n))), (0, .ref 77), (1, .int S), (2, .int (nI 10)), (3, .int (nI 0)), (5, .int (nI k)), (6, .int (nI n))]) dX6_nicksIn_105 (by decide) rfl ?_
                refine ev_iinc (lv' := [(6, .int (nI (n + 1))), (4, .int ((fo n (fun n a => a ||| (bif tb S k && (mus (σ 78)) k n then bt n else nI 0)) (fo k (fun h a => fo 10 (fun n a => a ||| (bif tb S h && (mus (σ 78)) h n then bt n else nI 0)) a) (nI 0))) ||| (nI 0))), (8, .int (nI 1)), (7, .int (nI (10 * k + n))), (0, .ref 77), (1, .int S), (2, .int (nI 10)), (3, .int (nI 0)), (5, .int (nI k))]) dX6_nicksIn_107 8 rfl (nI_inc n) (by decide) rfl ?_
                refine ev_goto (tgt := 20) dX6_nicksIn_110 (by decide) ?_
                refine ev_lv (lv' := [(0, .ref 77), (1, .int S), (2, .int (nI 10)), (3, .int (nI 0)), (4, .int ((fo n (fun n a => a ||| (bif tb S k && (mus (σ 78)) k n then bt n else nI 0)) (fo k (fun h a => fo 10 (fun n a => a ||| (bif tb S h && (mus (σ 78)) h n then bt n else nI 0)) a) (nI 0))) ||| (nI 0))), (5, .int (nI k)), (6, .int (nI (n + 1)))]) [4, 5, 6, 7, 1, 8, 0] rfl ?_
                have ih9 : av_Ev l RX6 cX6_nicksIn 9 (some .int) av_E0 1 20 [(0, .ref 77), (1, .int S), (2, .int (nI 10)), (3, .int (nI 0)), (4, .int (fo (n + 1) (fun n a => a ||| (bif tb S k && (mus (σ 78)) k n then bt n else nI 0)) (fo k (fun h a => fo 10 (fun n a => a ||| (bif tb S h && (mus (σ 78)) h n then bt n else nI 0)) a) (nI 0)))), (5, .int (nI k)), (6, .int (nI (n + 1)))] [] σ Q := ihn
                rw [show fo (n + 1) (fun n a => a ||| (bif tb S k && (mus (σ 78)) k n then bt n else nI 0)) (fo k (fun h a => fo 10 (fun n a => a ||| (bif tb S h && (mus (σ 78)) h n then bt n else nI 0)) a) (nI 0)) = (fo n (fun n a => a ||| (bif tb S k && (mus (σ 78)) k n then bt n else nI 0)) (fo k (fun h a => fo 10 (fun n a => a ||| (bif tb S h && (mus (σ 78)) h n then bt n else nI 0)) a) (nI 0))) ||| (nI 0) from (by rw [fo_s]; simp only [mus, h14, h24, h39, h54, h88, decide_true, decide_false, not_true, not_false_iff, Bool.and_true, Bool.and_false, Bool.true_and, Bool.false_and, cond_true, cond_false])] at ih9
                exact ih9
              · refine ev_iload dX6_nicksIn_91 0 rfl ?_
                refine ev_nif_eq (tgt := 103) dX6_nicksIn_93 (by decide) (by omega) (fun h93 => ?_) (fun h93 => ?_)
                · exact absurd h93 (by omega)
                · refine ev_iconst dX6_nicksIn_96 (v := nI 1) (by decide) ?_
                  refine ev_iload dX6_nicksIn_97 8 rfl ?_
                  refine ev_ishl dX6_nicksIn_99 ?_
                  refine ev_top (v := bt n) rfl ?_
                  refine ev_goto (tgt := 104) dX6_nicksIn_100 (by decide) ?_
                  refine ev_ior dX6_nicksIn_104 ?_
                  refine ev_istore (lv' := [(4, .int ((fo n (fun n a => a ||| (bif tb S k && (mus (σ 78)) k n then bt n else nI 0)) (fo k (fun h a => fo 10 (fun n a => a ||| (bif tb S h && (mus (σ 78)) h n then bt n else nI 0)) a) (nI 0))) ||| (bt n))), (8, .int (nI 1)), (7, .int (nI (10 * k + n))), (0, .ref 77), (1, .int S), (2, .int (nI 10)), (3, .int (nI 0)), (5, .int (nI k)), (6, .int (nI n))]) dX6_nicksIn_105 (by decide) rfl ?_
                  refine ev_iinc (lv' := [(6, .int (nI (n + 1))), (4, .int ((fo n (fun n a => a ||| (bif tb S k && (mus (σ 78)) k n then bt n else nI 0)) (fo k (fun h a => fo 10 (fun n a => a ||| (bif tb S h && (mus (σ 78)) h n then bt n else nI 0)) a) (nI 0))) ||| (bt n))), (8, .int (nI 1)), (7, .int (nI (10 * k + n))), (0, .ref 77), (1, .int S), (2, .int (nI 10)), (3, .int (nI 0)), (5, .int (nI k))]) dX6_nicksIn_107 8 rfl (nI_inc n) (by decide) rfl ?_
                  refine ev_goto (tgt := 20) dX6_nicksIn_110 (by decide) ?_
                  refine ev_lv (lv' := [(0, .ref 77), (1, .int S), (2, .int (nI 10)), (3, .int (nI 0)), (4, .int ((fo n (fun n a => a ||| (bif tb S k && (mus (σ 78)) k n then bt n else nI 0)) (fo k (fun h a => fo 10 (fun n a => a ||| (bif tb S h && (mus (σ 78)) h n then bt n else nI 0)) a) (nI 0))) ||| (bt n))), (5, .int (nI k)), (6, .int (nI (n + 1)))]) [4, 5, 6, 7, 1, 8, 0] rfl ?_
                  have ih9 : av_Ev l RX6 cX6_nicksIn 9 (some .int) av_E0 1 20 [(0, .ref 77), (1, .int S), (2, .int (nI 10)), (3, .int (nI 0)), (4, .int (fo (n + 1) (fun n a => a ||| (bif tb S k && (mus (σ 78)) k n then bt n else nI 0)) (fo k (fun h a => fo 10 (fun n a => a ||| (bif tb S h && (mus (σ 78)) h n then bt n else nI 0)) a) (nI 0)))), (5, .int (nI k)), (6, .int (nI (n + 1)))] [] σ Q := ihn
                  rw [show fo (n + 1) (fun n a => a ||| (bif tb S k && (mus (σ 78)) k n then bt n else nI 0)) (fo k (fun h a => fo 10 (fun n a => a ||| (bif tb S h && (mus (σ 78)) h n then bt n else nI 0)) a) (nI 0)) = (fo n (fun n a => a ||| (bif tb S k && (mus (σ 78)) k n then bt n else nI 0)) (fo k (fun h a => fo 10 (fun n a => a ||| (bif tb S h && (mus (σ 78)) h n then bt n else nI 0)) a) (nI 0))) ||| (bt n) from (by rw [fo_s]; simp only [mus, h14, h24, h39, h54, h88, h93, decide_true, decide_false, not_true, not_false_iff, Bool.and_true, Bool.and_false, Bool.true_and, Bool.false_and, cond_true, cond_false])] at ih9
                  exact ih9

set_option maxRecDepth 100000 in
set_option maxHeartbeats 1000000 in
theorem c_X6_nicksIn_j {l : Launch} {σ : av_S} (S : Int32) (ch : Nat) (c : Nat) (hcn : σ 78 0 = nI c) (hc1 : 1 ≤ c) (hc6 : c ≤ 6) (hch : ch < 32) : av_M l RX6 cX6_nicksIn 9 (some .int) 1 [.ref 77, .int S, .int (nI 70), .int (nI ch)] σ (some (.int (mni (mj (σ 78) 70 ch) c S))) σ := by
  intro Q hQ
  show av_Ev l RX6 cX6_nicksIn 9 (some .int) av_E0 1 0 [(0, .ref 77), (1, .int S), (2, .int (nI 70)), (3, .int (nI ch))] [] σ Q
  refine ev_iconst dX6_nicksIn_0 (v := nI 0) (by decide) ?_
  refine ev_istore (lv' := [(4, .int (nI 0)), (0, .ref 77), (1, .int S), (2, .int (nI 70)), (3, .int (nI ch))]) dX6_nicksIn_1 (by decide) rfl ?_
  refine ev_iconst dX6_nicksIn_3 (v := nI 0) (by decide) ?_
  refine ev_istore (lv' := [(5, .int (nI 0)), (4, .int (nI 0)), (0, .ref 77), (1, .int S), (2, .int (nI 70)), (3, .int (nI ch))]) dX6_nicksIn_4 (by decide) rfl ?_
  refine ev_lv (lv' := [(0, .ref 77), (1, .int S), (2, .int (nI 70)), (3, .int (nI ch)), (4, .int (nI 0)), (5, .int (nI 0))]) [2, 3, 4, 5, 1, 0] rfl ?_
  refine loop_up (fun k => av_Ev l RX6 cX6_nicksIn 9 (some .int) av_E0 1 6 [(0, .ref 77), (1, .int S), (2, .int (nI 70)), (3, .int (nI ch)), (4, .int (fo k (fun h a => fo 10 (fun n a => a ||| (bif tb S h && (mj (σ 78) 70 ch) h n then bt n else nI 0)) a) (nI 0))), (5, .int (nI k))] [] σ Q) c ?_ ?_
  · show av_Ev l RX6 cX6_nicksIn 9 (some .int) av_E0 1 6 [(0, .ref 77), (1, .int S), (2, .int (nI 70)), (3, .int (nI ch)), (4, .int (fo c (fun h a => fo 10 (fun n a => a ||| (bif tb S h && (mj (σ 78) 70 ch) h n then bt n else nI 0)) a) (nI 0))), (5, .int (nI c))] [] σ Q
    refine ev_iload dX6_nicksIn_6 5 rfl ?_
    refine ev_aload_n dX6_nicksIn_8 rfl 0 rfl ?_
    refine ev_getR dX6_nicksIn_9 C_X6 L_X6_7 (by decide) (by decide) sh_77 rfl ?_
    refine ev_iconst dX6_nicksIn_12 (v := nI 0) (by decide) ?_
    refine ev_iald (e := 0) (v := σ 78 0) dX6_nicksIn_13 (by decide) sh_78 (by omega) (by decide) rfl ?_
    refine ev_top (v := nI c) hcn ?_
    refine ev_ncmp_ge (tgt := 119) dX6_nicksIn_14 (by decide) (by omega) (by omega) (fun h14 => ?_) (fun h14 => ?_)
    · refine ev_iload dX6_nicksIn_119 4 rfl ?_
      exact ev_ireturn dX6_nicksIn_121 rfl rfl (leafI hQ (by first | rfl | (simp [h14]; done)) rfl)
    · exact absurd h14 (by omega)
  · intro k hk ihk
    show av_Ev l RX6 cX6_nicksIn 9 (some .int) av_E0 1 6 [(0, .ref 77), (1, .int S), (2, .int (nI 70)), (3, .int (nI ch)), (4, .int (fo k (fun h a => fo 10 (fun n a => a ||| (bif tb S h && (mj (σ 78) 70 ch) h n then bt n else nI 0)) a) (nI 0))), (5, .int (nI k))] [] σ Q
    refine ev_iload dX6_nicksIn_6 5 rfl ?_
    refine ev_aload_n dX6_nicksIn_8 rfl 0 rfl ?_
    refine ev_getR dX6_nicksIn_9 C_X6 L_X6_7 (by decide) (by decide) sh_77 rfl ?_
    refine ev_iconst dX6_nicksIn_12 (v := nI 0) (by decide) ?_
    refine ev_iald (e := 0) (v := σ 78 0) dX6_nicksIn_13 (by decide) sh_78 (by omega) (by decide) rfl ?_
    refine ev_top (v := nI c) hcn ?_
    refine ev_ncmp_ge (tgt := 119) dX6_nicksIn_14 (by decide) (by omega) (by omega) (fun h14 => ?_) (fun h14 => ?_)
    · exact absurd h14 (by omega)
    · refine ev_iconst dX6_nicksIn_17 (v := nI 0) (by decide) ?_
      refine ev_istore (lv' := [(6, .int (nI 0)), (0, .ref 77), (1, .int S), (2, .int (nI 70)), (3, .int (nI ch)), (4, .int (fo k (fun h a => fo 10 (fun n a => a ||| (bif tb S h && (mj (σ 78) 70 ch) h n then bt n else nI 0)) a) (nI 0))), (5, .int (nI k))]) dX6_nicksIn_18 (by decide) rfl ?_
      refine ev_lv (lv' := [(0, .ref 77), (1, .int S), (2, .int (nI 70)), (3, .int (nI ch)), (4, .int (fo k (fun h a => fo 10 (fun n a => a ||| (bif tb S h && (mj (σ 78) 70 ch) h n then bt n else nI 0)) a) (nI 0))), (5, .int (nI k)), (6, .int (nI 0))]) [1, 2, 3, 4, 5, 6, 0] rfl ?_
      refine loop_up (fun n => av_Ev l RX6 cX6_nicksIn 9 (some .int) av_E0 1 20 [(0, .ref 77), (1, .int S), (2, .int (nI 70)), (3, .int (nI ch)), (4, .int (fo n (fun n a => a ||| (bif tb S k && (mj (σ 78) 70 ch) k n then bt n else nI 0)) (fo k (fun h a => fo 10 (fun n a => a ||| (bif tb S h && (mj (σ 78) 70 ch) h n then bt n else nI 0)) a) (nI 0)))), (5, .int (nI k)), (6, .int (nI n))] [] σ Q) 10 ?_ ?_
      · show av_Ev l RX6 cX6_nicksIn 9 (some .int) av_E0 1 20 [(0, .ref 77), (1, .int S), (2, .int (nI 70)), (3, .int (nI ch)), (4, .int (fo 10 (fun n a => a ||| (bif tb S k && (mj (σ 78) 70 ch) k n then bt n else nI 0)) (fo k (fun h a => fo 10 (fun n a => a ||| (bif tb S h && (mj (σ 78) 70 ch) h n then bt n else nI 0)) a) (nI 0)))), (5, .int (nI k)), (6, .int (nI 10))] [] σ Q
        refine ev_iload dX6_nicksIn_20 6 rfl ?_
        refine ev_bipush dX6_nicksIn_22 (v := nI 10) (by decide) ?_
        refine ev_ncmp_ge (tgt := 113) dX6_nicksIn_24 (by decide) (by omega) (by omega) (fun h24 => ?_) (fun h24 => ?_)
        · refine ev_iinc (lv' := [(5, .int (nI (k + 1))), (0, .ref 77), (1, .int S), (2, .int (nI 70)), (3, .int (nI ch)), (4, .int (fo 10 (fun n a => a ||| (bif tb S k && (mj (σ 78) 70 ch) k n then bt n else nI 0)) (fo k (fun h a => fo 10 (fun n a => a ||| (bif tb S h && (mj (σ 78) 70 ch) h n then bt n else nI 0)) a) (nI 0)))), (6, .int (nI 10))]) dX6_nicksIn_113 5 rfl (nI_inc k) (by decide) rfl ?_
          refine ev_goto (tgt := 6) dX6_nicksIn_116 (by decide) ?_
          refine ev_lv (lv' := [(0, .ref 77), (1, .int S), (2, .int (nI 70)), (3, .int (nI ch)), (4, .int (fo 10 (fun n a => a ||| (bif tb S k && (mj (σ 78) 70 ch) k n then bt n else nI 0)) (fo k (fun h a => fo 10 (fun n a => a ||| (bif tb S h && (mj (σ 78) 70 ch) h n then bt n else nI 0)) a) (nI 0)))), (5, .int (nI (k + 1)))]) [1, 2, 3, 4, 5, 0] rfl ?_
          have ih9 : av_Ev l RX6 cX6_nicksIn 9 (some .int) av_E0 1 6 [(0, .ref 77), (1, .int S), (2, .int (nI 70)), (3, .int (nI ch)), (4, .int (fo (k + 1) (fun h a => fo 10 (fun n a => a ||| (bif tb S h && (mj (σ 78) 70 ch) h n then bt n else nI 0)) a) (nI 0))), (5, .int (nI (k + 1)))] [] σ Q := ihk
          rw [show fo (k + 1) (fun h a => fo 10 (fun n a => a ||| (bif tb S h && (mj (σ 78) 70 ch) h n then bt n else nI 0)) a) (nI 0) = fo 10 (fun n a => a ||| (bif tb S k && (mj (σ 78) 70 ch) k n then bt n else nI 0)) (fo k (fun h a => fo 10 (fun n a => a ||| (bif tb S h && (mj (σ 78) 70 ch) h n then bt n else nI 0)) a) (nI 0)) from rfl] at ih9
          exact ih9
        · exact absurd h24 (by omega)
      · intro n hn ihn
        show av_Ev l RX6 cX6_nicksIn 9 (some .int) av_E0 1 20 [(0, .ref 77), (1, .int S), (2, .int (nI 70)), (3, .int (nI ch)), (4, .int (fo n (fun n a => a ||| (bif tb S k && (mj (σ 78) 70 ch) k n then bt n else nI 0)) (fo k (fun h a => fo 10 (fun n a => a ||| (bif tb S h && (mj (σ 78) 70 ch) h n then bt n else nI 0)) a) (nI 0)))), (5, .int (nI k)), (6, .int (nI n))] [] σ Q
        refine ev_iload dX6_nicksIn_20 6 rfl ?_
        refine ev_bipush dX6_nicksIn_22 (v := nI 10) (by decide) ?_
        refine ev_ncmp_ge (tgt := 113) dX6_nicksIn_24 (by decide) (by omega) (by omega) (fun h24 => ?_) (fun h24 => ?_)
        · exact absurd h24 (by omega)
        · refine ev_iload dX6_nicksIn_27 5 rfl ?_
          refine ev_iload dX6_nicksIn_29 6 rfl ?_
          refine ev_callSi (x := nI (10 * k + n)) dX6_nicksIn_31 (Or.inl M_X6_58) Y_X6_userCell [.int (nI k), .int (nI n)] (c_X6_userCell k n ) (by decide) (Nat.le_of_ble_eq_true rfl) rfl rfl (Nat.le_of_ble_eq_true rfl) ?_
          refine ev_istore (lv' := [(7, .int (nI (10 * k + n))), (0, .ref 77), (1, .int S), (2, .int (nI 70)), (3, .int (nI ch)), (4, .int (fo n (fun n a => a ||| (bif tb S k && (mj (σ 78) 70 ch) k n then bt n else nI 0)) (fo k (fun h a => fo 10 (fun n a => a ||| (bif tb S h && (mj (σ 78) 70 ch) h n then bt n else nI 0)) a) (nI 0)))), (5, .int (nI k)), (6, .int (nI n))]) dX6_nicksIn_34 (by decide) rfl ?_
          refine ev_iload_n dX6_nicksIn_36 rfl 3 rfl ?_
          refine ev_bipush dX6_nicksIn_37 (v := nI 10) (by decide) ?_
          refine ev_ncmp_ne (tgt := 65) dX6_nicksIn_39 (by decide) (by omega) (by omega) (fun h39 => ?_) (fun h39 => ?_)
          · refine ev_aload_n dX6_nicksIn_65 rfl 1 rfl ?_
            refine ev_getR dX6_nicksIn_66 C_X6 L_X6_7 (by decide) (by decide) sh_77 rfl ?_
            refine ev_iload_n dX6_nicksIn_69 rfl 3 rfl ?_
            refine ev_iload dX6_nicksIn_70 0 rfl ?_
            refine ev_iadd dX6_nicksIn_72 ?_
            refine ev_top (v := nI (70 + (10 * k + n))) (nI_add _ _) ?_
            refine ev_iald (e := 70 + (10 * k + n)) (v := σ 78 (70 + (10 * k + n))) dX6_nicksIn_73 (by decide) sh_78 (by omega) (by decide) rfl ?_
            refine ev_iload_n dX6_nicksIn_74 rfl 4 rfl ?_
            refine ev_callSi (x := b2i (tb (σ 78 (70 + (10 * k + n))) ch)) dX6_nicksIn_75 (Or.inl M_X6_50) Y_X6_has [.int (σ 78 (70 + (10 * k + n))), .int (nI ch)] (c_X6_has (σ 78 (70 + (10 * k + n))) ch (by omega)) (by decide) (Nat.le_of_ble_eq_true rfl) rfl rfl (Nat.le_of_ble_eq_true rfl) ?_
            refine ev_istore (lv' := [(8, .int (b2i (tb (σ 78 (70 + (10 * k + n))) ch))), (7, .int (nI (10 * k + n))), (0, .ref 77), (1, .int S), (2, .int (nI 70)), (3, .int (nI ch)), (4, .int (fo n (fun n a => a ||| (bif tb S k && (mj (σ 78) 70 ch) k n then bt n else nI 0)) (fo k (fun h a => fo 10 (fun n a => a ||| (bif tb S h && (mj (σ 78) 70 ch) h n then bt n else nI 0)) a) (nI 0)))), (5, .int (nI k)), (6, .int (nI n))]) dX6_nicksIn_78 (by decide) rfl ?_
            refine ev_iload dX6_nicksIn_80 6 rfl ?_
            refine ev_iload_n dX6_nicksIn_82 rfl 3 rfl ?_
            refine ev_iload dX6_nicksIn_83 7 rfl ?_
            refine ev_callSi (x := b2i (tb S k)) dX6_nicksIn_85 (Or.inl M_X6_50) Y_X6_has [.int S, .int (nI k)] (c_X6_has S k (by omega)) (by decide) (Nat.le_of_ble_eq_true rfl) rfl rfl (Nat.le_of_ble_eq_true rfl) ?_
            refine ev_ifb_eq (tgt := 103) dX6_nicksIn_88 (by decide) (fun h88 => ?_) (fun h88 => ?_)
            · refine ev_iconst dX6_nicksIn_103 (v := nI 0) (by decide) ?_
              refine ev_ior dX6_nicksIn_104 ?_
              refine ev_istore (lv' := [(4, .int ((fo n (fun n a => a ||| (bif tb S k && (mj (σ 78) 70 ch) k n then bt n else nI 0)) (fo k (fun h a => fo 10 (fun n a => a ||| (bif tb S h && (mj (σ 78) 70 ch) h n then bt n else nI 0)) a) (nI 0))) ||| (nI 0))), (8, .int (b2i (tb (σ 78 (70 + (10 * k + n))) ch))), (7, .int (nI (10 * k + n))), (0, .ref 77), (1, .int S), (2, .int (nI 70)), (3, .int (nI ch)), (5, .int (nI k)), (6, .int (nI n))]) dX6_nicksIn_105 (by decide) rfl ?_
              refine ev_iinc (lv' := [(6, .int (nI (n + 1))), (4, .int ((fo n (fun n a => a ||| (bif tb S k && (mj (σ 78) 70 ch) k n then bt n else nI 0)) (fo k (fun h a => fo 10 (fun n a => a ||| (bif tb S h && (mj (σ 78) 70 ch) h n then bt n else nI 0)) a) (nI 0))) ||| (nI 0))), (8, .int (b2i (tb (σ 78 (70 + (10 * k + n))) ch))), (7, .int (nI (10 * k + n))), (0, .ref 77), (1, .int S), (2, .int (nI 70)), (3, .int (nI ch)), (5, .int (nI k))]) dX6_nicksIn_107 8 rfl (nI_inc n) (by decide) rfl ?_
              refine ev_goto (tgt := 20) dX6_nicksIn_110 (by decide) ?_
              refine ev_lv (lv' := [(0, .ref 77), (1, .int S), (2, .int (nI 70)), (3, .int (nI ch)), (4, .int ((fo n (fun n a => a ||| (bif tb S k && (mj (σ 78) 70 ch) k n then bt n else nI 0)) (fo k (fun h a => fo 10 (fun n a => a ||| (bif tb S h && (mj (σ 78) 70 ch) h n then bt n else nI 0)) a) (nI 0))) ||| (nI 0))), (5, .int (nI k)), (6, .int (nI (n + 1)))]) [4, 5, 6, 7, 1, 8, 0] rfl ?_
              have ih9 : av_Ev l RX6 cX6_nicksIn 9 (some .int) av_E0 1 20 [(0, .ref 77), (1, .int S), (2, .int (nI 70)), (3, .int (nI ch)), (4, .int (fo (n + 1) (fun n a => a ||| (bif tb S k && (mj (σ 78) 70 ch) k n then bt n else nI 0)) (fo k (fun h a => fo 10 (fun n a => a ||| (bif tb S h && (mj (σ 78) 70 ch) h n then bt n else nI 0)) a) (nI 0)))), (5, .int (nI k)), (6, .int (nI (n + 1)))] [] σ Q := ihn
              rw [show fo (n + 1) (fun n a => a ||| (bif tb S k && (mj (σ 78) 70 ch) k n then bt n else nI 0)) (fo k (fun h a => fo 10 (fun n a => a ||| (bif tb S h && (mj (σ 78) 70 ch) h n then bt n else nI 0)) a) (nI 0)) = (fo n (fun n a => a ||| (bif tb S k && (mj (σ 78) 70 ch) k n then bt n else nI 0)) (fo k (fun h a => fo 10 (fun n a => a ||| (bif tb S h && (mj (σ 78) 70 ch) h n then bt n else nI 0)) a) (nI 0))) ||| (nI 0) from (by rw [fo_s]; simp only [mj, h14, h24, h39, h88, decide_true, decide_false, not_true, not_false_iff, Bool.and_true, Bool.and_false, Bool.true_and, Bool.false_and, cond_true, cond_false])] at ih9
              exact ih9
            · refine ev_iload dX6_nicksIn_91 0 rfl ?_
              refine ev_ifb_eq (tgt := 103) dX6_nicksIn_93 (by decide) (fun h93 => ?_) (fun h93 => ?_)
              · refine ev_iconst dX6_nicksIn_103 (v := nI 0) (by decide) ?_
                refine ev_ior dX6_nicksIn_104 ?_
                refine ev_istore (lv' := [(4, .int ((fo n (fun n a => a ||| (bif tb S k && (mj (σ 78) 70 ch) k n then bt n else nI 0)) (fo k (fun h a => fo 10 (fun n a => a ||| (bif tb S h && (mj (σ 78) 70 ch) h n then bt n else nI 0)) a) (nI 0))) ||| (nI 0))), (8, .int (b2i (tb (σ 78 (70 + (10 * k + n))) ch))), (7, .int (nI (10 * k + n))), (0, .ref 77), (1, .int S), (2, .int (nI 70)), (3, .int (nI ch)), (5, .int (nI k)), (6, .int (nI n))]) dX6_nicksIn_105 (by decide) rfl ?_
                refine ev_iinc (lv' := [(6, .int (nI (n + 1))), (4, .int ((fo n (fun n a => a ||| (bif tb S k && (mj (σ 78) 70 ch) k n then bt n else nI 0)) (fo k (fun h a => fo 10 (fun n a => a ||| (bif tb S h && (mj (σ 78) 70 ch) h n then bt n else nI 0)) a) (nI 0))) ||| (nI 0))), (8, .int (b2i (tb (σ 78 (70 + (10 * k + n))) ch))), (7, .int (nI (10 * k + n))), (0, .ref 77), (1, .int S), (2, .int (nI 70)), (3, .int (nI ch)), (5, .int (nI k))]) dX6_nicksIn_107 8 rfl (nI_inc n) (by decide) rfl ?_
                refine ev_goto (tgt := 20) dX6_nicksIn_110 (by decide) ?_
                refine ev_lv (lv' := [(0, .ref 77), (1, .int S), (2, .int (nI 70)), (3, .int (nI ch)), (4, .int ((fo n (fun n a => a ||| (bif tb S k && (mj (σ 78) 70 ch) k n then bt n else nI 0)) (fo k (fun h a => fo 10 (fun n a => a ||| (bif tb S h && (mj (σ 78) 70 ch) h n then bt n else nI 0)) a) (nI 0))) ||| (nI 0))), (5, .int (nI k)), (6, .int (nI (n + 1)))]) [4, 5, 6, 7, 1, 8, 0] rfl ?_
                have ih9 : av_Ev l RX6 cX6_nicksIn 9 (some .int) av_E0 1 20 [(0, .ref 77), (1, .int S), (2, .int (nI 70)), (3, .int (nI ch)), (4, .int (fo (n + 1) (fun n a => a ||| (bif tb S k && (mj (σ 78) 70 ch) k n then bt n else nI 0)) (fo k (fun h a => fo 10 (fun n a => a ||| (bif tb S h && (mj (σ 78) 70 ch) h n then bt n else nI 0)) a) (nI 0)))), (5, .int (nI k)), (6, .int (nI (n + 1)))] [] σ Q := ihn
                rw [show fo (n + 1) (fun n a => a ||| (bif tb S k && (mj (σ 78) 70 ch) k n then bt n else nI 0)) (fo k (fun h a => fo 10 (fun n a => a ||| (bif tb S h && (mj (σ 78) 70 ch) h n then bt n else nI 0)) a) (nI 0)) = (fo n (fun n a => a ||| (bif tb S k && (mj (σ 78) 70 ch) k n then bt n else nI 0)) (fo k (fun h a => fo 10 (fun n a => a ||| (bif tb S h && (mj (σ 78) 70 ch) h n then bt n else nI 0)) a) (nI 0))) ||| (nI 0) from (by rw [fo_s]; simp only [mj, h14, h24, h39, h88, h93, decide_true, decide_false, not_true, not_false_iff, Bool.and_true, Bool.and_false, Bool.true_and, Bool.false_and, cond_true, cond_false])] at ih9
                exact ih9
              · refine ev_iconst dX6_nicksIn_96 (v := nI 1) (by decide) ?_
                refine ev_iload dX6_nicksIn_97 8 rfl ?_
                refine ev_ishl dX6_nicksIn_99 ?_
                refine ev_top (v := bt n) rfl ?_
                refine ev_goto (tgt := 104) dX6_nicksIn_100 (by decide) ?_
                refine ev_ior dX6_nicksIn_104 ?_
                refine ev_istore (lv' := [(4, .int ((fo n (fun n a => a ||| (bif tb S k && (mj (σ 78) 70 ch) k n then bt n else nI 0)) (fo k (fun h a => fo 10 (fun n a => a ||| (bif tb S h && (mj (σ 78) 70 ch) h n then bt n else nI 0)) a) (nI 0))) ||| (bt n))), (8, .int (b2i (tb (σ 78 (70 + (10 * k + n))) ch))), (7, .int (nI (10 * k + n))), (0, .ref 77), (1, .int S), (2, .int (nI 70)), (3, .int (nI ch)), (5, .int (nI k)), (6, .int (nI n))]) dX6_nicksIn_105 (by decide) rfl ?_
                refine ev_iinc (lv' := [(6, .int (nI (n + 1))), (4, .int ((fo n (fun n a => a ||| (bif tb S k && (mj (σ 78) 70 ch) k n then bt n else nI 0)) (fo k (fun h a => fo 10 (fun n a => a ||| (bif tb S h && (mj (σ 78) 70 ch) h n then bt n else nI 0)) a) (nI 0))) ||| (bt n))), (8, .int (b2i (tb (σ 78 (70 + (10 * k + n))) ch))), (7, .int (nI (10 * k + n))), (0, .ref 77), (1, .int S), (2, .int (nI 70)), (3, .int (nI ch)), (5, .int (nI k))]) dX6_nicksIn_107 8 rfl (nI_inc n) (by decide) rfl ?_
                refine ev_goto (tgt := 20) dX6_nicksIn_110 (by decide) ?_
                refine ev_lv (lv' := [(0, .ref 77), (1, .int S), (2, .int (nI 70)), (3, .int (nI ch)), (4, .int ((fo n (fun n a => a ||| (bif tb S k && (mj (σ 78) 70 ch) k n then bt n else nI 0)) (fo k (fun h a => fo 10 (fun n a => a ||| (bif tb S h && (mj (σ 78) 70 ch) h n then bt n else nI 0)) a) (nI 0))) ||| (bt n))), (5, .int (nI k)), (6, .int (nI (n + 1)))]) [4, 5, 6, 7, 1, 8, 0] rfl ?_
                have ih9 : av_Ev l RX6 cX6_nicksIn 9 (some .int) av_E0 1 20 [(0, .ref 77), (1, .int S), (2, .int (nI 70)), (3, .int (nI ch)), (4, .int (fo (n + 1) (fun n a => a ||| (bif tb S k && (mj (σ 78) 70 ch) k n then bt n else nI 0)) (fo k (fun h a => fo 10 (fun n a => a ||| (bif tb S h && (mj (σ 78) 70 ch) h n then bt n else nI 0)) a) (nI 0)))), (5, .int (nI k)), (6, .int (nI (n + 1)))] [] σ Q := ihn
                rw [show fo (n + 1) (fun n a => a ||| (bif tb S k && (mj (σ 78) 70 ch) k n then bt n else nI 0)) (fo k (fun h a => fo 10 (fun n a => a ||| (bif tb S h && (mj (σ 78) 70 ch) h n then bt n else nI 0)) a) (nI 0)) = (fo n (fun n a => a ||| (bif tb S k && (mj (σ 78) 70 ch) k n then bt n else nI 0)) (fo k (fun h a => fo 10 (fun n a => a ||| (bif tb S h && (mj (σ 78) 70 ch) h n then bt n else nI 0)) a) (nI 0))) ||| (bt n) from (by rw [fo_s]; simp only [mj, h14, h24, h39, h88, h93, decide_true, decide_false, not_true, not_false_iff, Bool.and_true, Bool.and_false, Bool.true_and, Bool.false_and, cond_true, cond_false])] at ih9
                exact ih9
          · exact absurd h39 (by omega)

set_option maxRecDepth 100000 in
set_option maxHeartbeats 1000000 in
theorem c_X6_nicksIn_o {l : Launch} {σ : av_S} (S : Int32) (ch : Nat) (c : Nat) (hcn : σ 78 0 = nI c) (hc1 : 1 ≤ c) (hc6 : c ≤ 6) (hch : ch < 32) : av_M l RX6 cX6_nicksIn 9 (some .int) 1 [.ref 77, .int S, .int (nI 130), .int (nI ch)] σ (some (.int (mni (mj (σ 78) 130 ch) c S))) σ := by
  intro Q hQ
  show av_Ev l RX6 cX6_nicksIn 9 (some .int) av_E0 1 0 [(0, .ref 77), (1, .int S), (2, .int (nI 130)), (3, .int (nI ch))] [] σ Q
  refine ev_iconst dX6_nicksIn_0 (v := nI 0) (by decide) ?_
  refine ev_istore (lv' := [(4, .int (nI 0)), (0, .ref 77), (1, .int S), (2, .int (nI 130)), (3, .int (nI ch))]) dX6_nicksIn_1 (by decide) rfl ?_
  refine ev_iconst dX6_nicksIn_3 (v := nI 0) (by decide) ?_
  refine ev_istore (lv' := [(5, .int (nI 0)), (4, .int (nI 0)), (0, .ref 77), (1, .int S), (2, .int (nI 130)), (3, .int (nI ch))]) dX6_nicksIn_4 (by decide) rfl ?_
  refine ev_lv (lv' := [(0, .ref 77), (1, .int S), (2, .int (nI 130)), (3, .int (nI ch)), (4, .int (nI 0)), (5, .int (nI 0))]) [2, 3, 4, 5, 1, 0] rfl ?_
  refine loop_up (fun k => av_Ev l RX6 cX6_nicksIn 9 (some .int) av_E0 1 6 [(0, .ref 77), (1, .int S), (2, .int (nI 130)), (3, .int (nI ch)), (4, .int (fo k (fun h a => fo 10 (fun n a => a ||| (bif tb S h && (mj (σ 78) 130 ch) h n then bt n else nI 0)) a) (nI 0))), (5, .int (nI k))] [] σ Q) c ?_ ?_
  · show av_Ev l RX6 cX6_nicksIn 9 (some .int) av_E0 1 6 [(0, .ref 77), (1, .int S), (2, .int (nI 130)), (3, .int (nI ch)), (4, .int (fo c (fun h a => fo 10 (fun n a => a ||| (bif tb S h && (mj (σ 78) 130 ch) h n then bt n else nI 0)) a) (nI 0))), (5, .int (nI c))] [] σ Q
    refine ev_iload dX6_nicksIn_6 5 rfl ?_
    refine ev_aload_n dX6_nicksIn_8 rfl 0 rfl ?_
    refine ev_getR dX6_nicksIn_9 C_X6 L_X6_7 (by decide) (by decide) sh_77 rfl ?_
    refine ev_iconst dX6_nicksIn_12 (v := nI 0) (by decide) ?_
    refine ev_iald (e := 0) (v := σ 78 0) dX6_nicksIn_13 (by decide) sh_78 (by omega) (by decide) rfl ?_
    refine ev_top (v := nI c) hcn ?_
    refine ev_ncmp_ge (tgt := 119) dX6_nicksIn_14 (by decide) (by omega) (by omega) (fun h14 => ?_) (fun h14 => ?_)
    · refine ev_iload dX6_nicksIn_119 4 rfl ?_
      exact ev_ireturn dX6_nicksIn_121 rfl rfl (leafI hQ (by first | rfl | (simp [h14]; done)) rfl)
    · exact absurd h14 (by omega)
  · intro k hk ihk
    show av_Ev l RX6 cX6_nicksIn 9 (some .int) av_E0 1 6 [(0, .ref 77), (1, .int S), (2, .int (nI 130)), (3, .int (nI ch)), (4, .int (fo k (fun h a => fo 10 (fun n a => a ||| (bif tb S h && (mj (σ 78) 130 ch) h n then bt n else nI 0)) a) (nI 0))), (5, .int (nI k))] [] σ Q
    refine ev_iload dX6_nicksIn_6 5 rfl ?_
    refine ev_aload_n dX6_nicksIn_8 rfl 0 rfl ?_
    refine ev_getR dX6_nicksIn_9 C_X6 L_X6_7 (by decide) (by decide) sh_77 rfl ?_
    refine ev_iconst dX6_nicksIn_12 (v := nI 0) (by decide) ?_
    refine ev_iald (e := 0) (v := σ 78 0) dX6_nicksIn_13 (by decide) sh_78 (by omega) (by decide) rfl ?_
    refine ev_top (v := nI c) hcn ?_
    refine ev_ncmp_ge (tgt := 119) dX6_nicksIn_14 (by decide) (by omega) (by omega) (fun h14 => ?_) (fun h14 => ?_)
    · exact absurd h14 (by omega)
    · refine ev_iconst dX6_nicksIn_17 (v := nI 0) (by decide) ?_
      refine ev_istore (lv' := [(6, .int (nI 0)), (0, .ref 77), (1, .int S), (2, .int (nI 130)), (3, .int (nI ch)), (4, .int (fo k (fun h a => fo 10 (fun n a => a ||| (bif tb S h && (mj (σ 78) 130 ch) h n then bt n else nI 0)) a) (nI 0))), (5, .int (nI k))]) dX6_nicksIn_18 (by decide) rfl ?_
      refine ev_lv (lv' := [(0, .ref 77), (1, .int S), (2, .int (nI 130)), (3, .int (nI ch)), (4, .int (fo k (fun h a => fo 10 (fun n a => a ||| (bif tb S h && (mj (σ 78) 130 ch) h n then bt n else nI 0)) a) (nI 0))), (5, .int (nI k)), (6, .int (nI 0))]) [1, 2, 3, 4, 5, 6, 0] rfl ?_
      refine loop_up (fun n => av_Ev l RX6 cX6_nicksIn 9 (some .int) av_E0 1 20 [(0, .ref 77), (1, .int S), (2, .int (nI 130)), (3, .int (nI ch)), (4, .int (fo n (fun n a => a ||| (bif tb S k && (mj (σ 78) 130 ch) k n then bt n else nI 0)) (fo k (fun h a => fo 10 (fun n a => a ||| (bif tb S h && (mj (σ 78) 130 ch) h n then bt n else nI 0)) a) (nI 0)))), (5, .int (nI k)), (6, .int (nI n))] [] σ Q) 10 ?_ ?_
      · show av_Ev l RX6 cX6_nicksIn 9 (some .int) av_E0 1 20 [(0, .ref 77), (1, .int S), (2, .int (nI 130)), (3, .int (nI ch)), (4, .int (fo 10 (fun n a => a ||| (bif tb S k && (mj (σ 78) 130 ch) k n then bt n else nI 0)) (fo k (fun h a => fo 10 (fun n a => a ||| (bif tb S h && (mj (σ 78) 130 ch) h n then bt n else nI 0)) a) (nI 0)))), (5, .int (nI k)), (6, .int (nI 10))] [] σ Q
        refine ev_iload dX6_nicksIn_20 6 rfl ?_
        refine ev_bipush dX6_nicksIn_22 (v := nI 10) (by decide) ?_
        refine ev_ncmp_ge (tgt := 113) dX6_nicksIn_24 (by decide) (by omega) (by omega) (fun h24 => ?_) (fun h24 => ?_)
        · refine ev_iinc (lv' := [(5, .int (nI (k + 1))), (0, .ref 77), (1, .int S), (2, .int (nI 130)), (3, .int (nI ch)), (4, .int (fo 10 (fun n a => a ||| (bif tb S k && (mj (σ 78) 130 ch) k n then bt n else nI 0)) (fo k (fun h a => fo 10 (fun n a => a ||| (bif tb S h && (mj (σ 78) 130 ch) h n then bt n else nI 0)) a) (nI 0)))), (6, .int (nI 10))]) dX6_nicksIn_113 5 rfl (nI_inc k) (by decide) rfl ?_
          refine ev_goto (tgt := 6) dX6_nicksIn_116 (by decide) ?_
          refine ev_lv (lv' := [(0, .ref 77), (1, .int S), (2, .int (nI 130)), (3, .int (nI ch)), (4, .int (fo 10 (fun n a => a ||| (bif tb S k && (mj (σ 78) 130 ch) k n then bt n else nI 0)) (fo k (fun h a => fo 10 (fun n a => a ||| (bif tb S h && (mj (σ 78) 130 ch) h n then bt n else nI 0)) a) (nI 0)))), (5, .int (nI (k + 1)))]) [1, 2, 3, 4, 5, 0] rfl ?_
          have ih9 : av_Ev l RX6 cX6_nicksIn 9 (some .int) av_E0 1 6 [(0, .ref 77), (1, .int S), (2, .int (nI 130)), (3, .int (nI ch)), (4, .int (fo (k + 1) (fun h a => fo 10 (fun n a => a ||| (bif tb S h && (mj (σ 78) 130 ch) h n then bt n else nI 0)) a) (nI 0))), (5, .int (nI (k + 1)))] [] σ Q := ihk
          rw [show fo (k + 1) (fun h a => fo 10 (fun n a => a ||| (bif tb S h && (mj (σ 78) 130 ch) h n then bt n else nI 0)) a) (nI 0) = fo 10 (fun n a => a ||| (bif tb S k && (mj (σ 78) 130 ch) k n then bt n else nI 0)) (fo k (fun h a => fo 10 (fun n a => a ||| (bif tb S h && (mj (σ 78) 130 ch) h n then bt n else nI 0)) a) (nI 0)) from rfl] at ih9
          exact ih9
        · exact absurd h24 (by omega)
      · intro n hn ihn
        show av_Ev l RX6 cX6_nicksIn 9 (some .int) av_E0 1 20 [(0, .ref 77), (1, .int S), (2, .int (nI 130)), (3, .int (nI ch)), (4, .int (fo n (fun n a => a ||| (bif tb S k && (mj (σ 78) 130 ch) k n then bt n else nI 0)) (fo k (fun h a => fo 10 (fun n a => a ||| (bif tb S h && (mj (σ 78) 130 ch) h n then bt n else nI 0)) a) (nI 0)))), (5, .int (nI k)), (6, .int (nI n))] [] σ Q
        refine ev_iload dX6_nicksIn_20 6 rfl ?_
        refine ev_bipush dX6_nicksIn_22 (v := nI 10) (by decide) ?_
        refine ev_ncmp_ge (tgt := 113) dX6_nicksIn_24 (by decide) (by omega) (by omega) (fun h24 => ?_) (fun h24 => ?_)
        · exact absurd h24 (by omega)
        · refine ev_iload dX6_nicksIn_27 5 rfl ?_
          refine ev_iload dX6_nicksIn_29 6 rfl ?_
          refine ev_callSi (x := nI (10 * k + n)) dX6_nicksIn_31 (Or.inl M_X6_58) Y_X6_userCell [.int (nI k), .int (nI n)] (c_X6_userCell k n ) (by decide) (Nat.le_of_ble_eq_true rfl) rfl rfl (Nat.le_of_ble_eq_true rfl) ?_
          refine ev_istore (lv' := [(7, .int (nI (10 * k + n))), (0, .ref 77), (1, .int S), (2, .int (nI 130)), (3, .int (nI ch)), (4, .int (fo n (fun n a => a ||| (bif tb S k && (mj (σ 78) 130 ch) k n then bt n else nI 0)) (fo k (fun h a => fo 10 (fun n a => a ||| (bif tb S h && (mj (σ 78) 130 ch) h n then bt n else nI 0)) a) (nI 0)))), (5, .int (nI k)), (6, .int (nI n))]) dX6_nicksIn_34 (by decide) rfl ?_
          refine ev_iload_n dX6_nicksIn_36 rfl 3 rfl ?_
          refine ev_bipush dX6_nicksIn_37 (v := nI 10) (by decide) ?_
          refine ev_ncmp_ne (tgt := 65) dX6_nicksIn_39 (by decide) (by omega) (by omega) (fun h39 => ?_) (fun h39 => ?_)
          · refine ev_aload_n dX6_nicksIn_65 rfl 1 rfl ?_
            refine ev_getR dX6_nicksIn_66 C_X6 L_X6_7 (by decide) (by decide) sh_77 rfl ?_
            refine ev_iload_n dX6_nicksIn_69 rfl 3 rfl ?_
            refine ev_iload dX6_nicksIn_70 0 rfl ?_
            refine ev_iadd dX6_nicksIn_72 ?_
            refine ev_top (v := nI (130 + (10 * k + n))) (nI_add _ _) ?_
            refine ev_iald (e := 130 + (10 * k + n)) (v := σ 78 (130 + (10 * k + n))) dX6_nicksIn_73 (by decide) sh_78 (by omega) (by decide) rfl ?_
            refine ev_iload_n dX6_nicksIn_74 rfl 4 rfl ?_
            refine ev_callSi (x := b2i (tb (σ 78 (130 + (10 * k + n))) ch)) dX6_nicksIn_75 (Or.inl M_X6_50) Y_X6_has [.int (σ 78 (130 + (10 * k + n))), .int (nI ch)] (c_X6_has (σ 78 (130 + (10 * k + n))) ch (by omega)) (by decide) (Nat.le_of_ble_eq_true rfl) rfl rfl (Nat.le_of_ble_eq_true rfl) ?_
            refine ev_istore (lv' := [(8, .int (b2i (tb (σ 78 (130 + (10 * k + n))) ch))), (7, .int (nI (10 * k + n))), (0, .ref 77), (1, .int S), (2, .int (nI 130)), (3, .int (nI ch)), (4, .int (fo n (fun n a => a ||| (bif tb S k && (mj (σ 78) 130 ch) k n then bt n else nI 0)) (fo k (fun h a => fo 10 (fun n a => a ||| (bif tb S h && (mj (σ 78) 130 ch) h n then bt n else nI 0)) a) (nI 0)))), (5, .int (nI k)), (6, .int (nI n))]) dX6_nicksIn_78 (by decide) rfl ?_
            refine ev_iload dX6_nicksIn_80 6 rfl ?_
            refine ev_iload_n dX6_nicksIn_82 rfl 3 rfl ?_
            refine ev_iload dX6_nicksIn_83 7 rfl ?_
            refine ev_callSi (x := b2i (tb S k)) dX6_nicksIn_85 (Or.inl M_X6_50) Y_X6_has [.int S, .int (nI k)] (c_X6_has S k (by omega)) (by decide) (Nat.le_of_ble_eq_true rfl) rfl rfl (Nat.le_of_ble_eq_true rfl) ?_
            refine ev_ifb_eq (tgt := 103) dX6_nicksIn_88 (by decide) (fun h88 => ?_) (fun h88 => ?_)
            · refine ev_iconst dX6_nicksIn_103 (v := nI 0) (by decide) ?_
              refine ev_ior dX6_nicksIn_104 ?_
              refine ev_istore (lv' := [(4, .int ((fo n (fun n a => a ||| (bif tb S k && (mj (σ 78) 130 ch) k n then bt n else nI 0)) (fo k (fun h a => fo 10 (fun n a => a ||| (bif tb S h && (mj (σ 78) 130 ch) h n then bt n else nI 0)) a) (nI 0))) ||| (nI 0))), (8, .int (b2i (tb (σ 78 (130 + (10 * k + n))) ch))), (7, .int (nI (10 * k + n))), (0, .ref 77), (1, .int S), (2, .int (nI 130)), (3, .int (nI ch)), (5, .int (nI k)), (6, .int (nI n))]) dX6_nicksIn_105 (by decide) rfl ?_
              refine ev_iinc (lv' := [(6, .int (nI (n + 1))), (4, .int ((fo n (fun n a => a ||| (bif tb S k && (mj (σ 78) 130 ch) k n then bt n else nI 0)) (fo k (fun h a => fo 10 (fun n a => a ||| (bif tb S h && (mj (σ 78) 130 ch) h n then bt n else nI 0)) a) (nI 0))) ||| (nI 0))), (8, .int (b2i (tb (σ 78 (130 + (10 * k + n))) ch))), (7, .int (nI (10 * k + n))), (0, .ref 77), (1, .int S), (2, .int (nI 130)), (3, .int (nI ch)), (5, .int (nI k))]) dX6_nicksIn_107 8 rfl (nI_inc n) (by decide) rfl ?_
              refine ev_goto (tgt := 20) dX6_nicksIn_110 (by decide) ?_
              refine ev_lv (lv' := [(0, .ref 77), (1, .int S), (2, .int (nI 130)), (3, .int (nI ch)), (4, .int ((fo n (fun n a => a ||| (bif tb S k && (mj (σ 78) 130 ch) k n then bt n else nI 0)) (fo k (fun h a => fo 10 (fun n a => a ||| (bif tb S h && (mj (σ 78) 130 ch) h n then bt n else nI 0)) a) (nI 0))) ||| (nI 0))), (5, .int (nI k)), (6, .int (nI (n + 1)))]) [4, 5, 6, 7, 1, 8, 0] rfl ?_
              have ih9 : av_Ev l RX6 cX6_nicksIn 9 (some .int) av_E0 1 20 [(0, .ref 77), (1, .int S), (2, .int (nI 130)), (3, .int (nI ch)), (4, .int (fo (n + 1) (fun n a => a ||| (bif tb S k && (mj (σ 78) 130 ch) k n then bt n else nI 0)) (fo k (fun h a => fo 10 (fun n a => a ||| (bif tb S h && (mj (σ 78) 130 ch) h n then bt n else nI 0)) a) (nI 0)))), (5, .int (nI k)), (6, .int (nI (n + 1)))] [] σ Q := ihn
              rw [show fo (n + 1) (fun n a => a ||| (bif tb S k && (mj (σ 78) 130 ch) k n then bt n else nI 0)) (fo k (fun h a => fo 10 (fun n a => a ||| (bif tb S h && (mj (σ 78) 130 ch) h n then bt n else nI 0)) a) (nI 0)) = (fo n (fun n a => a ||| (bif tb S k && (mj (σ 78) 130 ch) k n then bt n else nI 0)) (fo k (fun h a => fo 10 (fun n a => a ||| (bif tb S h && (mj (σ 78) 130 ch) h n then bt n else nI 0)) a) (nI 0))) ||| (nI 0) from (by rw [fo_s]; simp only [mj, h14, h24, h39, h88, decide_true, decide_false, not_true, not_false_iff, Bool.and_true, Bool.and_false, Bool.true_and, Bool.false_and, cond_true, cond_false])] at ih9
              exact ih9
            · refine ev_iload dX6_nicksIn_91 0 rfl ?_
              refine ev_ifb_eq (tgt := 103) dX6_nicksIn_93 (by decide) (fun h93 => ?_) (fun h93 => ?_)
              · refine ev_iconst dX6_nicksIn_103 (v := nI 0) (by decide) ?_
                refine ev_ior dX6_nicksIn_104 ?_
                refine ev_istore (lv' := [(4, .int ((fo n (fun n a => a ||| (bif tb S k && (mj (σ 78) 130 ch) k n then bt n else nI 0)) (fo k (fun h a => fo 10 (fun n a => a ||| (bif tb S h && (mj (σ 78) 130 ch) h n then bt n else nI 0)) a) (nI 0))) ||| (nI 0))), (8, .int (b2i (tb (σ 78 (130 + (10 * k + n))) ch))), (7, .int (nI (10 * k + n))), (0, .ref 77), (1, .int S), (2, .int (nI 130)), (3, .int (nI ch)), (5, .int (nI k)), (6, .int (nI n))]) dX6_nicksIn_105 (by decide) rfl ?_
                refine ev_iinc (lv' := [(6, .int (nI (n + 1))), (4, .int ((fo n (fun n a => a ||| (bif tb S k && (mj (σ 78) 130 ch) k n then bt n else nI 0)) (fo k (fun h a => fo 10 (fun n a => a ||| (bif tb S h && (mj (σ 78) 130 ch) h n then bt n else nI 0)) a) (nI 0))) ||| (nI 0))), (8, .int (b2i (tb (σ 78 (130 + (10 * k + n))) ch))), (7, .int (nI (10 * k + n))), (0, .ref 77), (1, .int S), (2, .int (nI 130)), (3, .int (nI ch)), (5, .int (nI k))]) dX6_nicksIn_107 8 rfl (nI_inc n) (by decide) rfl ?_
                refine ev_goto (tgt := 20) dX6_nicksIn_110 (by decide) ?_
                refine ev_lv (lv' := [(0, .ref 77), (1, .int S), (2, .int (nI 130)), (3, .int (nI ch)), (4, .int ((fo n (fun n a => a ||| (bif tb S k && (mj (σ 78) 130 ch) k n then bt n else nI 0)) (fo k (fun h a => fo 10 (fun n a => a ||| (bif tb S h && (mj (σ 78) 130 ch) h n then bt n else nI 0)) a) (nI 0))) ||| (nI 0))), (5, .int (nI k)), (6, .int (nI (n + 1)))]) [4, 5, 6, 7, 1, 8, 0] rfl ?_
                have ih9 : av_Ev l RX6 cX6_nicksIn 9 (some .int) av_E0 1 20 [(0, .ref 77), (1, .int S), (2, .int (nI 130)), (3, .int (nI ch)), (4, .int (fo (n + 1) (fun n a => a ||| (bif tb S k && (mj (σ 78) 130 ch) k n then bt n else nI 0)) (fo k (fun h a => fo 10 (fun n a => a ||| (bif tb S h && (mj (σ 78) 130 ch) h n then bt n else nI 0)) a) (nI 0)))), (5, .int (nI k)), (6, .int (nI (n + 1)))] [] σ Q := ihn
                rw [show fo (n + 1) (fun n a => a ||| (bif tb S k && (mj (σ 78) 130 ch) k n then bt n else nI 0)) (fo k (fun h a => fo 10 (fun n a => a ||| (bif tb S h && (mj (σ 78) 130 ch) h n then bt n else nI 0)) a) (nI 0)) = (fo n (fun n a => a ||| (bif tb S k && (mj (σ 78) 130 ch) k n then bt n else nI 0)) (fo k (fun h a => fo 10 (fun n a => a ||| (bif tb S h && (mj (σ 78) 130 ch) h n then bt n else nI 0)) a) (nI 0))) ||| (nI 0) from (by rw [fo_s]; simp only [mj, h14, h24, h39, h88, h93, decide_true, decide_false, not_true, not_false_iff, Bool.and_true, Bool.and_false, Bool.true_and, Bool.false_and, cond_true, cond_false])] at ih9
                exact ih9
              · refine ev_iconst dX6_nicksIn_96 (v := nI 1) (by decide) ?_
                refine ev_iload dX6_nicksIn_97 8 rfl ?_
                refine ev_ishl dX6_nicksIn_99 ?_
                refine ev_top (v := bt n) rfl ?_
                refine ev_goto (tgt := 104) dX6_nicksIn_100 (by decide) ?_
                refine ev_ior dX6_nicksIn_104 ?_
                refine ev_istore (lv' := [(4, .int ((fo n (fun n a => a ||| (bif tb S k && (mj (σ 78) 130 ch) k n then bt n else nI 0)) (fo k (fun h a => fo 10 (fun n a => a ||| (bif tb S h && (mj (σ 78) 130 ch) h n then bt n else nI 0)) a) (nI 0))) ||| (bt n))), (8, .int (b2i (tb (σ 78 (130 + (10 * k + n))) ch))), (7, .int (nI (10 * k + n))), (0, .ref 77), (1, .int S), (2, .int (nI 130)), (3, .int (nI ch)), (5, .int (nI k)), (6, .int (nI n))]) dX6_nicksIn_105 (by decide) rfl ?_
                refine ev_iinc (lv' := [(6, .int (nI (n + 1))), (4, .int ((fo n (fun n a => a ||| (bif tb S k && (mj (σ 78) 130 ch) k n then bt n else nI 0)) (fo k (fun h a => fo 10 (fun n a => a ||| (bif tb S h && (mj (σ 78) 130 ch) h n then bt n else nI 0)) a) (nI 0))) ||| (bt n))), (8, .int (b2i (tb (σ 78 (130 + (10 * k + n))) ch))), (7, .int (nI (10 * k + n))), (0, .ref 77), (1, .int S), (2, .int (nI 130)), (3, .int (nI ch)), (5, .int (nI k))]) dX6_nicksIn_107 8 rfl (nI_inc n) (by decide) rfl ?_
                refine ev_goto (tgt := 20) dX6_nicksIn_110 (by decide) ?_
                refine ev_lv (lv' := [(0, .ref 77), (1, .int S), (2, .int (nI 130)), (3, .int (nI ch)), (4, .int ((fo n (fun n a => a ||| (bif tb S k && (mj (σ 78) 130 ch) k n then bt n else nI 0)) (fo k (fun h a => fo 10 (fun n a => a ||| (bif tb S h && (mj (σ 78) 130 ch) h n then bt n else nI 0)) a) (nI 0))) ||| (bt n))), (5, .int (nI k)), (6, .int (nI (n + 1)))]) [4, 5, 6, 7, 1, 8, 0] rfl ?_
                have ih9 : av_Ev l RX6 cX6_nicksIn 9 (some .int) av_E0 1 20 [(0, .ref 77), (1, .int S), (2, .int (nI 130)), (3, .int (nI ch)), (4, .int (fo (n + 1) (fun n a => a ||| (bif tb S k && (mj (σ 78) 130 ch) k n then bt n else nI 0)) (fo k (fun h a => fo 10 (fun n a => a ||| (bif tb S h && (mj (σ 78) 130 ch) h n then bt n else nI 0)) a) (nI 0)))), (5, .int (nI k)), (6, .int (nI (n + 1)))] [] σ Q := ihn
                rw [show fo (n + 1) (fun n a => a ||| (bif tb S k && (mj (σ 78) 130 ch) k n then bt n else nI 0)) (fo k (fun h a => fo 10 (fun n a => a ||| (bif tb S h && (mj (σ 78) 130 ch) h n then bt n else nI 0)) a) (nI 0)) = (fo n (fun n a => a ||| (bif tb S k && (mj (σ 78) 130 ch) k n then bt n else nI 0)) (fo k (fun h a => fo 10 (fun n a => a ||| (bif tb S h && (mj (σ 78) 130 ch) h n then bt n else nI 0)) a) (nI 0))) ||| (bt n) from (by rw [fo_s]; simp only [mj, h14, h24, h39, h88, h93, decide_true, decide_false, not_true, not_false_iff, Bool.and_true, Bool.and_false, Bool.true_and, Bool.false_and, cond_true, cond_false])] at ih9
                exact ih9
          · exact absurd h39 (by omega)

set_option maxRecDepth 100000 in
set_option maxHeartbeats 1000000 in
theorem c_X6_membersIn {l : Launch} {σ : av_S} (S : Int32) (ch : Nat) (c : Nat) (hcn : σ 78 0 = nI c) (hc1 : 1 ≤ c) (hc6 : c ≤ 6) (hch : ch < 32) : av_M l RX6 cX6_membersIn 3 (some .int) 2 [.ref 77, .int S, .int (nI ch)] σ (some (.int (mni (mj (σ 78) 70 ch) c S))) σ := by
  intro Q hQ
  show av_Ev l RX6 cX6_membersIn 3 (some .int) av_E0 2 0 [(0, .ref 77), (1, .int S), (2, .int (nI ch))] [] σ Q
  refine ev_aload_n dX6_membersIn_0 rfl 0 rfl ?_
  refine ev_iload_n dX6_membersIn_1 rfl 1 rfl ?_
  refine ev_bipush dX6_membersIn_2 (v := nI 70) (by decide) ?_
  refine ev_iload_n dX6_membersIn_4 rfl 2 rfl ?_
  refine ev_callVi (x := mni (mj (σ 78) 70 ch) c S) dX6_membersIn_5 M_X6_65 Y_X6_nicksIn [.int S, .int (nI 70), .int (nI ch)] (c_X6_nicksIn_j S ch c (by first | exact hcn | omega) (by first | exact hc1 | omega) (by first | exact hc6 | omega) (by omega)) (by decide) (Nat.le_of_ble_eq_true rfl) (by decide) sh_77 rfl rfl rfl (Nat.le_of_ble_eq_true rfl) ?_
  exact ev_ireturn dX6_membersIn_8 rfl rfl (leafI hQ rfl rfl)

set_option maxRecDepth 100000 in
set_option maxHeartbeats 1000000 in
theorem c_X6_removeUser {l : Launch} {σ : av_S} (h : Nat) (n : Nat) (hh : h < 6) (hn0 : n < 10) : av_M l RX6 cX6_removeUser 4 none 1 [.ref 77, .int (nI h), .int (nI n)] σ none (av_set σ 78 (mrm (σ 78) h n)) := by
  intro Q hQ
  show av_Ev l RX6 cX6_removeUser 4 none av_E0 1 0 [(0, .ref 77), (1, .int (nI h)), (2, .int (nI n))] [] σ Q
  refine ev_iload_n dX6_removeUser_0 rfl 1 rfl ?_
  refine ev_iload_n dX6_removeUser_1 rfl 2 rfl ?_
  refine ev_callSi (x := nI (10 * h + n)) dX6_removeUser_2 (Or.inl M_X6_58) Y_X6_userCell [.int (nI h), .int (nI n)] (c_X6_userCell h n ) (by decide) (Nat.le_of_ble_eq_true rfl) rfl rfl (Nat.le_of_ble_eq_true rfl) ?_
  refine ev_istore_n (lv' := [(3, .int (nI (10 * h + n))), (0, .ref 77), (1, .int (nI h)), (2, .int (nI n))]) dX6_removeUser_5 rfl (by decide) rfl ?_
  refine ev_aload_n dX6_removeUser_6 rfl 1 rfl ?_
  refine ev_getR dX6_removeUser_7 C_X6 L_X6_7 (by decide) (by decide) sh_77 rfl ?_
  refine ev_bipush dX6_removeUser_10 (v := nI 10) (by decide) ?_
  refine ev_iload_n dX6_removeUser_12 rfl 0 rfl ?_
  refine ev_iadd dX6_removeUser_13 ?_
  refine ev_top (v := nI (10 + (10 * h + n))) (nI_add _ _) ?_
  refine ev_bipush dX6_removeUser_14 (v := (-9)) (by decide) ?_
  refine ev_iast (e := 10 + (10 * h + n)) dX6_removeUser_16 (by decide) sh_78 (by omega) (by decide) ?_
  refine ev_aload_n dX6_removeUser_17 rfl 1 rfl ?_
  refine ev_getR dX6_removeUser_18 C_X6 L_X6_7 (by decide) (by decide) sh_77 rfl ?_
  refine ev_bipush dX6_removeUser_21 (v := nI 70) (by decide) ?_
  refine ev_iload_n dX6_removeUser_23 rfl 0 rfl ?_
  refine ev_iadd dX6_removeUser_24 ?_
  refine ev_top (v := nI (70 + (10 * h + n))) (nI_add _ _) ?_
  refine ev_iconst dX6_removeUser_25 (v := nI 0) (by decide) ?_
  refine ev_iast (e := 70 + (10 * h + n)) dX6_removeUser_26 (by decide) sh_78 (by omega) (by decide) ?_
  refine ev_st (σ' := av_set σ 78 (upd (upd (σ 78) (10 + (10 * h + n)) (-9)) (70 + (10 * h + n)) (nI 0))) (by first | rfl | (funext a; by_cases q78 : a = 78; (next => subst q78; rfl); simp only [av_set, q78, if_false]) | exact av_set_set _ _ _ _ | (funext a; unfold av_set; (repeat' split) <;> first | rfl | (exfalso; omega)) | (funext a; simp only [av_set, cpS]; (repeat' split) <;> first | rfl | (exfalso; omega))) ?_
  refine ev_aload_n dX6_removeUser_27 rfl 1 rfl ?_
  refine ev_getR dX6_removeUser_28 C_X6 L_X6_7 (by decide) (by decide) sh_77 rfl ?_
  refine ev_sipush dX6_removeUser_31 (v := nI 130) (by decide) ?_
  refine ev_iload_n dX6_removeUser_34 rfl 0 rfl ?_
  refine ev_iadd dX6_removeUser_35 ?_
  refine ev_top (v := nI (130 + (10 * h + n))) (nI_add _ _) ?_
  refine ev_iconst dX6_removeUser_36 (v := nI 0) (by decide) ?_
  refine ev_iast (e := 130 + (10 * h + n)) dX6_removeUser_37 (by decide) sh_78 (by omega) (by decide) ?_
  refine ev_st (σ' := av_set σ 78 (upd (upd (upd (σ 78) (10 + (10 * h + n)) (-9)) (70 + (10 * h + n)) (nI 0)) (130 + (10 * h + n)) (nI 0))) (by first | rfl | (funext a; by_cases q78 : a = 78; (next => subst q78; rfl); simp only [av_set, q78, if_false]) | exact av_set_set _ _ _ _ | (funext a; unfold av_set; (repeat' split) <;> first | rfl | (exfalso; omega)) | (funext a; simp only [av_set, cpS]; (repeat' split) <;> first | rfl | (exfalso; omega))) ?_
  exact ev_return dX6_removeUser_38 rfl (leafV hQ rfl)

