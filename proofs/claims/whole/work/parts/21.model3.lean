/-! ===== the reference: contracts, third part ===== -/
set_option maxRecDepth 100000 in
set_option maxHeartbeats 1000000 in
theorem c_X6_isMember {l : Launch} {σ : av_S} (s : Nat) (n : Nat) (ch : Nat) (hs : s < 6) (hn0 : n < 10) (hch : ch < 4) : av_M l RX6 cX6_isMember 4 (some .boolean) 2 [.ref 77, .int (nI s), .int (nI n), .int (nI ch)] σ (some (.int (b2i (mus (σ 78) s n && mj (σ 78) 70 ch s n)))) σ := by
  intro Q hQ
  show av_Ev l RX6 cX6_isMember 4 (some .boolean) av_E0 2 0 [(0, .ref 77), (1, .int (nI s)), (2, .int (nI n)), (3, .int (nI ch))] [] σ Q
  refine ev_aload_n dX6_isMember_0 rfl 0 rfl ?_
  refine ev_iload_n dX6_isMember_1 rfl 1 rfl ?_
  refine ev_iload_n dX6_isMember_2 rfl 2 rfl ?_
  refine ev_callVi (x := b2i (mus (σ 78) s n)) dX6_isMember_3 M_X6_62 Y_X6_isUser [.int (nI s), .int (nI n)] (c_X6_isUser s n (by omega) (by omega)) (by decide) (Nat.le_of_ble_eq_true rfl) (by decide) sh_77 rfl rfl rfl (Nat.le_of_ble_eq_true rfl) ?_
  refine ev_ifb_eq (tgt := 33) dX6_isMember_6 (by decide) (fun h6 => ?_) (fun h6 => ?_)
  · refine ev_iconst dX6_isMember_33 (v := nI 0) (by decide) ?_
    exact ev_ireturn dX6_isMember_34 rfl (by decide) (leafI hQ (by simp [b2i, mj, h6]) rfl)
  · refine ev_aload_n dX6_isMember_9 rfl 0 rfl ?_
    refine ev_getR dX6_isMember_10 C_X6 L_X6_7 (by decide) (by decide) sh_77 rfl ?_
    refine ev_bipush dX6_isMember_13 (v := nI 70) (by decide) ?_
    refine ev_iload_n dX6_isMember_15 rfl 1 rfl ?_
    refine ev_iload_n dX6_isMember_16 rfl 2 rfl ?_
    refine ev_callSi (x := nI (10 * s + n)) dX6_isMember_17 (Or.inl M_X6_58) Y_X6_userCell [.int (nI s), .int (nI n)] (c_X6_userCell s n ) (by decide) (Nat.le_of_ble_eq_true rfl) rfl rfl (Nat.le_of_ble_eq_true rfl) ?_
    refine ev_iadd dX6_isMember_20 ?_
    refine ev_top (v := nI (70 + (10 * s + n))) (nI_add _ _) ?_
    refine ev_iald (e := 70 + (10 * s + n)) (v := σ 78 (70 + (10 * s + n))) dX6_isMember_21 (by decide) sh_78 (by omega) (by decide) rfl ?_
    refine ev_iload_n dX6_isMember_22 rfl 3 rfl ?_
    refine ev_callSi (x := b2i (tb (σ 78 (70 + (10 * s + n))) ch)) dX6_isMember_23 (Or.inl M_X6_50) Y_X6_has [.int (σ 78 (70 + (10 * s + n))), .int (nI ch)] (c_X6_has (σ 78 (70 + (10 * s + n))) ch (by omega)) (by decide) (Nat.le_of_ble_eq_true rfl) rfl rfl (Nat.le_of_ble_eq_true rfl) ?_
    refine ev_ifb_eq (tgt := 33) dX6_isMember_26 (by decide) (fun h26 => ?_) (fun h26 => ?_)
    · refine ev_iconst dX6_isMember_33 (v := nI 0) (by decide) ?_
      exact ev_ireturn dX6_isMember_34 rfl (by decide) (leafI hQ (by simp [b2i, mj, h6, h26]) rfl)
    · refine ev_iconst dX6_isMember_29 (v := nI 1) (by decide) ?_
      refine ev_goto (tgt := 34) dX6_isMember_30 (by decide) ?_
      exact ev_ireturn dX6_isMember_34 rfl (by decide) (leafI hQ (by simp [b2i, mj, h6, h26]) rfl)

set_option maxRecDepth 100000 in
set_option maxHeartbeats 1000000 in
theorem c_X6_isOperator {l : Launch} {σ : av_S} (s : Nat) (n : Nat) (ch : Nat) (hs : s < 6) (hn0 : n < 10) (hch : ch < 4) : av_M l RX6 cX6_isOperator 4 (some .boolean) 2 [.ref 77, .int (nI s), .int (nI n), .int (nI ch)] σ (some (.int (b2i (mus (σ 78) s n && mj (σ 78) 130 ch s n)))) σ := by
  intro Q hQ
  show av_Ev l RX6 cX6_isOperator 4 (some .boolean) av_E0 2 0 [(0, .ref 77), (1, .int (nI s)), (2, .int (nI n)), (3, .int (nI ch))] [] σ Q
  refine ev_aload_n dX6_isOperator_0 rfl 0 rfl ?_
  refine ev_iload_n dX6_isOperator_1 rfl 1 rfl ?_
  refine ev_iload_n dX6_isOperator_2 rfl 2 rfl ?_
  refine ev_callVi (x := b2i (mus (σ 78) s n)) dX6_isOperator_3 M_X6_62 Y_X6_isUser [.int (nI s), .int (nI n)] (c_X6_isUser s n (by omega) (by omega)) (by decide) (Nat.le_of_ble_eq_true rfl) (by decide) sh_77 rfl rfl rfl (Nat.le_of_ble_eq_true rfl) ?_
  refine ev_ifb_eq (tgt := 34) dX6_isOperator_6 (by decide) (fun h6 => ?_) (fun h6 => ?_)
  · refine ev_iconst dX6_isOperator_34 (v := nI 0) (by decide) ?_
    exact ev_ireturn dX6_isOperator_35 rfl (by decide) (leafI hQ (by simp [b2i, mj, h6]) rfl)
  · refine ev_aload_n dX6_isOperator_9 rfl 0 rfl ?_
    refine ev_getR dX6_isOperator_10 C_X6 L_X6_7 (by decide) (by decide) sh_77 rfl ?_
    refine ev_sipush dX6_isOperator_13 (v := nI 130) (by decide) ?_
    refine ev_iload_n dX6_isOperator_16 rfl 1 rfl ?_
    refine ev_iload_n dX6_isOperator_17 rfl 2 rfl ?_
    refine ev_callSi (x := nI (10 * s + n)) dX6_isOperator_18 (Or.inl M_X6_58) Y_X6_userCell [.int (nI s), .int (nI n)] (c_X6_userCell s n ) (by decide) (Nat.le_of_ble_eq_true rfl) rfl rfl (Nat.le_of_ble_eq_true rfl) ?_
    refine ev_iadd dX6_isOperator_21 ?_
    refine ev_top (v := nI (130 + (10 * s + n))) (nI_add _ _) ?_
    refine ev_iald (e := 130 + (10 * s + n)) (v := σ 78 (130 + (10 * s + n))) dX6_isOperator_22 (by decide) sh_78 (by omega) (by decide) rfl ?_
    refine ev_iload_n dX6_isOperator_23 rfl 3 rfl ?_
    refine ev_callSi (x := b2i (tb (σ 78 (130 + (10 * s + n))) ch)) dX6_isOperator_24 (Or.inl M_X6_50) Y_X6_has [.int (σ 78 (130 + (10 * s + n))), .int (nI ch)] (c_X6_has (σ 78 (130 + (10 * s + n))) ch (by omega)) (by decide) (Nat.le_of_ble_eq_true rfl) rfl rfl (Nat.le_of_ble_eq_true rfl) ?_
    refine ev_ifb_eq (tgt := 34) dX6_isOperator_27 (by decide) (fun h27 => ?_) (fun h27 => ?_)
    · refine ev_iconst dX6_isOperator_34 (v := nI 0) (by decide) ?_
      exact ev_ireturn dX6_isOperator_35 rfl (by decide) (leafI hQ (by simp [b2i, mj, h6, h27]) rfl)
    · refine ev_iconst dX6_isOperator_30 (v := nI 1) (by decide) ?_
      refine ev_goto (tgt := 35) dX6_isOperator_31 (by decide) ?_
      exact ev_ireturn dX6_isOperator_35 rfl (by decide) (leafI hQ (by simp [b2i, mj, h6, h27]) rfl)

set_option maxRecDepth 100000 in
set_option maxHeartbeats 1000000 in
theorem c_X6_memberCount {l : Launch} {σ : av_S} (s : Nat) (ch : Nat) (c : Nat) (hs : s < 6) (hch : ch < 4) (hcn : σ 78 0 = nI c) (hc1 : 1 ≤ c) (hc6 : c ≤ 6) : av_M l RX6 cX6_memberCount 3 (some .int) 3 [.ref 77, .int (nI s), .int (nI ch)] σ (some (.int (nI (mcm (σ 78) c s ch)))) σ := by
  intro Q hQ
  show av_Ev l RX6 cX6_memberCount 3 (some .int) av_E0 3 0 [(0, .ref 77), (1, .int (nI s)), (2, .int (nI ch))] [] σ Q
  refine ev_aload_n dX6_memberCount_0 rfl 0 rfl ?_
  refine ev_aload_n dX6_memberCount_1 rfl 0 rfl ?_
  refine ev_iload_n dX6_memberCount_2 rfl 1 rfl ?_
  refine ev_callVi (x := mnet (σ 78) c s) dX6_memberCount_3 M_X6_54 Y_X6_network [.int (nI s)] (c_X6_network s c (by omega) (by first | exact hcn | omega) (by first | exact hc1 | omega) (by first | exact hc6 | omega)) (by decide) (Nat.le_of_ble_eq_true rfl) (by decide) sh_77 rfl rfl rfl (Nat.le_of_ble_eq_true rfl) ?_
  refine ev_iload_n dX6_memberCount_6 rfl 2 rfl ?_
  refine ev_callVi (x := mni (mj (σ 78) 70 ch) c (mnet (σ 78) c s)) dX6_memberCount_7 M_X6_82 Y_X6_membersIn [.int (mnet (σ 78) c s), .int (nI ch)] (c_X6_membersIn (mnet (σ 78) c s) ch c (by first | exact hcn | omega) (by first | exact hc1 | omega) (by first | exact hc6 | omega) (by omega)) (by decide) (Nat.le_of_ble_eq_true rfl) (by decide) sh_77 rfl rfl rfl (Nat.le_of_ble_eq_true rfl) ?_
  refine ev_callSi (x := nI (cb 10 (mni (mj (σ 78) 70 ch) c (mnet (σ 78) c s)))) dX6_memberCount_10 (Or.inl M_X6_79) Y_X6_bitCount [.int (mni (mj (σ 78) 70 ch) c (mnet (σ 78) c s))] (c_X6_bitCount (mni (mj (σ 78) 70 ch) c (mnet (σ 78) c s)) ) (by decide) (Nat.le_of_ble_eq_true rfl) rfl rfl (Nat.le_of_ble_eq_true rfl) ?_
  exact ev_ireturn dX6_memberCount_13 rfl rfl (leafI hQ (by first | rfl | (simp []; done)) rfl)

set_option maxRecDepth 100000 in
set_option maxHeartbeats 1000000 in
theorem c_X6_leave {l : Launch} {σ : av_S} (s : Nat) (n : Nat) (ch : Nat) (hs : s < 6) (hn0 : n < 10) (hch : ch < 4) : av_M l RX6 cX6_leave 4 none 1 [.ref 77, .int (nI s), .int (nI n), .int (nI ch)] σ none (av_set σ 78 (mle (σ 78) s n ch)) := by
  intro Q hQ
  show av_Ev l RX6 cX6_leave 4 none av_E0 1 0 [(0, .ref 77), (1, .int (nI s)), (2, .int (nI n)), (3, .int (nI ch))] [] σ Q
  refine ev_aload_n dX6_leave_0 rfl 0 rfl ?_
  refine ev_getR dX6_leave_1 C_X6 L_X6_7 (by decide) (by decide) sh_77 rfl ?_
  refine ev_bipush dX6_leave_4 (v := nI 70) (by decide) ?_
  refine ev_iload_n dX6_leave_6 rfl 1 rfl ?_
  refine ev_iload_n dX6_leave_7 rfl 2 rfl ?_
  refine ev_callSi (x := nI (10 * s + n)) dX6_leave_8 (Or.inl M_X6_58) Y_X6_userCell [.int (nI s), .int (nI n)] (c_X6_userCell s n ) (by decide) (Nat.le_of_ble_eq_true rfl) rfl rfl (Nat.le_of_ble_eq_true rfl) ?_
  refine ev_iadd dX6_leave_11 ?_
  refine ev_top (v := nI (70 + (10 * s + n))) (nI_add _ _) ?_
  refine ev_dup2_ia dX6_leave_12 ?_
  refine ev_iald (e := 70 + (10 * s + n)) (v := σ 78 (70 + (10 * s + n))) dX6_leave_13 (by decide) sh_78 (by omega) (by decide) rfl ?_
  refine ev_iconst dX6_leave_14 (v := nI 1) (by decide) ?_
  refine ev_iload_n dX6_leave_15 rfl 3 rfl ?_
  refine ev_ishl dX6_leave_16 ?_
  refine ev_top (v := bt ch) rfl ?_
  refine ev_iconst dX6_leave_17 (v := (-1)) (by decide) ?_
  refine ev_ixor dX6_leave_18 ?_
  refine ev_iand dX6_leave_19 ?_
  refine ev_iast (e := 70 + (10 * s + n)) dX6_leave_20 (by decide) sh_78 (by omega) (by decide) ?_
  refine ev_aload_n dX6_leave_21 rfl 0 rfl ?_
  refine ev_getR dX6_leave_22 C_X6 L_X6_7 (by decide) (by decide) sh_77 rfl ?_
  refine ev_sipush dX6_leave_25 (v := nI 130) (by decide) ?_
  refine ev_iload_n dX6_leave_28 rfl 1 rfl ?_
  refine ev_iload_n dX6_leave_29 rfl 2 rfl ?_
  refine ev_callSi (x := nI (10 * s + n)) dX6_leave_30 (Or.inl M_X6_58) Y_X6_userCell [.int (nI s), .int (nI n)] (c_X6_userCell s n ) (by decide) (Nat.le_of_ble_eq_true rfl) rfl rfl (Nat.le_of_ble_eq_true rfl) ?_
  refine ev_iadd dX6_leave_33 ?_
  refine ev_top (v := nI (130 + (10 * s + n))) (nI_add _ _) ?_
  refine ev_dup2_ia dX6_leave_34 ?_
  refine ev_iald (e := 130 + (10 * s + n)) (v := (upd (σ 78) (70 + (10 * s + n)) ((σ 78 (70 + (10 * s + n))) &&& ((bt ch) ^^^ (-1)))) (130 + (10 * s + n))) dX6_leave_35 (by decide) sh_78 (by omega) (by decide) (by first | rfl | (simp only [av_set, cpS]; (repeat' split) <;> first | rfl | (exfalso; omega))) ?_
  refine ev_iconst dX6_leave_36 (v := nI 1) (by decide) ?_
  refine ev_iload_n dX6_leave_37 rfl 3 rfl ?_
  refine ev_ishl dX6_leave_38 ?_
  refine ev_top (v := bt ch) rfl ?_
  refine ev_iconst dX6_leave_39 (v := (-1)) (by decide) ?_
  refine ev_ixor dX6_leave_40 ?_
  refine ev_iand dX6_leave_41 ?_
  refine ev_iast (e := 130 + (10 * s + n)) dX6_leave_42 (by decide) sh_78 (by omega) (by decide) ?_
  refine ev_st (σ' := av_set σ 78 (upd (upd (σ 78) (70 + (10 * s + n)) ((σ 78 (70 + (10 * s + n))) &&& ((bt ch) ^^^ (-1)))) (130 + (10 * s + n)) (((upd (σ 78) (70 + (10 * s + n)) ((σ 78 (70 + (10 * s + n))) &&& ((bt ch) ^^^ (-1)))) (130 + (10 * s + n))) &&& ((bt ch) ^^^ (-1))))) (by first | rfl | (funext a; by_cases q78 : a = 78; (next => subst q78; rfl); simp only [av_set, q78, if_false]) | exact av_set_set _ _ _ _ | (funext a; unfold av_set; (repeat' split) <;> first | rfl | (exfalso; omega)) | (funext a; simp only [av_set, cpS]; (repeat' split) <;> first | rfl | (exfalso; omega))) ?_
  exact ev_return dX6_leave_43 rfl (leafV hQ rfl)

set_option maxRecDepth 100000 in
set_option maxHeartbeats 1000000 in
theorem c_X6_join_bad {l : Launch} {σ : av_S} (x : Int32) (y : Int32) (z : Int32) (c : Nat) (hx : (sv (nI c) x && sv (nI 10) y && sv (nI 4) z) = false) (hcn : σ 78 0 = nI c) (hc1 : 1 ≤ c) (hc6 : c ≤ 6) : av_M l RX6 cX6_join 5 (some .int) 3 [.ref 77, .int x, .int y, .int z] σ (some (.int (-1))) σ := by
  intro Q hQ
  show av_Ev l RX6 cX6_join 5 (some .int) av_E0 3 0 [(0, .ref 77), (1, .int x), (2, .int y), (3, .int z)] [] σ Q
  refine ev_aload_n dX6_join_0 rfl 0 rfl ?_
  refine ev_iload_n dX6_join_1 rfl 1 rfl ?_
  refine ev_iload_n dX6_join_2 rfl 2 rfl ?_
  refine ev_callVi (x := b2i (sv (nI c) x && sv (nI 10) y)) dX6_join_3 M_X6_115 Y_X6_isPlace [.int x, .int y] (c_X6_isPlace x y c (by first | exact hcn | omega) (by first | exact hc1 | omega) (by first | exact hc6 | omega)) (by decide) (Nat.le_of_ble_eq_true rfl) (by decide) sh_77 rfl rfl rfl (Nat.le_of_ble_eq_true rfl) ?_
  refine ev_ifb_eq (tgt := 16) dX6_join_6 (by decide) (fun h6 => ?_) (fun h6 => ?_)
  · refine ev_iconst dX6_join_16 (v := (-1)) (by decide) ?_
    exact ev_ireturn dX6_join_17 rfl rfl (leafI hQ rfl rfl)
  · refine ev_iload_n dX6_join_9 rfl 3 rfl ?_
    refine ev_callSi (x := b2i (sv (nI 4) z)) dX6_join_10 (Or.inl M_X6_118) Y_X6_isChannel [.int z] (c_X6_isChannel z ) (by decide) (Nat.le_of_ble_eq_true rfl) rfl rfl (Nat.le_of_ble_eq_true rfl) ?_
    refine ev_ifb_ne (tgt := 18) dX6_join_13 (by decide) (fun h13 => ?_) (fun h13 => ?_)
    · exact absurd hx (by simp [h6, h13])
    · refine ev_iconst dX6_join_16 (v := (-1)) (by decide) ?_
      exact ev_ireturn dX6_join_17 rfl rfl (leafI hQ rfl rfl)

set_option maxRecDepth 100000 in
set_option maxHeartbeats 1000000 in
theorem c_X6_join_st1 {l : Launch} {σ : av_S} (s : Nat) (n : Nat) (ch : Nat) (c : Nat) (hs : s < 6) (hn0 : n < 10) (hp : (sv (nI c) (nI s) && sv (nI 10) (nI n)) = true) (hch : ch < 4) (hch1 : sv (nI 4) (nI ch) = true) (hu0 : mus (σ 78) s n = false) (hcn : σ 78 0 = nI c) (hc1 : 1 ≤ c) (hc6 : c ≤ 6) : av_M l RX6 cX6_join 5 (some .int) 3 [.ref 77, .int (nI s), .int (nI n), .int (nI ch)] σ (some (.int (-2))) σ := by
  intro Q hQ
  show av_Ev l RX6 cX6_join 5 (some .int) av_E0 3 0 [(0, .ref 77), (1, .int (nI s)), (2, .int (nI n)), (3, .int (nI ch))] [] σ Q
  refine ev_aload_n dX6_join_0 rfl 0 rfl ?_
  refine ev_iload_n dX6_join_1 rfl 1 rfl ?_
  refine ev_iload_n dX6_join_2 rfl 2 rfl ?_
  refine ev_callVi (x := b2i (sv (nI c) (nI s) && sv (nI 10) (nI n))) dX6_join_3 M_X6_115 Y_X6_isPlace [.int (nI s), .int (nI n)] (c_X6_isPlace (nI s) (nI n) c (by first | exact hcn | omega) (by first | exact hc1 | omega) (by first | exact hc6 | omega)) (by decide) (Nat.le_of_ble_eq_true rfl) (by decide) sh_77 rfl rfl rfl (Nat.le_of_ble_eq_true rfl) ?_
  refine ev_ifb_eq (tgt := 16) dX6_join_6 (by decide) (fun h6 => ?_) (fun h6 => ?_)
  · exact absurd (hp.symm.trans h6) (by decide)
  · refine ev_iload_n dX6_join_9 rfl 3 rfl ?_
    refine ev_callSi (x := b2i (sv (nI 4) (nI ch))) dX6_join_10 (Or.inl M_X6_118) Y_X6_isChannel [.int (nI ch)] (c_X6_isChannel (nI ch) ) (by decide) (Nat.le_of_ble_eq_true rfl) rfl rfl (Nat.le_of_ble_eq_true rfl) ?_
    refine ev_ifb_ne (tgt := 18) dX6_join_13 (by decide) (fun h13 => ?_) (fun h13 => ?_)
    · refine ev_aload_n dX6_join_18 rfl 0 rfl ?_
      refine ev_iload_n dX6_join_19 rfl 1 rfl ?_
      refine ev_iload_n dX6_join_20 rfl 2 rfl ?_
      refine ev_callVi (x := b2i (mus (σ 78) s n)) dX6_join_21 M_X6_62 Y_X6_isUser [.int (nI s), .int (nI n)] (c_X6_isUser s n (by omega) (by omega)) (by decide) (Nat.le_of_ble_eq_true rfl) (by decide) sh_77 rfl rfl rfl (Nat.le_of_ble_eq_true rfl) ?_
      refine ev_ifb_eq (tgt := 37) dX6_join_24 (by decide) (fun h24 => ?_) (fun h24 => ?_)
      · refine ev_bipush dX6_join_37 (v := (-2)) (by decide) ?_
        exact ev_ireturn dX6_join_39 rfl rfl (leafI hQ rfl rfl)
      · exact absurd (hu0.symm.trans h24) (by decide)
    · exact absurd (hch1.symm.trans h13) (by decide)

set_option maxRecDepth 100000 in
set_option maxHeartbeats 1000000 in
theorem c_X6_join_st2 {l : Launch} {σ : av_S} (s : Nat) (n : Nat) (ch : Nat) (c : Nat) (hs : s < 6) (hn0 : n < 10) (hp : (sv (nI c) (nI s) && sv (nI 10) (nI n)) = true) (hch : ch < 4) (hch1 : sv (nI 4) (nI ch) = true) (hu0 : mus (σ 78) s n = true) (hm0 : (mus (σ 78) s n && mj (σ 78) 70 ch s n) = true) (hcn : σ 78 0 = nI c) (hc1 : 1 ≤ c) (hc6 : c ≤ 6) : av_M l RX6 cX6_join 5 (some .int) 3 [.ref 77, .int (nI s), .int (nI n), .int (nI ch)] σ (some (.int (-2))) σ := by
  intro Q hQ
  show av_Ev l RX6 cX6_join 5 (some .int) av_E0 3 0 [(0, .ref 77), (1, .int (nI s)), (2, .int (nI n)), (3, .int (nI ch))] [] σ Q
  refine ev_aload_n dX6_join_0 rfl 0 rfl ?_
  refine ev_iload_n dX6_join_1 rfl 1 rfl ?_
  refine ev_iload_n dX6_join_2 rfl 2 rfl ?_
  refine ev_callVi (x := b2i (sv (nI c) (nI s) && sv (nI 10) (nI n))) dX6_join_3 M_X6_115 Y_X6_isPlace [.int (nI s), .int (nI n)] (c_X6_isPlace (nI s) (nI n) c (by first | exact hcn | omega) (by first | exact hc1 | omega) (by first | exact hc6 | omega)) (by decide) (Nat.le_of_ble_eq_true rfl) (by decide) sh_77 rfl rfl rfl (Nat.le_of_ble_eq_true rfl) ?_
  refine ev_ifb_eq (tgt := 16) dX6_join_6 (by decide) (fun h6 => ?_) (fun h6 => ?_)
  · exact absurd (hp.symm.trans h6) (by decide)
  · refine ev_iload_n dX6_join_9 rfl 3 rfl ?_
    refine ev_callSi (x := b2i (sv (nI 4) (nI ch))) dX6_join_10 (Or.inl M_X6_118) Y_X6_isChannel [.int (nI ch)] (c_X6_isChannel (nI ch) ) (by decide) (Nat.le_of_ble_eq_true rfl) rfl rfl (Nat.le_of_ble_eq_true rfl) ?_
    refine ev_ifb_ne (tgt := 18) dX6_join_13 (by decide) (fun h13 => ?_) (fun h13 => ?_)
    · refine ev_aload_n dX6_join_18 rfl 0 rfl ?_
      refine ev_iload_n dX6_join_19 rfl 1 rfl ?_
      refine ev_iload_n dX6_join_20 rfl 2 rfl ?_
      refine ev_callVi (x := b2i (mus (σ 78) s n)) dX6_join_21 M_X6_62 Y_X6_isUser [.int (nI s), .int (nI n)] (c_X6_isUser s n (by omega) (by omega)) (by decide) (Nat.le_of_ble_eq_true rfl) (by decide) sh_77 rfl rfl rfl (Nat.le_of_ble_eq_true rfl) ?_
      refine ev_ifb_eq (tgt := 37) dX6_join_24 (by decide) (fun h24 => ?_) (fun h24 => ?_)
      · exact absurd (hu0.symm.trans h24) (by decide)
      · refine ev_aload_n dX6_join_27 rfl 0 rfl ?_
        refine ev_iload_n dX6_join_28 rfl 1 rfl ?_
        refine ev_iload_n dX6_join_29 rfl 2 rfl ?_
        refine ev_iload_n dX6_join_30 rfl 3 rfl ?_
        refine ev_callVi (x := b2i (mus (σ 78) s n && mj (σ 78) 70 ch s n)) dX6_join_31 M_X6_121 Y_X6_isMember [.int (nI s), .int (nI n), .int (nI ch)] (c_X6_isMember s n ch (by omega) (by omega) (by omega)) (by decide) (Nat.le_of_ble_eq_true rfl) (by decide) sh_77 rfl rfl rfl (Nat.le_of_ble_eq_true rfl) ?_
        refine ev_ifb_eq (tgt := 40) dX6_join_34 (by decide) (fun h34 => ?_) (fun h34 => ?_)
        · exact absurd (hm0.symm.trans h34) (by decide)
        · refine ev_bipush dX6_join_37 (v := (-2)) (by decide) ?_
          exact ev_ireturn dX6_join_39 rfl rfl (leafI hQ rfl rfl)
    · exact absurd (hch1.symm.trans h13) (by decide)

set_option maxRecDepth 100000 in
set_option maxHeartbeats 1000000 in
theorem c_X6_join_old {l : Launch} {σ : av_S} (s : Nat) (n : Nat) (ch : Nat) (c : Nat) (u : Nat) (hs : s < 6) (hn0 : n < 10) (hp : (sv (nI c) (nI s) && sv (nI 10) (nI n)) = true) (hch : ch < 4) (hch1 : sv (nI 4) (nI ch) = true) (hu0 : mus (σ 78) s n = true) (hm0 : (mus (σ 78) s n && mj (σ 78) 70 ch s n) = false) (hz : 0 < mcm (σ 78) c s ch) (hz10 : mcm (σ 78) c s ch ≤ 10) (hcn : σ 78 0 = nI c) (hc1 : 1 ≤ c) (hc6 : c ≤ 6) (hu : σ 77 2 = nI u) (hu8 : u ≤ 8) : av_M l RX6 cX6_join 5 (some .int) 4 [.ref 77, .int (nI s), .int (nI n), .int (nI ch)] σ (some (.int (nI (mcm (mjo (σ 78) (70 + (10 * s + n)) ch) c s ch)))) (av_set (av_set (av_set σ 77 (upd (σ 77) 2 (nI (svU u)))) 78 (mjo (σ 78) (70 + (10 * s + n)) ch)) 79 (svH (σ 79) (σ 78) u)) := by
  intro Q hQ
  show av_Ev l RX6 cX6_join 5 (some .int) av_E0 4 0 [(0, .ref 77), (1, .int (nI s)), (2, .int (nI n)), (3, .int (nI ch))] [] σ Q
  refine ev_aload_n dX6_join_0 rfl 0 rfl ?_
  refine ev_iload_n dX6_join_1 rfl 1 rfl ?_
  refine ev_iload_n dX6_join_2 rfl 2 rfl ?_
  refine ev_callVi (x := b2i (sv (nI c) (nI s) && sv (nI 10) (nI n))) dX6_join_3 M_X6_115 Y_X6_isPlace [.int (nI s), .int (nI n)] (c_X6_isPlace (nI s) (nI n) c (by first | exact hcn | omega) (by first | exact hc1 | omega) (by first | exact hc6 | omega)) (by decide) (Nat.le_of_ble_eq_true rfl) (by decide) sh_77 rfl rfl rfl (Nat.le_of_ble_eq_true rfl) ?_
  refine ev_ifb_eq (tgt := 16) dX6_join_6 (by decide) (fun h6 => ?_) (fun h6 => ?_)
  · exact absurd (hp.symm.trans h6) (by decide)
  · refine ev_iload_n dX6_join_9 rfl 3 rfl ?_
    refine ev_callSi (x := b2i (sv (nI 4) (nI ch))) dX6_join_10 (Or.inl M_X6_118) Y_X6_isChannel [.int (nI ch)] (c_X6_isChannel (nI ch) ) (by decide) (Nat.le_of_ble_eq_true rfl) rfl rfl (Nat.le_of_ble_eq_true rfl) ?_
    refine ev_ifb_ne (tgt := 18) dX6_join_13 (by decide) (fun h13 => ?_) (fun h13 => ?_)
    · refine ev_aload_n dX6_join_18 rfl 0 rfl ?_
      refine ev_iload_n dX6_join_19 rfl 1 rfl ?_
      refine ev_iload_n dX6_join_20 rfl 2 rfl ?_
      refine ev_callVi (x := b2i (mus (σ 78) s n)) dX6_join_21 M_X6_62 Y_X6_isUser [.int (nI s), .int (nI n)] (c_X6_isUser s n (by omega) (by omega)) (by decide) (Nat.le_of_ble_eq_true rfl) (by decide) sh_77 rfl rfl rfl (Nat.le_of_ble_eq_true rfl) ?_
      refine ev_ifb_eq (tgt := 37) dX6_join_24 (by decide) (fun h24 => ?_) (fun h24 => ?_)
      · exact absurd (hu0.symm.trans h24) (by decide)
      · refine ev_aload_n dX6_join_27 rfl 0 rfl ?_
        refine ev_iload_n dX6_join_28 rfl 1 rfl ?_
        refine ev_iload_n dX6_join_29 rfl 2 rfl ?_
        refine ev_iload_n dX6_join_30 rfl 3 rfl ?_
        refine ev_callVi (x := b2i (mus (σ 78) s n && mj (σ 78) 70 ch s n)) dX6_join_31 M_X6_121 Y_X6_isMember [.int (nI s), .int (nI n), .int (nI ch)] (c_X6_isMember s n ch (by omega) (by omega) (by omega)) (by decide) (Nat.le_of_ble_eq_true rfl) (by decide) sh_77 rfl rfl rfl (Nat.le_of_ble_eq_true rfl) ?_
        refine ev_ifb_eq (tgt := 40) dX6_join_34 (by decide) (fun h34 => ?_) (fun h34 => ?_)
        · refine ev_aload_n dX6_join_40 rfl 0 rfl ?_
          refine ev_callVv (σ' := av_set (av_set σ 77 (upd (σ 77) 2 (nI (svU u)))) 79 (svH (σ 79) (σ 78) u)) dX6_join_41 M_X6_69 Y_X6_save [] (c_X6_save u (by first | exact hu | omega) (by first | exact hu8 | omega)) (by decide) (Nat.le_of_ble_eq_true rfl) (by decide) sh_77 rfl rfl rfl (Nat.le_of_ble_eq_true rfl) ?_
          refine ev_iload_n dX6_join_44 rfl 1 rfl ?_
          refine ev_iload_n dX6_join_45 rfl 2 rfl ?_
          refine ev_callSi (x := nI (10 * s + n)) dX6_join_46 (Or.inl M_X6_58) Y_X6_userCell [.int (nI s), .int (nI n)] (c_X6_userCell s n ) (by decide) (Nat.le_of_ble_eq_true rfl) rfl rfl (Nat.le_of_ble_eq_true rfl) ?_
          refine ev_istore (lv' := [(4, .int (nI (10 * s + n))), (0, .ref 77), (1, .int (nI s)), (2, .int (nI n)), (3, .int (nI ch))]) dX6_join_49 (by decide) rfl ?_
          refine ev_aload_n dX6_join_51 rfl 1 rfl ?_
          refine ev_iload_n dX6_join_52 rfl 2 rfl ?_
          refine ev_iload_n dX6_join_53 rfl 4 rfl ?_
          refine ev_callVi (x := nI (mcm (σ 78) c s ch)) dX6_join_54 M_X6_124 Y_X6_memberCount [.int (nI s), .int (nI ch)] (c_X6_memberCount s ch c (by omega) (by omega) (by first | exact hcn | omega) (by first | exact hc1 | omega) (by first | exact hc6 | omega)) (by decide) (Nat.le_of_ble_eq_true rfl) (by decide) sh_77 rfl rfl rfl (Nat.le_of_ble_eq_true rfl) ?_
          refine ev_nif_ne (tgt := 94) dX6_join_57 (by decide) (by omega) (fun h57 => ?_) (fun h57 => ?_)
          · refine ev_aload_n dX6_join_94 rfl 1 rfl ?_
            refine ev_getR dX6_join_95 C_X6 L_X6_7 (by decide) (by decide) sh_77 rfl ?_
            refine ev_bipush dX6_join_98 (v := nI 70) (by decide) ?_
            refine ev_iload dX6_join_100 0 rfl ?_
            refine ev_iadd dX6_join_102 ?_
            refine ev_top (v := nI (70 + (10 * s + n))) (nI_add _ _) ?_
            refine ev_dup2_ia dX6_join_103 ?_
            refine ev_iald (e := 70 + (10 * s + n)) (v := σ 78 (70 + (10 * s + n))) dX6_join_104 (by decide) sh_78 (by omega) (by decide) (by first | rfl | (simp only [av_set, cpS]; (repeat' split) <;> first | rfl | (exfalso; omega))) ?_
            refine ev_iconst dX6_join_105 (v := nI 1) (by decide) ?_
            refine ev_iload_n dX6_join_106 rfl 4 rfl ?_
            refine ev_ishl dX6_join_107 ?_
            refine ev_top (v := bt ch) rfl ?_
            refine ev_ior dX6_join_108 ?_
            refine ev_iast (e := 70 + (10 * s + n)) dX6_join_109 (by decide) sh_78 (by omega) (by decide) ?_
            refine ev_st (σ' := av_set (av_set (av_set σ 77 (upd (σ 77) 2 (nI (svU u)))) 78 (upd (σ 78) (70 + (10 * s + n)) ((σ 78 (70 + (10 * s + n))) ||| (bt ch)))) 79 (svH (σ 79) (σ 78) u)) (by first | rfl | (funext a; by_cases q77 : a = 77; (next => subst q77; rfl); by_cases q78 : a = 78; (next => subst q78; rfl); by_cases q79 : a = 79; (next => subst q79; rfl); simp only [av_set, q77, q78, q79, if_false]) | exact av_set_set _ _ _ _ | (funext a; unfold av_set; (repeat' split) <;> first | rfl | (exfalso; omega)) | (funext a; simp only [av_set, cpS]; (repeat' split) <;> first | rfl | (exfalso; omega))) ?_
            refine ev_aload_n dX6_join_110 rfl 1 rfl ?_
            refine ev_iload_n dX6_join_111 rfl 2 rfl ?_
            refine ev_iload_n dX6_join_112 rfl 4 rfl ?_
            refine ev_callVi (x := nI (mcm (upd (σ 78) (70 + (10 * s + n)) ((σ 78 (70 + (10 * s + n))) ||| (bt ch))) c s ch)) dX6_join_113 M_X6_124 Y_X6_memberCount [.int (nI s), .int (nI ch)] (c_X6_memberCount s ch c (by omega) (by omega) ((upd_ne (by omega)).trans hcn) (by first | exact hc1 | omega) (by first | exact hc6 | omega)) (by decide) (Nat.le_of_ble_eq_true rfl) (by decide) sh_77 rfl rfl rfl (Nat.le_of_ble_eq_true rfl) ?_
            exact ev_ireturn dX6_join_116 rfl rfl (leafI hQ (by first | rfl | (simp [h6, h13, h24, h34, h57]; done)) rfl)
          · exact absurd h57 (by omega)
        · exact absurd (hm0.symm.trans h34) (by decide)
    · exact absurd (hch1.symm.trans h13) (by decide)

set_option maxRecDepth 100000 in
set_option maxHeartbeats 1000000 in
theorem c_X6_join_new {l : Launch} {σ : av_S} (s : Nat) (n : Nat) (ch : Nat) (c : Nat) (u : Nat) (hs : s < 6) (hn0 : n < 10) (hp : (sv (nI c) (nI s) && sv (nI 10) (nI n)) = true) (hch : ch < 4) (hch1 : sv (nI 4) (nI ch) = true) (hu0 : mus (σ 78) s n = true) (hm0 : (mus (σ 78) s n && mj (σ 78) 70 ch s n) = false) (hz : mcm (σ 78) c s ch = 0) (hcn : σ 78 0 = nI c) (hc1 : 1 ≤ c) (hc6 : c ≤ 6) (hu : σ 77 2 = nI u) (hu8 : u ≤ 8) : av_M l RX6 cX6_join 5 (some .int) 4 [.ref 77, .int (nI s), .int (nI n), .int (nI ch)] σ (some (.int (nI (mcm (mjo (mjo (msc (σ 78) c (mnet (σ 78) c s) ch (σ 78 1) (nI 0)) (130 + (10 * s + n)) ch) (70 + (10 * s + n)) ch) c s ch)))) (av_set (av_set (av_set σ 77 (upd (σ 77) 2 (nI (svU u)))) 78 (mjo (mjo (msc (σ 78) c (mnet (σ 78) c s) ch (σ 78 1) (nI 0)) (130 + (10 * s + n)) ch) (70 + (10 * s + n)) ch)) 79 (svH (σ 79) (σ 78) u)) := by
  intro Q hQ
  show av_Ev l RX6 cX6_join 5 (some .int) av_E0 4 0 [(0, .ref 77), (1, .int (nI s)), (2, .int (nI n)), (3, .int (nI ch))] [] σ Q
  refine ev_aload_n dX6_join_0 rfl 0 rfl ?_
  refine ev_iload_n dX6_join_1 rfl 1 rfl ?_
  refine ev_iload_n dX6_join_2 rfl 2 rfl ?_
  refine ev_callVi (x := b2i (sv (nI c) (nI s) && sv (nI 10) (nI n))) dX6_join_3 M_X6_115 Y_X6_isPlace [.int (nI s), .int (nI n)] (c_X6_isPlace (nI s) (nI n) c (by first | exact hcn | omega) (by first | exact hc1 | omega) (by first | exact hc6 | omega)) (by decide) (Nat.le_of_ble_eq_true rfl) (by decide) sh_77 rfl rfl rfl (Nat.le_of_ble_eq_true rfl) ?_
  refine ev_ifb_eq (tgt := 16) dX6_join_6 (by decide) (fun h6 => ?_) (fun h6 => ?_)
  · exact absurd (hp.symm.trans h6) (by decide)
  · refine ev_iload_n dX6_join_9 rfl 3 rfl ?_
    refine ev_callSi (x := b2i (sv (nI 4) (nI ch))) dX6_join_10 (Or.inl M_X6_118) Y_X6_isChannel [.int (nI ch)] (c_X6_isChannel (nI ch) ) (by decide) (Nat.le_of_ble_eq_true rfl) rfl rfl (Nat.le_of_ble_eq_true rfl) ?_
    refine ev_ifb_ne (tgt := 18) dX6_join_13 (by decide) (fun h13 => ?_) (fun h13 => ?_)
    · refine ev_aload_n dX6_join_18 rfl 0 rfl ?_
      refine ev_iload_n dX6_join_19 rfl 1 rfl ?_
      refine ev_iload_n dX6_join_20 rfl 2 rfl ?_
      refine ev_callVi (x := b2i (mus (σ 78) s n)) dX6_join_21 M_X6_62 Y_X6_isUser [.int (nI s), .int (nI n)] (c_X6_isUser s n (by omega) (by omega)) (by decide) (Nat.le_of_ble_eq_true rfl) (by decide) sh_77 rfl rfl rfl (Nat.le_of_ble_eq_true rfl) ?_
      refine ev_ifb_eq (tgt := 37) dX6_join_24 (by decide) (fun h24 => ?_) (fun h24 => ?_)
      · exact absurd (hu0.symm.trans h24) (by decide)
      · refine ev_aload_n dX6_join_27 rfl 0 rfl ?_
        refine ev_iload_n dX6_join_28 rfl 1 rfl ?_
        refine ev_iload_n dX6_join_29 rfl 2 rfl ?_
        refine ev_iload_n dX6_join_30 rfl 3 rfl ?_
        refine ev_callVi (x := b2i (mus (σ 78) s n && mj (σ 78) 70 ch s n)) dX6_join_31 M_X6_121 Y_X6_isMember [.int (nI s), .int (nI n), .int (nI ch)] (c_X6_isMember s n ch (by omega) (by omega) (by omega)) (by decide) (Nat.le_of_ble_eq_true rfl) (by decide) sh_77 rfl rfl rfl (Nat.le_of_ble_eq_true rfl) ?_
        refine ev_ifb_eq (tgt := 40) dX6_join_34 (by decide) (fun h34 => ?_) (fun h34 => ?_)
        · refine ev_aload_n dX6_join_40 rfl 0 rfl ?_
          refine ev_callVv (σ' := av_set (av_set σ 77 (upd (σ 77) 2 (nI (svU u)))) 79 (svH (σ 79) (σ 78) u)) dX6_join_41 M_X6_69 Y_X6_save [] (c_X6_save u (by first | exact hu | omega) (by first | exact hu8 | omega)) (by decide) (Nat.le_of_ble_eq_true rfl) (by decide) sh_77 rfl rfl rfl (Nat.le_of_ble_eq_true rfl) ?_
          refine ev_iload_n dX6_join_44 rfl 1 rfl ?_
          refine ev_iload_n dX6_join_45 rfl 2 rfl ?_
          refine ev_callSi (x := nI (10 * s + n)) dX6_join_46 (Or.inl M_X6_58) Y_X6_userCell [.int (nI s), .int (nI n)] (c_X6_userCell s n ) (by decide) (Nat.le_of_ble_eq_true rfl) rfl rfl (Nat.le_of_ble_eq_true rfl) ?_
          refine ev_istore (lv' := [(4, .int (nI (10 * s + n))), (0, .ref 77), (1, .int (nI s)), (2, .int (nI n)), (3, .int (nI ch))]) dX6_join_49 (by decide) rfl ?_
          refine ev_aload_n dX6_join_51 rfl 1 rfl ?_
          refine ev_iload_n dX6_join_52 rfl 2 rfl ?_
          refine ev_iload_n dX6_join_53 rfl 4 rfl ?_
          refine ev_callVi (x := nI (mcm (σ 78) c s ch)) dX6_join_54 M_X6_124 Y_X6_memberCount [.int (nI s), .int (nI ch)] (c_X6_memberCount s ch c (by omega) (by omega) (by first | exact hcn | omega) (by first | exact hc1 | omega) (by first | exact hc6 | omega)) (by decide) (Nat.le_of_ble_eq_true rfl) (by decide) sh_77 rfl rfl rfl (Nat.le_of_ble_eq_true rfl) ?_
          refine ev_nif_ne (tgt := 94) dX6_join_57 (by decide) (by omega) (fun h57 => ?_) (fun h57 => ?_)
          · exact absurd h57 (by omega)
          · refine ev_aload_n dX6_join_60 rfl 1 rfl ?_
            refine ev_aload_n dX6_join_61 rfl 1 rfl ?_
            refine ev_iload_n dX6_join_62 rfl 2 rfl ?_
            refine ev_callVi (x := mnet (σ 78) c s) dX6_join_63 M_X6_54 Y_X6_network [.int (nI s)] (c_X6_network s c (by omega) (by first | exact hcn | omega) (by first | exact hc1 | omega) (by first | exact hc6 | omega)) (by decide) (Nat.le_of_ble_eq_true rfl) (by decide) sh_77 rfl rfl rfl (Nat.le_of_ble_eq_true rfl) ?_
            refine ev_iload_n dX6_join_66 rfl 4 rfl ?_
            refine ev_aload_n dX6_join_67 rfl 1 rfl ?_
            refine ev_getR dX6_join_68 C_X6 L_X6_7 (by decide) (by decide) sh_77 rfl ?_
            refine ev_iconst dX6_join_71 (v := nI 1) (by decide) ?_
            refine ev_iald (e := 1) (v := σ 78 1) dX6_join_72 (by decide) sh_78 (by omega) (by decide) (by first | rfl | (simp only [av_set, cpS]; (repeat' split) <;> first | rfl | (exfalso; omega))) ?_
            refine ev_iconst dX6_join_73 (v := nI 0) (by decide) ?_
            refine ev_callVv dX6_join_74 M_X6_85 Y_X6_setChannel [.int (mnet (σ 78) c s), .int (nI ch), .int (σ 78 1), .int (nI 0)] (c_X6_setChannel (mnet (σ 78) c s) ch (σ 78 1) (nI 0) c (by omega) (by first | exact hcn | omega) (by first | exact hc1 | omega) (by first | exact hc6 | omega)) (by decide) (Nat.le_of_ble_eq_true rfl) (by decide) sh_77 rfl rfl rfl (Nat.le_of_ble_eq_true rfl) ?_
            refine ev_st (σ' := av_set (av_set (av_set σ 77 (upd (σ 77) 2 (nI (svU u)))) 78 (msc (σ 78) c (mnet (σ 78) c s) ch (σ 78 1) (nI 0))) 79 (svH (σ 79) (σ 78) u)) (by first | rfl | (funext a; by_cases q77 : a = 77; (next => subst q77; rfl); by_cases q78 : a = 78; (next => subst q78; rfl); by_cases q79 : a = 79; (next => subst q79; rfl); simp only [av_set, q77, q78, q79, if_false]) | exact av_set_set _ _ _ _ | (funext a; unfold av_set; (repeat' split) <;> first | rfl | (exfalso; omega)) | (funext a; simp only [av_set, cpS]; (repeat' split) <;> first | rfl | (exfalso; omega))) ?_
            refine ev_aload_n dX6_join_77 rfl 1 rfl ?_
            refine ev_getR dX6_join_78 C_X6 L_X6_7 (by decide) (by decide) sh_77 rfl ?_
            refine ev_sipush dX6_join_81 (v := nI 130) (by decide) ?_
            refine ev_iload dX6_join_84 0 rfl ?_
            refine ev_iadd dX6_join_86 ?_
            refine ev_top (v := nI (130 + (10 * s + n))) (nI_add _ _) ?_
            refine ev_dup2_ia dX6_join_87 ?_
            refine ev_iald (e := 130 + (10 * s + n)) (v := (msc (σ 78) c (mnet (σ 78) c s) ch (σ 78 1) (nI 0)) (130 + (10 * s + n))) dX6_join_88 (by decide) sh_78 (by omega) (by decide) (by first | rfl | (simp only [av_set, cpS]; (repeat' split) <;> first | rfl | (exfalso; omega))) ?_
            refine ev_iconst dX6_join_89 (v := nI 1) (by decide) ?_
            refine ev_iload_n dX6_join_90 rfl 4 rfl ?_
            refine ev_ishl dX6_join_91 ?_
            refine ev_top (v := bt ch) rfl ?_
            refine ev_ior dX6_join_92 ?_
            refine ev_iast (e := 130 + (10 * s + n)) dX6_join_93 (by decide) sh_78 (by omega) (by decide) ?_
            refine ev_st (σ' := av_set (av_set (av_set σ 77 (upd (σ 77) 2 (nI (svU u)))) 78 (upd (msc (σ 78) c (mnet (σ 78) c s) ch (σ 78 1) (nI 0)) (130 + (10 * s + n)) (((msc (σ 78) c (mnet (σ 78) c s) ch (σ 78 1) (nI 0)) (130 + (10 * s + n))) ||| (bt ch)))) 79 (svH (σ 79) (σ 78) u)) (by first | rfl | (funext a; by_cases q77 : a = 77; (next => subst q77; rfl); by_cases q78 : a = 78; (next => subst q78; rfl); by_cases q79 : a = 79; (next => subst q79; rfl); simp only [av_set, q77, q78, q79, if_false]) | exact av_set_set _ _ _ _ | (funext a; unfold av_set; (repeat' split) <;> first | rfl | (exfalso; omega)) | (funext a; simp only [av_set, cpS]; (repeat' split) <;> first | rfl | (exfalso; omega))) ?_
            refine ev_aload_n dX6_join_94 rfl 1 rfl ?_
            refine ev_getR dX6_join_95 C_X6 L_X6_7 (by decide) (by decide) sh_77 rfl ?_
            refine ev_bipush dX6_join_98 (v := nI 70) (by decide) ?_
            refine ev_iload dX6_join_100 0 rfl ?_
            refine ev_iadd dX6_join_102 ?_
            refine ev_top (v := nI (70 + (10 * s + n))) (nI_add _ _) ?_
            refine ev_dup2_ia dX6_join_103 ?_
            refine ev_iald (e := 70 + (10 * s + n)) (v := (upd (msc (σ 78) c (mnet (σ 78) c s) ch (σ 78 1) (nI 0)) (130 + (10 * s + n)) (((msc (σ 78) c (mnet (σ 78) c s) ch (σ 78 1) (nI 0)) (130 + (10 * s + n))) ||| (bt ch))) (70 + (10 * s + n))) dX6_join_104 (by decide) sh_78 (by omega) (by decide) (by first | rfl | (simp only [av_set, cpS]; (repeat' split) <;> first | rfl | (exfalso; omega))) ?_
            refine ev_iconst dX6_join_105 (v := nI 1) (by decide) ?_
            refine ev_iload_n dX6_join_106 rfl 4 rfl ?_
            refine ev_ishl dX6_join_107 ?_
            refine ev_top (v := bt ch) rfl ?_
            refine ev_ior dX6_join_108 ?_
            refine ev_iast (e := 70 + (10 * s + n)) dX6_join_109 (by decide) sh_78 (by omega) (by decide) ?_
            refine ev_st (σ' := av_set (av_set (av_set σ 77 (upd (σ 77) 2 (nI (svU u)))) 78 (upd (upd (msc (σ 78) c (mnet (σ 78) c s) ch (σ 78 1) (nI 0)) (130 + (10 * s + n)) (((msc (σ 78) c (mnet (σ 78) c s) ch (σ 78 1) (nI 0)) (130 + (10 * s + n))) ||| (bt ch))) (70 + (10 * s + n)) (((upd (msc (σ 78) c (mnet (σ 78) c s) ch (σ 78 1) (nI 0)) (130 + (10 * s + n)) (((msc (σ 78) c (mnet (σ 78) c s) ch (σ 78 1) (nI 0)) (130 + (10 * s + n))) ||| (bt ch))) (70 + (10 * s + n))) ||| (bt ch)))) 79 (svH (σ 79) (σ 78) u)) (by first | rfl | (funext a; by_cases q77 : a = 77; (next => subst q77; rfl); by_cases q78 : a = 78; (next => subst q78; rfl); by_cases q79 : a = 79; (next => subst q79; rfl); simp only [av_set, q77, q78, q79, if_false]) | exact av_set_set _ _ _ _ | (funext a; unfold av_set; (repeat' split) <;> first | rfl | (exfalso; omega)) | (funext a; simp only [av_set, cpS]; (repeat' split) <;> first | rfl | (exfalso; omega))) ?_
            refine ev_aload_n dX6_join_110 rfl 1 rfl ?_
            refine ev_iload_n dX6_join_111 rfl 2 rfl ?_
            refine ev_iload_n dX6_join_112 rfl 4 rfl ?_
            refine ev_callVi (x := nI (mcm (upd (upd (msc (σ 78) c (mnet (σ 78) c s) ch (σ 78 1) (nI 0)) (130 + (10 * s + n)) (((msc (σ 78) c (mnet (σ 78) c s) ch (σ 78 1) (nI 0)) (130 + (10 * s + n))) ||| (bt ch))) (70 + (10 * s + n)) (((upd (msc (σ 78) c (mnet (σ 78) c s) ch (σ 78 1) (nI 0)) (130 + (10 * s + n)) (((msc (σ 78) c (mnet (σ 78) c s) ch (σ 78 1) (nI 0)) (130 + (10 * s + n))) ||| (bt ch))) (70 + (10 * s + n))) ||| (bt ch))) c s ch)) dX6_join_113 M_X6_124 Y_X6_memberCount [.int (nI s), .int (nI ch)] (c_X6_memberCount s ch c (by omega) (by omega) ((upd_ne (by omega)).trans ((upd_ne (by omega)).trans ((msc_lo (by decide)).trans hcn))) (by first | exact hc1 | omega) (by first | exact hc6 | omega)) (by decide) (Nat.le_of_ble_eq_true rfl) (by decide) sh_77 rfl rfl rfl (Nat.le_of_ble_eq_true rfl) ?_
            exact ev_ireturn dX6_join_116 rfl rfl (leafI hQ (by first | rfl | (simp [h6, h13, h24, h34, h57]; done)) rfl)
        · exact absurd (hm0.symm.trans h34) (by decide)
    · exact absurd (hch1.symm.trans h13) (by decide)

set_option maxRecDepth 100000 in
set_option maxHeartbeats 1000000 in
theorem c_X6_part_bad {l : Launch} {σ : av_S} (x : Int32) (y : Int32) (z : Int32) (c : Nat) (hx : (sv (nI c) x && sv (nI 10) y && sv (nI 4) z) = false) (hcn : σ 78 0 = nI c) (hc1 : 1 ≤ c) (hc6 : c ≤ 6) : av_M l RX6 cX6_part 4 (some .int) 3 [.ref 77, .int x, .int y, .int z] σ (some (.int (-1))) σ := by
  intro Q hQ
  show av_Ev l RX6 cX6_part 4 (some .int) av_E0 3 0 [(0, .ref 77), (1, .int x), (2, .int y), (3, .int z)] [] σ Q
  refine ev_aload_n dX6_part_0 rfl 0 rfl ?_
  refine ev_iload_n dX6_part_1 rfl 1 rfl ?_
  refine ev_iload_n dX6_part_2 rfl 2 rfl ?_
  refine ev_callVi (x := b2i (sv (nI c) x && sv (nI 10) y)) dX6_part_3 M_X6_115 Y_X6_isPlace [.int x, .int y] (c_X6_isPlace x y c (by first | exact hcn | omega) (by first | exact hc1 | omega) (by first | exact hc6 | omega)) (by decide) (Nat.le_of_ble_eq_true rfl) (by decide) sh_77 rfl rfl rfl (Nat.le_of_ble_eq_true rfl) ?_
  refine ev_ifb_eq (tgt := 16) dX6_part_6 (by decide) (fun h6 => ?_) (fun h6 => ?_)
  · refine ev_iconst dX6_part_16 (v := (-1)) (by decide) ?_
    exact ev_ireturn dX6_part_17 rfl rfl (leafI hQ rfl rfl)
  · refine ev_iload_n dX6_part_9 rfl 3 rfl ?_
    refine ev_callSi (x := b2i (sv (nI 4) z)) dX6_part_10 (Or.inl M_X6_118) Y_X6_isChannel [.int z] (c_X6_isChannel z ) (by decide) (Nat.le_of_ble_eq_true rfl) rfl rfl (Nat.le_of_ble_eq_true rfl) ?_
    refine ev_ifb_ne (tgt := 18) dX6_part_13 (by decide) (fun h13 => ?_) (fun h13 => ?_)
    · exact absurd hx (by simp [h6, h13])
    · refine ev_iconst dX6_part_16 (v := (-1)) (by decide) ?_
      exact ev_ireturn dX6_part_17 rfl rfl (leafI hQ rfl rfl)

set_option maxRecDepth 100000 in
set_option maxHeartbeats 1000000 in
theorem c_X6_part_st {l : Launch} {σ : av_S} (s : Nat) (n : Nat) (ch : Nat) (c : Nat) (hs : s < 6) (hn0 : n < 10) (hp : (sv (nI c) (nI s) && sv (nI 10) (nI n)) = true) (hch : ch < 4) (hch1 : sv (nI 4) (nI ch) = true) (hm0 : (mus (σ 78) s n && mj (σ 78) 70 ch s n) = false) (hcn : σ 78 0 = nI c) (hc1 : 1 ≤ c) (hc6 : c ≤ 6) : av_M l RX6 cX6_part 4 (some .int) 3 [.ref 77, .int (nI s), .int (nI n), .int (nI ch)] σ (some (.int (-2))) σ := by
  intro Q hQ
  show av_Ev l RX6 cX6_part 4 (some .int) av_E0 3 0 [(0, .ref 77), (1, .int (nI s)), (2, .int (nI n)), (3, .int (nI ch))] [] σ Q
  refine ev_aload_n dX6_part_0 rfl 0 rfl ?_
  refine ev_iload_n dX6_part_1 rfl 1 rfl ?_
  refine ev_iload_n dX6_part_2 rfl 2 rfl ?_
  refine ev_callVi (x := b2i (sv (nI c) (nI s) && sv (nI 10) (nI n))) dX6_part_3 M_X6_115 Y_X6_isPlace [.int (nI s), .int (nI n)] (c_X6_isPlace (nI s) (nI n) c (by first | exact hcn | omega) (by first | exact hc1 | omega) (by first | exact hc6 | omega)) (by decide) (Nat.le_of_ble_eq_true rfl) (by decide) sh_77 rfl rfl rfl (Nat.le_of_ble_eq_true rfl) ?_
  refine ev_ifb_eq (tgt := 16) dX6_part_6 (by decide) (fun h6 => ?_) (fun h6 => ?_)
  · exact absurd (hp.symm.trans h6) (by decide)
  · refine ev_iload_n dX6_part_9 rfl 3 rfl ?_
    refine ev_callSi (x := b2i (sv (nI 4) (nI ch))) dX6_part_10 (Or.inl M_X6_118) Y_X6_isChannel [.int (nI ch)] (c_X6_isChannel (nI ch) ) (by decide) (Nat.le_of_ble_eq_true rfl) rfl rfl (Nat.le_of_ble_eq_true rfl) ?_
    refine ev_ifb_ne (tgt := 18) dX6_part_13 (by decide) (fun h13 => ?_) (fun h13 => ?_)
    · refine ev_aload_n dX6_part_18 rfl 0 rfl ?_
      refine ev_iload_n dX6_part_19 rfl 1 rfl ?_
      refine ev_iload_n dX6_part_20 rfl 2 rfl ?_
      refine ev_iload_n dX6_part_21 rfl 3 rfl ?_
      refine ev_callVi (x := b2i (mus (σ 78) s n && mj (σ 78) 70 ch s n)) dX6_part_22 M_X6_121 Y_X6_isMember [.int (nI s), .int (nI n), .int (nI ch)] (c_X6_isMember s n ch (by omega) (by omega) (by omega)) (by decide) (Nat.le_of_ble_eq_true rfl) (by decide) sh_77 rfl rfl rfl (Nat.le_of_ble_eq_true rfl) ?_
      refine ev_ifb_ne (tgt := 31) dX6_part_25 (by decide) (fun h25 => ?_) (fun h25 => ?_)
      · exact absurd (hm0.symm.trans h25) (by decide)
      · refine ev_bipush dX6_part_28 (v := (-2)) (by decide) ?_
        exact ev_ireturn dX6_part_30 rfl rfl (leafI hQ rfl rfl)
    · exact absurd (hch1.symm.trans h13) (by decide)

set_option maxRecDepth 100000 in
set_option maxHeartbeats 1000000 in
theorem c_X6_part_ok {l : Launch} {σ : av_S} (s : Nat) (n : Nat) (ch : Nat) (c : Nat) (u : Nat) (hs : s < 6) (hn0 : n < 10) (hp : (sv (nI c) (nI s) && sv (nI 10) (nI n)) = true) (hch : ch < 4) (hch1 : sv (nI 4) (nI ch) = true) (hm0 : (mus (σ 78) s n && mj (σ 78) 70 ch s n) = true) (hcn : σ 78 0 = nI c) (hc1 : 1 ≤ c) (hc6 : c ≤ 6) (hu : σ 77 2 = nI u) (hu8 : u ≤ 8) : av_M l RX6 cX6_part 4 (some .int) 4 [.ref 77, .int (nI s), .int (nI n), .int (nI ch)] σ (some (.int (nI (mcm (mle (σ 78) s n ch) c s ch)))) (av_set (av_set (av_set σ 77 (upd (σ 77) 2 (nI (svU u)))) 78 (mle (σ 78) s n ch)) 79 (svH (σ 79) (σ 78) u)) := by
  intro Q hQ
  show av_Ev l RX6 cX6_part 4 (some .int) av_E0 4 0 [(0, .ref 77), (1, .int (nI s)), (2, .int (nI n)), (3, .int (nI ch))] [] σ Q
  refine ev_aload_n dX6_part_0 rfl 0 rfl ?_
  refine ev_iload_n dX6_part_1 rfl 1 rfl ?_
  refine ev_iload_n dX6_part_2 rfl 2 rfl ?_
  refine ev_callVi (x := b2i (sv (nI c) (nI s) && sv (nI 10) (nI n))) dX6_part_3 M_X6_115 Y_X6_isPlace [.int (nI s), .int (nI n)] (c_X6_isPlace (nI s) (nI n) c (by first | exact hcn | omega) (by first | exact hc1 | omega) (by first | exact hc6 | omega)) (by decide) (Nat.le_of_ble_eq_true rfl) (by decide) sh_77 rfl rfl rfl (Nat.le_of_ble_eq_true rfl) ?_
  refine ev_ifb_eq (tgt := 16) dX6_part_6 (by decide) (fun h6 => ?_) (fun h6 => ?_)
  · exact absurd (hp.symm.trans h6) (by decide)
  · refine ev_iload_n dX6_part_9 rfl 3 rfl ?_
    refine ev_callSi (x := b2i (sv (nI 4) (nI ch))) dX6_part_10 (Or.inl M_X6_118) Y_X6_isChannel [.int (nI ch)] (c_X6_isChannel (nI ch) ) (by decide) (Nat.le_of_ble_eq_true rfl) rfl rfl (Nat.le_of_ble_eq_true rfl) ?_
    refine ev_ifb_ne (tgt := 18) dX6_part_13 (by decide) (fun h13 => ?_) (fun h13 => ?_)
    · refine ev_aload_n dX6_part_18 rfl 0 rfl ?_
      refine ev_iload_n dX6_part_19 rfl 1 rfl ?_
      refine ev_iload_n dX6_part_20 rfl 2 rfl ?_
      refine ev_iload_n dX6_part_21 rfl 3 rfl ?_
      refine ev_callVi (x := b2i (mus (σ 78) s n && mj (σ 78) 70 ch s n)) dX6_part_22 M_X6_121 Y_X6_isMember [.int (nI s), .int (nI n), .int (nI ch)] (c_X6_isMember s n ch (by omega) (by omega) (by omega)) (by decide) (Nat.le_of_ble_eq_true rfl) (by decide) sh_77 rfl rfl rfl (Nat.le_of_ble_eq_true rfl) ?_
      refine ev_ifb_ne (tgt := 31) dX6_part_25 (by decide) (fun h25 => ?_) (fun h25 => ?_)
      · refine ev_aload_n dX6_part_31 rfl 0 rfl ?_
        refine ev_callVv (σ' := av_set (av_set σ 77 (upd (σ 77) 2 (nI (svU u)))) 79 (svH (σ 79) (σ 78) u)) dX6_part_32 M_X6_69 Y_X6_save [] (c_X6_save u (by first | exact hu | omega) (by first | exact hu8 | omega)) (by decide) (Nat.le_of_ble_eq_true rfl) (by decide) sh_77 rfl rfl rfl (Nat.le_of_ble_eq_true rfl) ?_
        refine ev_aload_n dX6_part_35 rfl 0 rfl ?_
        refine ev_iload_n dX6_part_36 rfl 1 rfl ?_
        refine ev_iload_n dX6_part_37 rfl 2 rfl ?_
        refine ev_iload_n dX6_part_38 rfl 3 rfl ?_
        refine ev_callVv dX6_part_39 M_X6_127 Y_X6_leave [.int (nI s), .int (nI n), .int (nI ch)] (c_X6_leave s n ch (by omega) (by omega) (by omega)) (by decide) (Nat.le_of_ble_eq_true rfl) (by decide) sh_77 rfl rfl rfl (Nat.le_of_ble_eq_true rfl) ?_
        refine ev_st (σ' := av_set (av_set (av_set σ 77 (upd (σ 77) 2 (nI (svU u)))) 78 (mle (σ 78) s n ch)) 79 (svH (σ 79) (σ 78) u)) (by first | rfl | (funext a; by_cases q77 : a = 77; (next => subst q77; rfl); by_cases q78 : a = 78; (next => subst q78; rfl); by_cases q79 : a = 79; (next => subst q79; rfl); simp only [av_set, q77, q78, q79, if_false]) | exact av_set_set _ _ _ _ | (funext a; unfold av_set; (repeat' split) <;> first | rfl | (exfalso; omega)) | (funext a; simp only [av_set, cpS]; (repeat' split) <;> first | rfl | (exfalso; omega))) ?_
        refine ev_aload_n dX6_part_42 rfl 0 rfl ?_
        refine ev_iload_n dX6_part_43 rfl 1 rfl ?_
        refine ev_iload_n dX6_part_44 rfl 3 rfl ?_
        refine ev_callVi (x := nI (mcm (mle (σ 78) s n ch) c s ch)) dX6_part_45 M_X6_124 Y_X6_memberCount [.int (nI s), .int (nI ch)] (c_X6_memberCount s ch c (by omega) (by omega) ((mle_lo (by decide)).trans hcn) (by first | exact hc1 | omega) (by first | exact hc6 | omega)) (by decide) (Nat.le_of_ble_eq_true rfl) (by decide) sh_77 rfl rfl rfl (Nat.le_of_ble_eq_true rfl) ?_
        exact ev_ireturn dX6_part_48 rfl rfl (leafI hQ rfl rfl)
      · exact absurd (hm0.symm.trans h25) (by decide)
    · exact absurd (hch1.symm.trans h13) (by decide)

set_option maxRecDepth 100000 in
set_option maxHeartbeats 1000000 in
theorem c_X6_kick_bad {l : Launch} {σ : av_S} (x : Int32) (y : Int32) (z : Int32) (w : Int32) (c : Nat) (hx : (sv (nI c) x && sv (nI 10) y && sv (nI 4) z && sv (nI 10) w) = false) (hcn : σ 78 0 = nI c) (hc1 : 1 ≤ c) (hc6 : c ≤ 6) : av_M l RX6 cX6_kick 5 (some .int) 3 [.ref 77, .int x, .int y, .int z, .int w] σ (some (.int (-1))) σ := by
  intro Q hQ
  show av_Ev l RX6 cX6_kick 5 (some .int) av_E0 3 0 [(0, .ref 77), (1, .int x), (2, .int y), (3, .int z), (4, .int w)] [] σ Q
  refine ev_aload_n dX6_kick_0 rfl 0 rfl ?_
  refine ev_iload_n dX6_kick_1 rfl 1 rfl ?_
  refine ev_iload_n dX6_kick_2 rfl 2 rfl ?_
  refine ev_callVi (x := b2i (sv (nI c) x && sv (nI 10) y)) dX6_kick_3 M_X6_115 Y_X6_isPlace [.int x, .int y] (c_X6_isPlace x y c (by first | exact hcn | omega) (by first | exact hc1 | omega) (by first | exact hc6 | omega)) (by decide) (Nat.le_of_ble_eq_true rfl) (by decide) sh_77 rfl rfl rfl (Nat.le_of_ble_eq_true rfl) ?_
  refine ev_ifb_eq (tgt := 24) dX6_kick_6 (by decide) (fun h6 => ?_) (fun h6 => ?_)
  · refine ev_iconst dX6_kick_24 (v := (-1)) (by decide) ?_
    exact ev_ireturn dX6_kick_25 rfl rfl (leafI hQ rfl rfl)
  · refine ev_iload_n dX6_kick_9 rfl 3 rfl ?_
    refine ev_callSi (x := b2i (sv (nI 4) z)) dX6_kick_10 (Or.inl M_X6_118) Y_X6_isChannel [.int z] (c_X6_isChannel z ) (by decide) (Nat.le_of_ble_eq_true rfl) rfl rfl (Nat.le_of_ble_eq_true rfl) ?_
    refine ev_ifb_eq (tgt := 24) dX6_kick_13 (by decide) (fun h13 => ?_) (fun h13 => ?_)
    · refine ev_iconst dX6_kick_24 (v := (-1)) (by decide) ?_
      exact ev_ireturn dX6_kick_25 rfl rfl (leafI hQ rfl rfl)
    · refine ev_iload dX6_kick_16 4 rfl ?_
      refine ev_callSi (x := b2i (sv (nI 10) w)) dX6_kick_18 (Or.inl M_X6_112) Y_X6_isNick [.int w] (c_X6_isNick w ) (by decide) (Nat.le_of_ble_eq_true rfl) rfl rfl (Nat.le_of_ble_eq_true rfl) ?_
      refine ev_ifb_ne (tgt := 26) dX6_kick_21 (by decide) (fun h21 => ?_) (fun h21 => ?_)
      · exact absurd hx (by simp [h6, h13, h21])
      · refine ev_iconst dX6_kick_24 (v := (-1)) (by decide) ?_
        exact ev_ireturn dX6_kick_25 rfl rfl (leafI hQ rfl rfl)

set_option maxRecDepth 100000 in
set_option maxHeartbeats 1000000 in
theorem c_X6_kick_st1 {l : Launch} {σ : av_S} (s : Nat) (n : Nat) (ch : Nat) (g : Nat) (c : Nat) (hs : s < 6) (hn0 : n < 10) (hp : (sv (nI c) (nI s) && sv (nI 10) (nI n)) = true) (hch : ch < 4) (hch1 : sv (nI 4) (nI ch) = true) (hg0 : g < 10) (hg1 : sv (nI 10) (nI g) = true) (ho0 : (mus (σ 78) s n && mj (σ 78) 130 ch s n) = false) (hcn : σ 78 0 = nI c) (hc1 : 1 ≤ c) (hc6 : c ≤ 6) : av_M l RX6 cX6_kick 5 (some .int) 3 [.ref 77, .int (nI s), .int (nI n), .int (nI ch), .int (nI g)] σ (some (.int (-2))) σ := by
  intro Q hQ
  show av_Ev l RX6 cX6_kick 5 (some .int) av_E0 3 0 [(0, .ref 77), (1, .int (nI s)), (2, .int (nI n)), (3, .int (nI ch)), (4, .int (nI g))] [] σ Q
  refine ev_aload_n dX6_kick_0 rfl 0 rfl ?_
  refine ev_iload_n dX6_kick_1 rfl 1 rfl ?_
  refine ev_iload_n dX6_kick_2 rfl 2 rfl ?_
  refine ev_callVi (x := b2i (sv (nI c) (nI s) && sv (nI 10) (nI n))) dX6_kick_3 M_X6_115 Y_X6_isPlace [.int (nI s), .int (nI n)] (c_X6_isPlace (nI s) (nI n) c (by first | exact hcn | omega) (by first | exact hc1 | omega) (by first | exact hc6 | omega)) (by decide) (Nat.le_of_ble_eq_true rfl) (by decide) sh_77 rfl rfl rfl (Nat.le_of_ble_eq_true rfl) ?_
  refine ev_ifb_eq (tgt := 24) dX6_kick_6 (by decide) (fun h6 => ?_) (fun h6 => ?_)
  · exact absurd (hp.symm.trans h6) (by decide)
  · refine ev_iload_n dX6_kick_9 rfl 3 rfl ?_
    refine ev_callSi (x := b2i (sv (nI 4) (nI ch))) dX6_kick_10 (Or.inl M_X6_118) Y_X6_isChannel [.int (nI ch)] (c_X6_isChannel (nI ch) ) (by decide) (Nat.le_of_ble_eq_true rfl) rfl rfl (Nat.le_of_ble_eq_true rfl) ?_
    refine ev_ifb_eq (tgt := 24) dX6_kick_13 (by decide) (fun h13 => ?_) (fun h13 => ?_)
    · exact absurd (hch1.symm.trans h13) (by decide)
    · refine ev_iload dX6_kick_16 4 rfl ?_
      refine ev_callSi (x := b2i (sv (nI 10) (nI g))) dX6_kick_18 (Or.inl M_X6_112) Y_X6_isNick [.int (nI g)] (c_X6_isNick (nI g) ) (by decide) (Nat.le_of_ble_eq_true rfl) rfl rfl (Nat.le_of_ble_eq_true rfl) ?_
      refine ev_ifb_ne (tgt := 26) dX6_kick_21 (by decide) (fun h21 => ?_) (fun h21 => ?_)
      · refine ev_aload_n dX6_kick_26 rfl 0 rfl ?_
        refine ev_iload_n dX6_kick_27 rfl 1 rfl ?_
        refine ev_iload_n dX6_kick_28 rfl 2 rfl ?_
        refine ev_iload_n dX6_kick_29 rfl 3 rfl ?_
        refine ev_callVi (x := b2i (mus (σ 78) s n && mj (σ 78) 130 ch s n)) dX6_kick_30 M_X6_130 Y_X6_isOperator [.int (nI s), .int (nI n), .int (nI ch)] (c_X6_isOperator s n ch (by omega) (by omega) (by omega)) (by decide) (Nat.le_of_ble_eq_true rfl) (by decide) sh_77 rfl rfl rfl (Nat.le_of_ble_eq_true rfl) ?_
        refine ev_ifb_eq (tgt := 54) dX6_kick_33 (by decide) (fun h33 => ?_) (fun h33 => ?_)
        · refine ev_bipush dX6_kick_54 (v := (-2)) (by decide) ?_
          exact ev_ireturn dX6_kick_56 rfl rfl (leafI hQ rfl rfl)
        · exact absurd (ho0.symm.trans h33) (by decide)
      · exact absurd (hg1.symm.trans h21) (by decide)

set_option maxRecDepth 100000 in
set_option maxHeartbeats 1000000 in
theorem c_X6_kick_st2 {l : Launch} {σ : av_S} (s : Nat) (n : Nat) (ch : Nat) (g : Nat) (c : Nat) (hs : s < 6) (hn0 : n < 10) (hp : (sv (nI c) (nI s) && sv (nI 10) (nI n)) = true) (hch : ch < 4) (hch1 : sv (nI 4) (nI ch) = true) (hg0 : g < 10) (hg1 : sv (nI 10) (nI g) = true) (ho0 : (mus (σ 78) s n && mj (σ 78) 130 ch s n) = true) (hm0 : tb (mni (mj (σ 78) 70 ch) c (mnet (σ 78) c s)) g = false) (hcn : σ 78 0 = nI c) (hc1 : 1 ≤ c) (hc6 : c ≤ 6) : av_M l RX6 cX6_kick 5 (some .int) 3 [.ref 77, .int (nI s), .int (nI n), .int (nI ch), .int (nI g)] σ (some (.int (-2))) σ := by
  intro Q hQ
  show av_Ev l RX6 cX6_kick 5 (some .int) av_E0 3 0 [(0, .ref 77), (1, .int (nI s)), (2, .int (nI n)), (3, .int (nI ch)), (4, .int (nI g))] [] σ Q
  refine ev_aload_n dX6_kick_0 rfl 0 rfl ?_
  refine ev_iload_n dX6_kick_1 rfl 1 rfl ?_
  refine ev_iload_n dX6_kick_2 rfl 2 rfl ?_
  refine ev_callVi (x := b2i (sv (nI c) (nI s) && sv (nI 10) (nI n))) dX6_kick_3 M_X6_115 Y_X6_isPlace [.int (nI s), .int (nI n)] (c_X6_isPlace (nI s) (nI n) c (by first | exact hcn | omega) (by first | exact hc1 | omega) (by first | exact hc6 | omega)) (by decide) (Nat.le_of_ble_eq_true rfl) (by decide) sh_77 rfl rfl rfl (Nat.le_of_ble_eq_true rfl) ?_
  refine ev_ifb_eq (tgt := 24) dX6_kick_6 (by decide) (fun h6 => ?_) (fun h6 => ?_)
  · exact absurd (hp.symm.trans h6) (by decide)
  · refine ev_iload_n dX6_kick_9 rfl 3 rfl ?_
    refine ev_callSi (x := b2i (sv (nI 4) (nI ch))) dX6_kick_10 (Or.inl M_X6_118) Y_X6_isChannel [.int (nI ch)] (c_X6_isChannel (nI ch) ) (by decide) (Nat.le_of_ble_eq_true rfl) rfl rfl (Nat.le_of_ble_eq_true rfl) ?_
    refine ev_ifb_eq (tgt := 24) dX6_kick_13 (by decide) (fun h13 => ?_) (fun h13 => ?_)
    · exact absurd (hch1.symm.trans h13) (by decide)
    · refine ev_iload dX6_kick_16 4 rfl ?_
      refine ev_callSi (x := b2i (sv (nI 10) (nI g))) dX6_kick_18 (Or.inl M_X6_112) Y_X6_isNick [.int (nI g)] (c_X6_isNick (nI g) ) (by decide) (Nat.le_of_ble_eq_true rfl) rfl rfl (Nat.le_of_ble_eq_true rfl) ?_
      refine ev_ifb_ne (tgt := 26) dX6_kick_21 (by decide) (fun h21 => ?_) (fun h21 => ?_)
      · refine ev_aload_n dX6_kick_26 rfl 0 rfl ?_
        refine ev_iload_n dX6_kick_27 rfl 1 rfl ?_
        refine ev_iload_n dX6_kick_28 rfl 2 rfl ?_
        refine ev_iload_n dX6_kick_29 rfl 3 rfl ?_
        refine ev_callVi (x := b2i (mus (σ 78) s n && mj (σ 78) 130 ch s n)) dX6_kick_30 M_X6_130 Y_X6_isOperator [.int (nI s), .int (nI n), .int (nI ch)] (c_X6_isOperator s n ch (by omega) (by omega) (by omega)) (by decide) (Nat.le_of_ble_eq_true rfl) (by decide) sh_77 rfl rfl rfl (Nat.le_of_ble_eq_true rfl) ?_
        refine ev_ifb_eq (tgt := 54) dX6_kick_33 (by decide) (fun h33 => ?_) (fun h33 => ?_)
        · exact absurd (ho0.symm.trans h33) (by decide)
        · refine ev_aload_n dX6_kick_36 rfl 0 rfl ?_
          refine ev_aload_n dX6_kick_37 rfl 0 rfl ?_
          refine ev_iload_n dX6_kick_38 rfl 1 rfl ?_
          refine ev_callVi (x := mnet (σ 78) c s) dX6_kick_39 M_X6_54 Y_X6_network [.int (nI s)] (c_X6_network s c (by omega) (by first | exact hcn | omega) (by first | exact hc1 | omega) (by first | exact hc6 | omega)) (by decide) (Nat.le_of_ble_eq_true rfl) (by decide) sh_77 rfl rfl rfl (Nat.le_of_ble_eq_true rfl) ?_
          refine ev_iload_n dX6_kick_42 rfl 3 rfl ?_
          refine ev_callVi (x := mni (mj (σ 78) 70 ch) c (mnet (σ 78) c s)) dX6_kick_43 M_X6_82 Y_X6_membersIn [.int (mnet (σ 78) c s), .int (nI ch)] (c_X6_membersIn (mnet (σ 78) c s) ch c (by first | exact hcn | omega) (by first | exact hc1 | omega) (by first | exact hc6 | omega) (by omega)) (by decide) (Nat.le_of_ble_eq_true rfl) (by decide) sh_77 rfl rfl rfl (Nat.le_of_ble_eq_true rfl) ?_
          refine ev_iload dX6_kick_46 4 rfl ?_
          refine ev_callSi (x := b2i (tb (mni (mj (σ 78) 70 ch) c (mnet (σ 78) c s)) g)) dX6_kick_48 (Or.inl M_X6_50) Y_X6_has [.int (mni (mj (σ 78) 70 ch) c (mnet (σ 78) c s)), .int (nI g)] (c_X6_has (mni (mj (σ 78) 70 ch) c (mnet (σ 78) c s)) g (by omega)) (by decide) (Nat.le_of_ble_eq_true rfl) rfl rfl (Nat.le_of_ble_eq_true rfl) ?_
          refine ev_ifb_ne (tgt := 57) dX6_kick_51 (by decide) (fun h51 => ?_) (fun h51 => ?_)
          · exact absurd (hm0.symm.trans h51) (by decide)
          · refine ev_bipush dX6_kick_54 (v := (-2)) (by decide) ?_
            exact ev_ireturn dX6_kick_56 rfl rfl (leafI hQ rfl rfl)
      · exact absurd (hg1.symm.trans h21) (by decide)

set_option maxRecDepth 100000 in
set_option maxHeartbeats 1000000 in
theorem c_X6_kick_ok {l : Launch} {σ : av_S} (s : Nat) (n : Nat) (ch : Nat) (g : Nat) (h : Nat) (c : Nat) (u : Nat) (hs : s < 6) (hn0 : n < 10) (hp : (sv (nI c) (nI s) && sv (nI 10) (nI n)) = true) (hch : ch < 4) (hch1 : sv (nI 4) (nI ch) = true) (hg0 : g < 10) (hg1 : sv (nI 10) (nI g) = true) (ho0 : (mus (σ 78) s n && mj (σ 78) 130 ch s n) = true) (hm0 : tb (mni (mj (σ 78) 70 ch) c (mnet (σ 78) c s)) g = true) (ho : mhm (σ 78) c (mnet (σ 78) c s) g = some h) (hh : h < 6) (hcn : σ 78 0 = nI c) (hc1 : 1 ≤ c) (hc6 : c ≤ 6) (hu : σ 77 2 = nI u) (hu8 : u ≤ 8) : av_M l RX6 cX6_kick 5 (some .int) 4 [.ref 77, .int (nI s), .int (nI n), .int (nI ch), .int (nI g)] σ (some (.int (nI (mcm (mle (σ 78) h g ch) c s ch)))) (av_set (av_set (av_set σ 77 (upd (σ 77) 2 (nI (svU u)))) 78 (mle (σ 78) h g ch)) 79 (svH (σ 79) (σ 78) u)) := by
  intro Q hQ
  show av_Ev l RX6 cX6_kick 5 (some .int) av_E0 4 0 [(0, .ref 77), (1, .int (nI s)), (2, .int (nI n)), (3, .int (nI ch)), (4, .int (nI g))] [] σ Q
  refine ev_aload_n dX6_kick_0 rfl 0 rfl ?_
  refine ev_iload_n dX6_kick_1 rfl 1 rfl ?_
  refine ev_iload_n dX6_kick_2 rfl 2 rfl ?_
  refine ev_callVi (x := b2i (sv (nI c) (nI s) && sv (nI 10) (nI n))) dX6_kick_3 M_X6_115 Y_X6_isPlace [.int (nI s), .int (nI n)] (c_X6_isPlace (nI s) (nI n) c (by first | exact hcn | omega) (by first | exact hc1 | omega) (by first | exact hc6 | omega)) (by decide) (Nat.le_of_ble_eq_true rfl) (by decide) sh_77 rfl rfl rfl (Nat.le_of_ble_eq_true rfl) ?_
  refine ev_ifb_eq (tgt := 24) dX6_kick_6 (by decide) (fun h6 => ?_) (fun h6 => ?_)
  · exact absurd (hp.symm.trans h6) (by decide)
  · refine ev_iload_n dX6_kick_9 rfl 3 rfl ?_
    refine ev_callSi (x := b2i (sv (nI 4) (nI ch))) dX6_kick_10 (Or.inl M_X6_118) Y_X6_isChannel [.int (nI ch)] (c_X6_isChannel (nI ch) ) (by decide) (Nat.le_of_ble_eq_true rfl) rfl rfl (Nat.le_of_ble_eq_true rfl) ?_
    refine ev_ifb_eq (tgt := 24) dX6_kick_13 (by decide) (fun h13 => ?_) (fun h13 => ?_)
    · exact absurd (hch1.symm.trans h13) (by decide)
    · refine ev_iload dX6_kick_16 4 rfl ?_
      refine ev_callSi (x := b2i (sv (nI 10) (nI g))) dX6_kick_18 (Or.inl M_X6_112) Y_X6_isNick [.int (nI g)] (c_X6_isNick (nI g) ) (by decide) (Nat.le_of_ble_eq_true rfl) rfl rfl (Nat.le_of_ble_eq_true rfl) ?_
      refine ev_ifb_ne (tgt := 26) dX6_kick_21 (by decide) (fun h21 => ?_) (fun h21 => ?_)
      · refine ev_aload_n dX6_kick_26 rfl 0 rfl ?_
        refine ev_iload_n dX6_kick_27 rfl 1 rfl ?_
        refine ev_iload_n dX6_kick_28 rfl 2 rfl ?_
        refine ev_iload_n dX6_kick_29 rfl 3 rfl ?_
        refine ev_callVi (x := b2i (mus (σ 78) s n && mj (σ 78) 130 ch s n)) dX6_kick_30 M_X6_130 Y_X6_isOperator [.int (nI s), .int (nI n), .int (nI ch)] (c_X6_isOperator s n ch (by omega) (by omega) (by omega)) (by decide) (Nat.le_of_ble_eq_true rfl) (by decide) sh_77 rfl rfl rfl (Nat.le_of_ble_eq_true rfl) ?_
        refine ev_ifb_eq (tgt := 54) dX6_kick_33 (by decide) (fun h33 => ?_) (fun h33 => ?_)
        · exact absurd (ho0.symm.trans h33) (by decide)
        · refine ev_aload_n dX6_kick_36 rfl 0 rfl ?_
          refine ev_aload_n dX6_kick_37 rfl 0 rfl ?_
          refine ev_iload_n dX6_kick_38 rfl 1 rfl ?_
          refine ev_callVi (x := mnet (σ 78) c s) dX6_kick_39 M_X6_54 Y_X6_network [.int (nI s)] (c_X6_network s c (by omega) (by first | exact hcn | omega) (by first | exact hc1 | omega) (by first | exact hc6 | omega)) (by decide) (Nat.le_of_ble_eq_true rfl) (by decide) sh_77 rfl rfl rfl (Nat.le_of_ble_eq_true rfl) ?_
          refine ev_iload_n dX6_kick_42 rfl 3 rfl ?_
          refine ev_callVi (x := mni (mj (σ 78) 70 ch) c (mnet (σ 78) c s)) dX6_kick_43 M_X6_82 Y_X6_membersIn [.int (mnet (σ 78) c s), .int (nI ch)] (c_X6_membersIn (mnet (σ 78) c s) ch c (by first | exact hcn | omega) (by first | exact hc1 | omega) (by first | exact hc6 | omega) (by omega)) (by decide) (Nat.le_of_ble_eq_true rfl) (by decide) sh_77 rfl rfl rfl (Nat.le_of_ble_eq_true rfl) ?_
          refine ev_iload dX6_kick_46 4 rfl ?_
          refine ev_callSi (x := b2i (tb (mni (mj (σ 78) 70 ch) c (mnet (σ 78) c s)) g)) dX6_kick_48 (Or.inl M_X6_50) Y_X6_has [.int (mni (mj (σ 78) 70 ch) c (mnet (σ 78) c s)), .int (nI g)] (c_X6_has (mni (mj (σ 78) 70 ch) c (mnet (σ 78) c s)) g (by omega)) (by decide) (Nat.le_of_ble_eq_true rfl) rfl rfl (Nat.le_of_ble_eq_true rfl) ?_
          refine ev_ifb_ne (tgt := 57) dX6_kick_51 (by decide) (fun h51 => ?_) (fun h51 => ?_)
          · refine ev_aload_n dX6_kick_57 rfl 0 rfl ?_
            refine ev_callVv (σ' := av_set (av_set σ 77 (upd (σ 77) 2 (nI (svU u)))) 79 (svH (σ 79) (σ 78) u)) dX6_kick_58 M_X6_69 Y_X6_save [] (c_X6_save u (by first | exact hu | omega) (by first | exact hu8 | omega)) (by decide) (Nat.le_of_ble_eq_true rfl) (by decide) sh_77 rfl rfl rfl (Nat.le_of_ble_eq_true rfl) ?_
            refine ev_aload_n dX6_kick_61 rfl 0 rfl ?_
            refine ev_aload_n dX6_kick_62 rfl 0 rfl ?_
            refine ev_aload_n dX6_kick_63 rfl 0 rfl ?_
            refine ev_iload_n dX6_kick_64 rfl 1 rfl ?_
            refine ev_callVi (x := mnet (σ 78) c s) dX6_kick_65 M_X6_54 Y_X6_network [.int (nI s)] (c_X6_network s c (by omega) (by first | exact hcn | omega) (by first | exact hc1 | omega) (by first | exact hc6 | omega)) (by decide) (Nat.le_of_ble_eq_true rfl) (by decide) sh_77 rfl rfl rfl (Nat.le_of_ble_eq_true rfl) ?_
            refine ev_iload dX6_kick_68 4 rfl ?_
            refine ev_callVi (x := oJ (mhm (σ 78) c (mnet (σ 78) c s) g)) dX6_kick_70 M_X6_72 Y_X6_homeIn [.int (mnet (σ 78) c s), .int (nI g)] (c_X6_homeIn (mnet (σ 78) c s) g c (by omega) (by first | exact hcn | omega) (by first | exact hc1 | omega) (by first | exact hc6 | omega)) (by decide) (Nat.le_of_ble_eq_true rfl) (by decide) sh_77 rfl rfl rfl (Nat.le_of_ble_eq_true rfl) ?_
            refine ev_top (v := nI h) (by rw [ho]; rfl) ?_
            refine ev_iload dX6_kick_73 4 rfl ?_
            refine ev_iload_n dX6_kick_75 rfl 3 rfl ?_
            refine ev_callVv dX6_kick_76 M_X6_127 Y_X6_leave [.int (nI h), .int (nI g), .int (nI ch)] (c_X6_leave h g ch (by omega) (by omega) (by omega)) (by decide) (Nat.le_of_ble_eq_true rfl) (by decide) sh_77 rfl rfl rfl (Nat.le_of_ble_eq_true rfl) ?_
            refine ev_st (σ' := av_set (av_set (av_set σ 77 (upd (σ 77) 2 (nI (svU u)))) 78 (mle (σ 78) h g ch)) 79 (svH (σ 79) (σ 78) u)) (by first | rfl | (funext a; by_cases q77 : a = 77; (next => subst q77; rfl); by_cases q78 : a = 78; (next => subst q78; rfl); by_cases q79 : a = 79; (next => subst q79; rfl); simp only [av_set, q77, q78, q79, if_false]) | exact av_set_set _ _ _ _ | (funext a; unfold av_set; (repeat' split) <;> first | rfl | (exfalso; omega)) | (funext a; simp only [av_set, cpS]; (repeat' split) <;> first | rfl | (exfalso; omega))) ?_
            refine ev_aload_n dX6_kick_79 rfl 0 rfl ?_
            refine ev_iload_n dX6_kick_80 rfl 1 rfl ?_
            refine ev_iload_n dX6_kick_81 rfl 3 rfl ?_
            refine ev_callVi (x := nI (mcm (mle (σ 78) h g ch) c s ch)) dX6_kick_82 M_X6_124 Y_X6_memberCount [.int (nI s), .int (nI ch)] (c_X6_memberCount s ch c (by omega) (by omega) ((mle_lo (by decide)).trans hcn) (by first | exact hc1 | omega) (by first | exact hc6 | omega)) (by decide) (Nat.le_of_ble_eq_true rfl) (by decide) sh_77 rfl rfl rfl (Nat.le_of_ble_eq_true rfl) ?_
            exact ev_ireturn dX6_kick_85 rfl rfl (leafI hQ rfl rfl)
          · exact absurd (hm0.symm.trans h51) (by decide)
      · exact absurd (hg1.symm.trans h21) (by decide)

set_option maxRecDepth 100000 in
set_option maxHeartbeats 1000000 in
theorem c_X6_append_bad {l : Launch} {σ : av_S} (x : Int32) (hx : inb x (nI 0) (nI 255) = false) : av_M l RX6 cX6_appendCharacter 2 (some .int) 1 [.ref 77, .int x] σ (some (.int (-1))) σ := by
  intro Q hQ
  show av_Ev l RX6 cX6_appendCharacter 2 (some .int) av_E0 1 0 [(0, .ref 77), (1, .int x)] [] σ Q
  refine ev_iload_n dX6_appendCharacter_0 rfl 1 rfl ?_
  refine ev_iconst dX6_appendCharacter_1 (v := nI 0) (by decide) ?_
  refine ev_sipush dX6_appendCharacter_2 (v := nI 255) (by decide) ?_
  refine ev_callSi (x := b2i (inb x (nI 0) (nI 255))) dX6_appendCharacter_5 (Or.inl M_X6_42) Y_X6_in [.int x, .int (nI 0), .int (nI 255)] (c_X6_in x (nI 0) (nI 255) ) (by decide) (Nat.le_of_ble_eq_true rfl) rfl rfl (Nat.le_of_ble_eq_true rfl) ?_
  refine ev_ifb_ne (tgt := 13) dX6_appendCharacter_8 (by decide) (fun h8 => ?_) (fun h8 => ?_)
  · exact absurd (hx.symm.trans h8) (by decide)
  · refine ev_iconst dX6_appendCharacter_11 (v := (-1)) (by decide) ?_
    exact ev_ireturn dX6_appendCharacter_12 rfl rfl (leafI hQ rfl rfl)

set_option maxRecDepth 100000 in
set_option maxHeartbeats 1000000 in
theorem c_X6_append_lim {l : Launch} {σ : av_S} (x : Nat) (n : Nat) (hx : inb (nI x) (nI 0) (nI 255) = true) (hn : σ 77 4 = nI n) (hn4 : n ≤ 40) (hf : n = 40) : av_M l RX6 cX6_appendCharacter 2 (some .int) 1 [.ref 77, .int (nI x)] σ (some (.int (-3))) σ := by
  intro Q hQ
  show av_Ev l RX6 cX6_appendCharacter 2 (some .int) av_E0 1 0 [(0, .ref 77), (1, .int (nI x))] [] σ Q
  refine ev_iload_n dX6_appendCharacter_0 rfl 1 rfl ?_
  refine ev_iconst dX6_appendCharacter_1 (v := nI 0) (by decide) ?_
  refine ev_sipush dX6_appendCharacter_2 (v := nI 255) (by decide) ?_
  refine ev_callSi (x := b2i (inb (nI x) (nI 0) (nI 255))) dX6_appendCharacter_5 (Or.inl M_X6_42) Y_X6_in [.int (nI x), .int (nI 0), .int (nI 255)] (c_X6_in (nI x) (nI 0) (nI 255) ) (by decide) (Nat.le_of_ble_eq_true rfl) rfl rfl (Nat.le_of_ble_eq_true rfl) ?_
  refine ev_ifb_ne (tgt := 13) dX6_appendCharacter_8 (by decide) (fun h8 => ?_) (fun h8 => ?_)
  · refine ev_aload_n dX6_appendCharacter_13 rfl 0 rfl ?_
    refine ev_getI dX6_appendCharacter_14 C_X6 L_X6_133 (by decide) (by decide) sh_77 rfl ?_
    refine ev_top (v := nI n) hn ?_
    refine ev_bipush dX6_appendCharacter_17 (v := nI 40) (by decide) ?_
    refine ev_ncmp_ne (tgt := 25) dX6_appendCharacter_19 (by decide) (by omega) (by omega) (fun h19 => ?_) (fun h19 => ?_)
    · exact absurd h19 (by omega)
    · refine ev_bipush dX6_appendCharacter_22 (v := (-3)) (by decide) ?_
      exact ev_ireturn dX6_appendCharacter_24 rfl rfl (leafI hQ rfl rfl)
  · exact absurd (hx.symm.trans h8) (by decide)

set_option maxRecDepth 100000 in
set_option maxHeartbeats 1000000 in
theorem c_X6_append_ok {l : Launch} {σ : av_S} (x : Nat) (n : Nat) (hx : inb (nI x) (nI 0) (nI 255) = true) (hn : σ 77 4 = nI n) (hn4 : n ≤ 40) (hf : n < 40) : av_M l RX6 cX6_appendCharacter 2 (some .int) 1 [.ref 77, .int (nI x)] σ (some (.int (nI (n + 1)))) (av_set (av_set σ 77 (upd (σ 77) 4 (nI (n + 1)))) 80 (upd (σ 80) n (nI x))) := by
  intro Q hQ
  show av_Ev l RX6 cX6_appendCharacter 2 (some .int) av_E0 1 0 [(0, .ref 77), (1, .int (nI x))] [] σ Q
  refine ev_iload_n dX6_appendCharacter_0 rfl 1 rfl ?_
  refine ev_iconst dX6_appendCharacter_1 (v := nI 0) (by decide) ?_
  refine ev_sipush dX6_appendCharacter_2 (v := nI 255) (by decide) ?_
  refine ev_callSi (x := b2i (inb (nI x) (nI 0) (nI 255))) dX6_appendCharacter_5 (Or.inl M_X6_42) Y_X6_in [.int (nI x), .int (nI 0), .int (nI 255)] (c_X6_in (nI x) (nI 0) (nI 255) ) (by decide) (Nat.le_of_ble_eq_true rfl) rfl rfl (Nat.le_of_ble_eq_true rfl) ?_
  refine ev_ifb_ne (tgt := 13) dX6_appendCharacter_8 (by decide) (fun h8 => ?_) (fun h8 => ?_)
  · refine ev_aload_n dX6_appendCharacter_13 rfl 0 rfl ?_
    refine ev_getI dX6_appendCharacter_14 C_X6 L_X6_133 (by decide) (by decide) sh_77 rfl ?_
    refine ev_top (v := nI n) hn ?_
    refine ev_bipush dX6_appendCharacter_17 (v := nI 40) (by decide) ?_
    refine ev_ncmp_ne (tgt := 25) dX6_appendCharacter_19 (by decide) (by omega) (by omega) (fun h19 => ?_) (fun h19 => ?_)
    · refine ev_aload_n dX6_appendCharacter_25 rfl 0 rfl ?_
      refine ev_getR dX6_appendCharacter_26 C_X6 L_X6_16 (by decide) (by decide) sh_77 rfl ?_
      refine ev_aload_n dX6_appendCharacter_29 rfl 0 rfl ?_
      refine ev_getI dX6_appendCharacter_30 C_X6 L_X6_133 (by decide) (by decide) sh_77 rfl ?_
      refine ev_top (v := nI n) hn ?_
      refine ev_iload_n dX6_appendCharacter_33 rfl 1 rfl ?_
      refine ev_iast (e := n) dX6_appendCharacter_34 (by decide) sh_80 (by omega) (by decide) ?_
      refine ev_aload_n dX6_appendCharacter_35 rfl 0 rfl ?_
      refine ev_dup_a dX6_appendCharacter_36 ?_
      refine ev_getI dX6_appendCharacter_37 C_X6 L_X6_133 (by decide) (by decide) sh_77 rfl ?_
      refine ev_top (v := σ 77 4) (by first | rfl | (simp only [av_set, cpS]; (repeat' split) <;> first | rfl | (exfalso; omega))) ?_
      refine ev_top (v := nI n) hn ?_
      refine ev_iconst dX6_appendCharacter_40 (v := nI 1) (by decide) ?_
      refine ev_iadd dX6_appendCharacter_41 ?_
      refine ev_top (v := nI (n + 1)) (nI_add _ _) ?_
      refine ev_putI dX6_appendCharacter_42 C_X6 L_X6_133 (by decide) (by decide) sh_77 rfl rfl rfl ?_
      refine ev_st (σ' := av_set (av_set σ 77 (upd (σ 77) 4 (nI (n + 1)))) 80 (upd (σ 80) n (nI x))) (by first | rfl | (funext a; by_cases q77 : a = 77; (next => subst q77; rfl); by_cases q80 : a = 80; (next => subst q80; rfl); simp only [av_set, q77, q80, if_false]) | exact av_set_set _ _ _ _ | (funext a; unfold av_set; (repeat' split) <;> first | rfl | (exfalso; omega)) | (funext a; simp only [av_set, cpS]; (repeat' split) <;> first | rfl | (exfalso; omega))) ?_
      refine ev_aload_n dX6_appendCharacter_45 rfl 0 rfl ?_
      refine ev_getI dX6_appendCharacter_46 C_X6 L_X6_133 (by decide) (by decide) sh_77 rfl ?_
      refine ev_top (v := nI (n + 1)) (by first | rfl | (simp only [av_set, cpS]; (repeat' split) <;> first | rfl | (exfalso; omega))) ?_
      exact ev_ireturn dX6_appendCharacter_49 rfl rfl (leafI hQ rfl rfl)
    · exact absurd h19 (by omega)
  · exact absurd (hx.symm.trans h8) (by decide)

set_option maxRecDepth 100000 in
set_option maxHeartbeats 1000000 in
theorem c_X6_clearText {l : Launch} {σ : av_S} (n : Nat) (hn : σ 77 4 = nI n) (hn4 : n ≤ 40) : av_M l RX6 cX6_clearText 2 (some .int) 0 [.ref 77] σ (some (.int (nI n))) (av_set σ 77 (upd (σ 77) 4 (nI 0))) := by
  intro Q hQ
  show av_Ev l RX6 cX6_clearText 2 (some .int) av_E0 0 0 [(0, .ref 77)] [] σ Q
  refine ev_aload_n dX6_clearText_0 rfl 0 rfl ?_
  refine ev_getI dX6_clearText_1 C_X6 L_X6_133 (by decide) (by decide) sh_77 rfl ?_
  refine ev_top (v := nI n) hn ?_
  refine ev_istore_n (lv' := [(1, .int (nI n)), (0, .ref 77)]) dX6_clearText_4 rfl (by decide) rfl ?_
  refine ev_aload_n dX6_clearText_5 rfl 1 rfl ?_
  refine ev_iconst dX6_clearText_6 (v := nI 0) (by decide) ?_
  refine ev_putI dX6_clearText_7 C_X6 L_X6_133 (by decide) (by decide) sh_77 rfl rfl rfl ?_
  refine ev_iload_n dX6_clearText_10 rfl 0 rfl ?_
  exact ev_ireturn dX6_clearText_11 rfl rfl (leafI hQ rfl rfl)

set_option maxRecDepth 100000 in
set_option maxHeartbeats 1000000 in
theorem c_X6_isSign {l : Launch} {σ : av_S} (c : Nat) (hc : c < 256) : av_M l RX6 cX6_isSign 1 (some .boolean) 0 [.int (nI c)] σ (some (.int (b2i (sg c)))) σ := by
  intro Q hQ
  show av_Ev l RX6 cX6_isSign 1 (some .boolean) av_E0 0 0 [(0, .int (nI c))] [] σ Q
  refine ev_iload_n dX6_isSign_0 rfl 0 rfl ?_
  refine ev_bipush dX6_isSign_1 (v := nI 43) (by decide) ?_
  refine ev_ncmp_eq (tgt := 12) dX6_isSign_3 (by decide) (by omega) (by omega) (fun h3 => ?_) (fun h3 => ?_)
  · refine ev_iconst dX6_isSign_12 (v := nI 1) (by decide) ?_
    refine ev_goto (tgt := 17) dX6_isSign_13 (by decide) ?_
    exact ev_ireturn dX6_isSign_17 rfl (by decide) (leafI hQ (by simp [b2i, sg, h3]) rfl)
  · refine ev_iload_n dX6_isSign_6 rfl 0 rfl ?_
    refine ev_bipush dX6_isSign_7 (v := nI 45) (by decide) ?_
    refine ev_ncmp_ne (tgt := 16) dX6_isSign_9 (by decide) (by omega) (by omega) (fun h9 => ?_) (fun h9 => ?_)
    · refine ev_iconst dX6_isSign_16 (v := nI 0) (by decide) ?_
      exact ev_ireturn dX6_isSign_17 rfl (by decide) (leafI hQ (by simp [b2i, sg, h3, h9]) rfl)
    · refine ev_iconst dX6_isSign_12 (v := nI 1) (by decide) ?_
      refine ev_goto (tgt := 17) dX6_isSign_13 (by decide) ?_
      exact ev_ireturn dX6_isSign_17 rfl (by decide) (leafI hQ (by simp [b2i, sg, h3, h9]) rfl)

set_option maxRecDepth 100000 in
set_option maxHeartbeats 1000000 in
theorem c_X6_modeOf {l : Launch} {σ : av_S} (c : Nat) (hc : c < 256) : av_M l RX6 cX6_modeOf 1 (some .int) 0 [.int (nI c)] σ (some (.int (oJ (ix c)))) σ := by
  intro Q hQ
  show av_Ev l RX6 cX6_modeOf 1 (some .int) av_E0 0 0 [(0, .int (nI c))] [] σ Q
  refine ev_iload_n dX6_modeOf_0 rfl 0 rfl ?_
  by_cases hin : 105 ≤ c ∧ c ≤ 116
  · obtain ⟨j, hj, rfl⟩ : ∃ j, j < 12 ∧ c = 105 + j := ⟨c - 105, by omega, by omega⟩
    match j, hj with
    | 0, _ =>
      refine ev_tabIn (off := 63) (tgt := 64) dX6_modeOf_1 (by omega) (by decide) (by decide) (by decide) (by decide) ?_
      refine ev_iconst dX6_modeOf_64 (v := nI 0) (by decide) ?_
      exact ev_ireturn dX6_modeOf_65 rfl rfl (leafI hQ (by decide) rfl)
    | 1, _ =>
      refine ev_tabIn (off := 75) (tgt := 76) dX6_modeOf_1 (by omega) (by decide) (by decide) (by decide) (by decide) ?_
      refine ev_bipush dX6_modeOf_76 (v := (-9)) (by decide) ?_
      exact ev_ireturn dX6_modeOf_78 rfl rfl (leafI hQ (by decide) rfl)
    | 2, _ =>
      refine ev_tabIn (off := 75) (tgt := 76) dX6_modeOf_1 (by omega) (by decide) (by decide) (by decide) (by decide) ?_
      refine ev_bipush dX6_modeOf_76 (v := (-9)) (by decide) ?_
      exact ev_ireturn dX6_modeOf_78 rfl rfl (leafI hQ (by decide) rfl)
    | 3, _ =>
      refine ev_tabIn (off := 75) (tgt := 76) dX6_modeOf_1 (by omega) (by decide) (by decide) (by decide) (by decide) ?_
      refine ev_bipush dX6_modeOf_76 (v := (-9)) (by decide) ?_
      exact ev_ireturn dX6_modeOf_78 rfl rfl (leafI hQ (by decide) rfl)
    | 4, _ =>
      refine ev_tabIn (off := 65) (tgt := 66) dX6_modeOf_1 (by omega) (by decide) (by decide) (by decide) (by decide) ?_
      refine ev_iconst dX6_modeOf_66 (v := nI 1) (by decide) ?_
      exact ev_ireturn dX6_modeOf_67 rfl rfl (leafI hQ (by decide) rfl)
    | 5, _ =>
      refine ev_tabIn (off := 67) (tgt := 68) dX6_modeOf_1 (by omega) (by decide) (by decide) (by decide) (by decide) ?_
      refine ev_iconst dX6_modeOf_68 (v := nI 2) (by decide) ?_
      exact ev_ireturn dX6_modeOf_69 rfl rfl (leafI hQ (by decide) rfl)
    | 6, _ =>
      refine ev_tabIn (off := 75) (tgt := 76) dX6_modeOf_1 (by omega) (by decide) (by decide) (by decide) (by decide) ?_
      refine ev_bipush dX6_modeOf_76 (v := (-9)) (by decide) ?_
      exact ev_ireturn dX6_modeOf_78 rfl rfl (leafI hQ (by decide) rfl)
    | 7, _ =>
      refine ev_tabIn (off := 69) (tgt := 70) dX6_modeOf_1 (by omega) (by decide) (by decide) (by decide) (by decide) ?_
      refine ev_iconst dX6_modeOf_70 (v := nI 3) (by decide) ?_
      exact ev_ireturn dX6_modeOf_71 rfl rfl (leafI hQ (by decide) rfl)
    | 8, _ =>
      refine ev_tabIn (off := 75) (tgt := 76) dX6_modeOf_1 (by omega) (by decide) (by decide) (by decide) (by decide) ?_
      refine ev_bipush dX6_modeOf_76 (v := (-9)) (by decide) ?_
      exact ev_ireturn dX6_modeOf_78 rfl rfl (leafI hQ (by decide) rfl)
    | 9, _ =>
      refine ev_tabIn (off := 75) (tgt := 76) dX6_modeOf_1 (by omega) (by decide) (by decide) (by decide) (by decide) ?_
      refine ev_bipush dX6_modeOf_76 (v := (-9)) (by decide) ?_
      exact ev_ireturn dX6_modeOf_78 rfl rfl (leafI hQ (by decide) rfl)
    | 10, _ =>
      refine ev_tabIn (off := 71) (tgt := 72) dX6_modeOf_1 (by omega) (by decide) (by decide) (by decide) (by decide) ?_
      refine ev_iconst dX6_modeOf_72 (v := nI 4) (by decide) ?_
      exact ev_ireturn dX6_modeOf_73 rfl rfl (leafI hQ (by decide) rfl)
    | 11, _ =>
      refine ev_tabIn (off := 73) (tgt := 74) dX6_modeOf_1 (by omega) (by decide) (by decide) (by decide) (by decide) ?_
      refine ev_iconst dX6_modeOf_74 (v := nI 5) (by decide) ?_
      exact ev_ireturn dX6_modeOf_75 rfl rfl (leafI hQ (by decide) rfl)
    | j + 12, h => exact absurd h (by omega)
  · refine ev_tabOut (tgt := 76) dX6_modeOf_1 (by omega) (by omega) (by decide) ?_
    refine ev_bipush dX6_modeOf_76 (v := (-9)) (by decide) ?_
    refine ev_ireturn dX6_modeOf_78 rfl rfl (leafI hQ ?_ rfl)
    have h : ∀ c, c < 256 → (c < 105 ∨ 116 < c) → ix c = none := by decide +kernel
    rw [h c hc (by omega)]; rfl

set_option maxRecDepth 100000 in
set_option maxHeartbeats 1000000 in
theorem c_X6_check {l : Launch} {σ : av_S} (M : Int32) (t : Nat → Nat) (n : Nat) (hn : σ 77 4 = nI n) (hn4 : n ≤ 40) (ht : ∀ i, i < n → σ 80 i = nI (t i) ∧ t i < 256) : av_M l RX6 cX6_check 7 (some .int) 1 [.ref 77, .int M] σ (some (.int (oJ ((chk t M n 0 true false 0).1)))) (av_set σ 77 (upd (σ 77) 5 (nI (chk t M n 0 true false 0).2))) := by
  intro Q hQ
  show av_Ev l RX6 cX6_check 7 (some .int) av_E0 1 0 [(0, .ref 77), (1, .int M)] [] σ Q
  refine ev_aload_n dX6_check_0 rfl 0 rfl ?_
  refine ev_iconst dX6_check_1 (v := nI 0) (by decide) ?_
  refine ev_putI dX6_check_2 C_X6 L_X6_136 (by decide) (by decide) sh_77 rfl rfl rfl ?_
  refine ev_iconst dX6_check_5 (v := nI 1) (by decide) ?_
  refine ev_istore_n (lv' := [(2, .int (nI 1)), (0, .ref 77), (1, .int M)]) dX6_check_6 rfl (by decide) rfl ?_
  refine ev_iconst dX6_check_7 (v := nI 0) (by decide) ?_
  refine ev_istore_n (lv' := [(3, .int (nI 0)), (2, .int (nI 1)), (0, .ref 77), (1, .int M)]) dX6_check_8 rfl (by decide) rfl ?_
  refine ev_iconst dX6_check_9 (v := nI 0) (by decide) ?_
  refine ev_istore (lv' := [(4, .int (nI 0)), (3, .int (nI 0)), (2, .int (nI 1)), (0, .ref 77), (1, .int M)]) dX6_check_10 (by decide) rfl ?_
  refine ev_lv (lv' := [(0, .ref 77), (1, .int M), (2, .int (nI 1)), (3, .int (nI 0)), (4, .int (nI 0))]) [3, 4, 2, 1, 0] rfl ?_
  refine loop_wf (fun k => ∀ (ms mi : Bool) (it : Nat), it ≤ k → Q (some (.int (oJ (chk t M n k ms mi it).1))) (av_set σ 77 (upd (σ 77) 5 (nI (chk t M n k ms mi it).2))) → av_Ev l RX6 cX6_check 7 (some .int) av_E0 1 12 [(0, .ref 77), (1, .int M), (2, .int (b2i ms)), (3, .int (b2i mi)), (4, .int (nI k))] [] (av_set σ 77 (upd (σ 77) 5 (nI it))) Q) n ?_ 0 (by omega) true false 0 (by omega) hQ
  intro k hkk ihk ms mi it hit hQ
  refine ev_iload dX6_check_12 4 rfl ?_
  refine ev_aload_n dX6_check_14 rfl 0 rfl ?_
  refine ev_getI dX6_check_15 C_X6 L_X6_133 (by decide) (by decide) sh_77 rfl ?_
  refine ev_top (v := σ 77 4) (by first | rfl | (simp only [av_set, cpS]; (repeat' split) <;> first | rfl | (exfalso; omega))) ?_
  refine ev_top (v := nI n) hn ?_
  refine ev_ncmp_ge (tgt := 176) dX6_check_18 (by decide) (by omega) (by omega) (fun h18 => ?_) (fun h18 => ?_)
  · refine ev_aload_n dX6_check_176 rfl 0 rfl ?_
    refine ev_getI dX6_check_177 C_X6 L_X6_136 (by decide) (by decide) sh_77 rfl ?_
    refine ev_top (v := nI it) (by first | rfl | (simp only [av_set, cpS]; (repeat' split) <;> first | rfl | (exfalso; omega))) ?_
    refine ev_nif_le (tgt := 192) dX6_check_180 (by decide) (by omega) (fun h180 => ?_) (fun h180 => ?_)
    · refine ev_aload_n dX6_check_192 rfl 0 rfl ?_
      refine ev_getI dX6_check_193 C_X6 L_X6_133 (by decide) (by decide) sh_77 rfl ?_
      refine ev_top (v := σ 77 4) (by first | rfl | (simp only [av_set, cpS]; (repeat' split) <;> first | rfl | (exfalso; omega))) ?_
      refine ev_top (v := nI n) hn ?_
      exact ev_ireturn dX6_check_196 rfl rfl (leafI hQ (by rw [chk_end h18]; simp [oJ, h180, h18, h180]) (by first | rw [chk_end h18] | rw [show chk t M n k ms mi it = (some (k + 1), it) from by (first | exact chk_sg h18 h35 h39 | exact chk_nm h18 (by first | (rw [h35]; rfl) | (rw [h39]; cases sg (t k) <;> rfl)) h50 | exact chk_oo h18 (by first | (rw [h35]; rfl) | (rw [h39]; cases sg (t k) <;> rfl)) h50 h57 (by omega) h117 h134 | exact chk_ob h18 (by first | (rw [h35]; rfl) | (rw [h39]; cases sg (t k) <;> rfl)) h50 h57 (by first | (rw [decide_eq_false (by omega)]; rfl) | (rw [h117]; simp; done) | (rw [h134]; simp; done)) | exact chk_mo h18 (by first | (rw [h35]; rfl) | (rw [h39]; cases sg (t k) <;> rfl)) h50 h57 (by rw [ho62]; rfl) | exact chk_mb h18 (by first | (rw [h35]; rfl) | (rw [h39]; cases sg (t k) <;> rfl)) h50 h57 (by rw [ho62]; rfl))] | rw [show chk t M n k ms mi it = (some k, it) from by (first | exact chk_sg h18 h35 h39 | exact chk_nm h18 (by first | (rw [h35]; rfl) | (rw [h39]; cases sg (t k) <;> rfl)) h50 | exact chk_oo h18 (by first | (rw [h35]; rfl) | (rw [h39]; cases sg (t k) <;> rfl)) h50 h57 (by omega) h117 h134 | exact chk_ob h18 (by first | (rw [h35]; rfl) | (rw [h39]; cases sg (t k) <;> rfl)) h50 h57 (by first | (rw [decide_eq_false (by omega)]; rfl) | (rw [h117]; simp; done) | (rw [h134]; simp; done)) | exact chk_mo h18 (by first | (rw [h35]; rfl) | (rw [h39]; cases sg (t k) <;> rfl)) h50 h57 (by rw [ho62]; rfl) | exact chk_mb h18 (by first | (rw [h35]; rfl) | (rw [h39]; cases sg (t k) <;> rfl)) h50 h57 (by rw [ho62]; rfl))]))
    · refine ev_iload_n dX6_check_183 rfl 2 rfl ?_
      refine ev_ifb_eq (tgt := 192) dX6_check_184 (by decide) (fun h184 => ?_) (fun h184 => ?_)
      · refine ev_aload_n dX6_check_192 rfl 0 rfl ?_
        refine ev_getI dX6_check_193 C_X6 L_X6_133 (by decide) (by decide) sh_77 rfl ?_
        refine ev_top (v := σ 77 4) (by first | rfl | (simp only [av_set, cpS]; (repeat' split) <;> first | rfl | (exfalso; omega))) ?_
        refine ev_top (v := nI n) hn ?_
        exact ev_ireturn dX6_check_196 rfl rfl (leafI hQ (by rw [chk_end h18]; simp [oJ, h180, h18, h180, h184]) (by first | rw [chk_end h18] | rw [show chk t M n k ms mi it = (some (k + 1), it) from by (first | exact chk_sg h18 h35 h39 | exact chk_nm h18 (by first | (rw [h35]; rfl) | (rw [h39]; cases sg (t k) <;> rfl)) h50 | exact chk_oo h18 (by first | (rw [h35]; rfl) | (rw [h39]; cases sg (t k) <;> rfl)) h50 h57 (by omega) h117 h134 | exact chk_ob h18 (by first | (rw [h35]; rfl) | (rw [h39]; cases sg (t k) <;> rfl)) h50 h57 (by first | (rw [decide_eq_false (by omega)]; rfl) | (rw [h117]; simp; done) | (rw [h134]; simp; done)) | exact chk_mo h18 (by first | (rw [h35]; rfl) | (rw [h39]; cases sg (t k) <;> rfl)) h50 h57 (by rw [ho62]; rfl) | exact chk_mb h18 (by first | (rw [h35]; rfl) | (rw [h39]; cases sg (t k) <;> rfl)) h50 h57 (by rw [ho62]; rfl))] | rw [show chk t M n k ms mi it = (some k, it) from by (first | exact chk_sg h18 h35 h39 | exact chk_nm h18 (by first | (rw [h35]; rfl) | (rw [h39]; cases sg (t k) <;> rfl)) h50 | exact chk_oo h18 (by first | (rw [h35]; rfl) | (rw [h39]; cases sg (t k) <;> rfl)) h50 h57 (by omega) h117 h134 | exact chk_ob h18 (by first | (rw [h35]; rfl) | (rw [h39]; cases sg (t k) <;> rfl)) h50 h57 (by first | (rw [decide_eq_false (by omega)]; rfl) | (rw [h117]; simp; done) | (rw [h134]; simp; done)) | exact chk_mo h18 (by first | (rw [h35]; rfl) | (rw [h39]; cases sg (t k) <;> rfl)) h50 h57 (by rw [ho62]; rfl) | exact chk_mb h18 (by first | (rw [h35]; rfl) | (rw [h39]; cases sg (t k) <;> rfl)) h50 h57 (by rw [ho62]; rfl))]))
      · refine ev_bipush dX6_check_187 (v := (-9)) (by decide) ?_
        refine ev_goto (tgt := 196) dX6_check_189 (by decide) ?_
        exact ev_ireturn dX6_check_196 rfl rfl (leafI hQ (by rw [chk_end h18]; simp [oJ, h180, h18, h180, h184]) (by first | rw [chk_end h18] | rw [show chk t M n k ms mi it = (some (k + 1), it) from by (first | exact chk_sg h18 h35 h39 | exact chk_nm h18 (by first | (rw [h35]; rfl) | (rw [h39]; cases sg (t k) <;> rfl)) h50 | exact chk_oo h18 (by first | (rw [h35]; rfl) | (rw [h39]; cases sg (t k) <;> rfl)) h50 h57 (by omega) h117 h134 | exact chk_ob h18 (by first | (rw [h35]; rfl) | (rw [h39]; cases sg (t k) <;> rfl)) h50 h57 (by first | (rw [decide_eq_false (by omega)]; rfl) | (rw [h117]; simp; done) | (rw [h134]; simp; done)) | exact chk_mo h18 (by first | (rw [h35]; rfl) | (rw [h39]; cases sg (t k) <;> rfl)) h50 h57 (by rw [ho62]; rfl) | exact chk_mb h18 (by first | (rw [h35]; rfl) | (rw [h39]; cases sg (t k) <;> rfl)) h50 h57 (by rw [ho62]; rfl))] | rw [show chk t M n k ms mi it = (some k, it) from by (first | exact chk_sg h18 h35 h39 | exact chk_nm h18 (by first | (rw [h35]; rfl) | (rw [h39]; cases sg (t k) <;> rfl)) h50 | exact chk_oo h18 (by first | (rw [h35]; rfl) | (rw [h39]; cases sg (t k) <;> rfl)) h50 h57 (by omega) h117 h134 | exact chk_ob h18 (by first | (rw [h35]; rfl) | (rw [h39]; cases sg (t k) <;> rfl)) h50 h57 (by first | (rw [decide_eq_false (by omega)]; rfl) | (rw [h117]; simp; done) | (rw [h134]; simp; done)) | exact chk_mo h18 (by first | (rw [h35]; rfl) | (rw [h39]; cases sg (t k) <;> rfl)) h50 h57 (by rw [ho62]; rfl) | exact chk_mb h18 (by first | (rw [h35]; rfl) | (rw [h39]; cases sg (t k) <;> rfl)) h50 h57 (by rw [ho62]; rfl))]))
  · refine ev_aload_n dX6_check_21 rfl 0 rfl ?_
    refine ev_getR dX6_check_22 C_X6 L_X6_16 (by decide) (by decide) sh_77 rfl ?_
    refine ev_iload dX6_check_25 4 rfl ?_
    refine ev_iald (e := k) (v := σ 80 k) dX6_check_27 (by decide) sh_80 (by omega) (by decide) (by first | rfl | (simp only [av_set, cpS]; (repeat' split) <;> first | rfl | (exfalso; omega))) ?_
    refine ev_top (v := nI (t k)) (ht k (by omega)).1 ?_
    refine ev_istore (lv' := [(5, .int (nI (t k))), (0, .ref 77), (1, .int M), (2, .int (b2i ms)), (3, .int (b2i mi)), (4, .int (nI k))]) dX6_check_28 (by decide) rfl ?_
    have ht9 := (ht k (by omega)).2
    refine ev_iload dX6_check_30 0 rfl ?_
    refine ev_callSi (x := b2i (sg (t k))) dX6_check_32 (Or.inl M_X6_139) Y_X6_isSign [.int (nI (t k))] (c_X6_isSign (t k) (by omega)) (by decide) (Nat.le_of_ble_eq_true rfl) rfl rfl (Nat.le_of_ble_eq_true rfl) ?_
    refine ev_ifb_eq (tgt := 49) dX6_check_35 (by decide) (fun h35 => ?_) (fun h35 => ?_)
    · refine ev_iload_n dX6_check_49 rfl 4 rfl ?_
      refine ev_ifb_eq (tgt := 167) dX6_check_50 (by decide) (fun h50 => ?_) (fun h50 => ?_)
      · refine ev_iload dX6_check_167 5 rfl ?_
        exact ev_ireturn dX6_check_169 rfl rfl (leafI hQ (by rw [show chk t M n k ms mi it = (some k, it) from by (first | exact chk_sg h18 h35 h39 | exact chk_nm h18 (by first | (rw [h35]; rfl) | (rw [h39]; cases sg (t k) <;> rfl)) h50 | exact chk_oo h18 (by first | (rw [h35]; rfl) | (rw [h39]; cases sg (t k) <;> rfl)) h50 h57 (by omega) h117 h134 | exact chk_ob h18 (by first | (rw [h35]; rfl) | (rw [h39]; cases sg (t k) <;> rfl)) h50 h57 (by first | (rw [decide_eq_false (by omega)]; rfl) | (rw [h117]; simp; done) | (rw [h134]; simp; done)) | exact chk_mo h18 (by first | (rw [h35]; rfl) | (rw [h39]; cases sg (t k) <;> rfl)) h50 h57 (by rw [ho62]; rfl) | exact chk_mb h18 (by first | (rw [h35]; rfl) | (rw [h39]; cases sg (t k) <;> rfl)) h50 h57 (by rw [ho62]; rfl))]; rfl) (by first | rw [chk_end h18] | rw [show chk t M n k ms mi it = (some (k + 1), it) from by (first | exact chk_sg h18 h35 h39 | exact chk_nm h18 (by first | (rw [h35]; rfl) | (rw [h39]; cases sg (t k) <;> rfl)) h50 | exact chk_oo h18 (by first | (rw [h35]; rfl) | (rw [h39]; cases sg (t k) <;> rfl)) h50 h57 (by omega) h117 h134 | exact chk_ob h18 (by first | (rw [h35]; rfl) | (rw [h39]; cases sg (t k) <;> rfl)) h50 h57 (by first | (rw [decide_eq_false (by omega)]; rfl) | (rw [h117]; simp; done) | (rw [h134]; simp; done)) | exact chk_mo h18 (by first | (rw [h35]; rfl) | (rw [h39]; cases sg (t k) <;> rfl)) h50 h57 (by rw [ho62]; rfl) | exact chk_mb h18 (by first | (rw [h35]; rfl) | (rw [h39]; cases sg (t k) <;> rfl)) h50 h57 (by rw [ho62]; rfl))] | rw [show chk t M n k ms mi it = (some k, it) from by (first | exact chk_sg h18 h35 h39 | exact chk_nm h18 (by first | (rw [h35]; rfl) | (rw [h39]; cases sg (t k) <;> rfl)) h50 | exact chk_oo h18 (by first | (rw [h35]; rfl) | (rw [h39]; cases sg (t k) <;> rfl)) h50 h57 (by omega) h117 h134 | exact chk_ob h18 (by first | (rw [h35]; rfl) | (rw [h39]; cases sg (t k) <;> rfl)) h50 h57 (by first | (rw [decide_eq_false (by omega)]; rfl) | (rw [h117]; simp; done) | (rw [h134]; simp; done)) | exact chk_mo h18 (by first | (rw [h35]; rfl) | (rw [h39]; cases sg (t k) <;> rfl)) h50 h57 (by rw [ho62]; rfl) | exact chk_mb h18 (by first | (rw [h35]; rfl) | (rw [h39]; cases sg (t k) <;> rfl)) h50 h57 (by rw [ho62]; rfl))]))
      · refine ev_iload dX6_check_53 0 rfl ?_
        refine ev_bipush dX6_check_55 (v := nI 111) (by decide) ?_
        refine ev_ncmp_eq (tgt := 70) dX6_check_57 (by decide) (by omega) (by omega) (fun h57 => ?_) (fun h57 => ?_)
        · refine ev_iload dX6_check_70 5 rfl ?_
          refine ev_iload dX6_check_72 0 rfl ?_
          refine ev_bipush dX6_check_74 (v := nI 111) (by decide) ?_
          refine ev_ncmp_ne (tgt := 83) dX6_check_76 (by decide) (by omega) (by omega) (fun h76 => ?_) (fun h76 => ?_)
          · exact absurd h76 (by omega)
          · refine ev_iconst dX6_check_79 (v := nI 1) (by decide) ?_
            refine ev_goto (tgt := 84) dX6_check_80 (by decide) ?_
            refine ev_iadd dX6_check_84 ?_
            refine ev_top (v := nI (k + 1)) (nI_add _ _) ?_
            refine ev_istore (lv' := [(4, .int (nI (k + 1))), (5, .int (nI (t k))), (0, .ref 77), (1, .int M), (2, .int (b2i ms)), (3, .int (b2i mi))]) dX6_check_85 (by decide) rfl ?_
            refine ev_iload dX6_check_87 1 rfl ?_
            refine ev_bipush dX6_check_89 (v := nI 111) (by decide) ?_
            refine ev_ncmp_ne (tgt := 137) dX6_check_91 (by decide) (by omega) (by omega) (fun h91 => ?_) (fun h91 => ?_)
            · exact absurd h91 (by omega)
            · refine ev_iload dX6_check_94 0 rfl ?_
              refine ev_aload_n dX6_check_96 rfl 2 rfl ?_
              refine ev_getI dX6_check_97 C_X6 L_X6_133 (by decide) (by decide) sh_77 rfl ?_
              refine ev_top (v := σ 77 4) (by first | rfl | (simp only [av_set, cpS]; (repeat' split) <;> first | rfl | (exfalso; omega))) ?_
              refine ev_top (v := nI n) hn ?_
              refine ev_ncmp_ge (tgt := 141) dX6_check_100 (by decide) (by omega) (by omega) (fun h100 => ?_) (fun h100 => ?_)
              · refine ev_iconst dX6_check_141 (v := nI 0) (by decide) ?_
                refine ev_istore (lv' := [(6, .int (nI 0)), (4, .int (nI (k + 1))), (5, .int (nI (t k))), (0, .ref 77), (1, .int M), (2, .int (b2i ms)), (3, .int (b2i mi))]) dX6_check_142 (by decide) rfl ?_
                refine ev_iload dX6_check_144 0 rfl ?_
                refine ev_nif_ne (tgt := 152) dX6_check_146 (by decide) (by omega) (fun h146 => ?_) (fun h146 => ?_)
                · exact absurd h146 (by omega)
                · refine ev_iload dX6_check_149 1 rfl ?_
                  exact ev_ireturn dX6_check_151 rfl rfl (leafI hQ (by rw [show chk t M n k ms mi it = (some (k + 1), it) from by (first | exact chk_sg h18 h35 h39 | exact chk_nm h18 (by first | (rw [h35]; rfl) | (rw [h39]; cases sg (t k) <;> rfl)) h50 | exact chk_oo h18 (by first | (rw [h35]; rfl) | (rw [h39]; cases sg (t k) <;> rfl)) h50 h57 (by omega) h117 h134 | exact chk_ob h18 (by first | (rw [h35]; rfl) | (rw [h39]; cases sg (t k) <;> rfl)) h50 h57 (by first | (rw [decide_eq_false (by omega)]; rfl) | (rw [h117]; simp; done) | (rw [h134]; simp; done)) | exact chk_mo h18 (by first | (rw [h35]; rfl) | (rw [h39]; cases sg (t k) <;> rfl)) h50 h57 (by rw [ho62]; rfl) | exact chk_mb h18 (by first | (rw [h35]; rfl) | (rw [h39]; cases sg (t k) <;> rfl)) h50 h57 (by rw [ho62]; rfl))]; rfl) (by first | rw [chk_end h18] | rw [show chk t M n k ms mi it = (some (k + 1), it) from by (first | exact chk_sg h18 h35 h39 | exact chk_nm h18 (by first | (rw [h35]; rfl) | (rw [h39]; cases sg (t k) <;> rfl)) h50 | exact chk_oo h18 (by first | (rw [h35]; rfl) | (rw [h39]; cases sg (t k) <;> rfl)) h50 h57 (by omega) h117 h134 | exact chk_ob h18 (by first | (rw [h35]; rfl) | (rw [h39]; cases sg (t k) <;> rfl)) h50 h57 (by first | (rw [decide_eq_false (by omega)]; rfl) | (rw [h117]; simp; done) | (rw [h134]; simp; done)) | exact chk_mo h18 (by first | (rw [h35]; rfl) | (rw [h39]; cases sg (t k) <;> rfl)) h50 h57 (by rw [ho62]; rfl) | exact chk_mb h18 (by first | (rw [h35]; rfl) | (rw [h39]; cases sg (t k) <;> rfl)) h50 h57 (by rw [ho62]; rfl))] | rw [show chk t M n k ms mi it = (some k, it) from by (first | exact chk_sg h18 h35 h39 | exact chk_nm h18 (by first | (rw [h35]; rfl) | (rw [h39]; cases sg (t k) <;> rfl)) h50 | exact chk_oo h18 (by first | (rw [h35]; rfl) | (rw [h39]; cases sg (t k) <;> rfl)) h50 h57 (by omega) h117 h134 | exact chk_ob h18 (by first | (rw [h35]; rfl) | (rw [h39]; cases sg (t k) <;> rfl)) h50 h57 (by first | (rw [decide_eq_false (by omega)]; rfl) | (rw [h117]; simp; done) | (rw [h134]; simp; done)) | exact chk_mo h18 (by first | (rw [h35]; rfl) | (rw [h39]; cases sg (t k) <;> rfl)) h50 h57 (by rw [ho62]; rfl) | exact chk_mb h18 (by first | (rw [h35]; rfl) | (rw [h39]; cases sg (t k) <;> rfl)) h50 h57 (by rw [ho62]; rfl))]))
              · refine ev_aload_n dX6_check_103 rfl 2 rfl ?_
                refine ev_getR dX6_check_104 C_X6 L_X6_16 (by decide) (by decide) sh_77 rfl ?_
                refine ev_iload dX6_check_107 0 rfl ?_
                refine ev_iald (e := k + 1) (v := σ 80 (k + 1)) dX6_check_109 (by decide) sh_80 (by omega) (by decide) (by first | rfl | (simp only [av_set, cpS]; (repeat' split) <;> first | rfl | (exfalso; omega))) ?_
                refine ev_top (v := nI (t (k + 1))) (ht (k + 1) (by omega)).1 ?_
                have ht8 := (ht (k + 1) (by omega)).2
                refine ev_bipush dX6_check_110 (v := nI 48) (by decide) ?_
                refine ev_bipush dX6_check_112 (v := nI 57) (by decide) ?_
                refine ev_callSi (x := b2i (inb (nI (t (k + 1))) (nI 48) (nI 57))) dX6_check_114 (Or.inl M_X6_42) Y_X6_in [.int (nI (t (k + 1))), .int (nI 48), .int (nI 57)] (c_X6_in (nI (t (k + 1))) (nI 48) (nI 57) ) (by decide) (Nat.le_of_ble_eq_true rfl) rfl rfl (Nat.le_of_ble_eq_true rfl) ?_
                refine ev_top (v := b2i (dg (t (k + 1)))) (congrArg b2i (inb_dg (by omega))) ?_
                refine ev_ifb_eq (tgt := 141) dX6_check_117 (by decide) (fun h117 => ?_) (fun h117 => ?_)
                · refine ev_iconst dX6_check_141 (v := nI 0) (by decide) ?_
                  refine ev_istore (lv' := [(6, .int (nI 0)), (4, .int (nI (k + 1))), (5, .int (nI (t k))), (0, .ref 77), (1, .int M), (2, .int (b2i ms)), (3, .int (b2i mi))]) dX6_check_142 (by decide) rfl ?_
                  refine ev_iload dX6_check_144 0 rfl ?_
                  refine ev_nif_ne (tgt := 152) dX6_check_146 (by decide) (by omega) (fun h146 => ?_) (fun h146 => ?_)
                  · exact absurd h146 (by omega)
                  · refine ev_iload dX6_check_149 1 rfl ?_
                    exact ev_ireturn dX6_check_151 rfl rfl (leafI hQ (by rw [show chk t M n k ms mi it = (some (k + 1), it) from by (first | exact chk_sg h18 h35 h39 | exact chk_nm h18 (by first | (rw [h35]; rfl) | (rw [h39]; cases sg (t k) <;> rfl)) h50 | exact chk_oo h18 (by first | (rw [h35]; rfl) | (rw [h39]; cases sg (t k) <;> rfl)) h50 h57 (by omega) h117 h134 | exact chk_ob h18 (by first | (rw [h35]; rfl) | (rw [h39]; cases sg (t k) <;> rfl)) h50 h57 (by first | (rw [decide_eq_false (by omega)]; rfl) | (rw [h117]; simp; done) | (rw [h134]; simp; done)) | exact chk_mo h18 (by first | (rw [h35]; rfl) | (rw [h39]; cases sg (t k) <;> rfl)) h50 h57 (by rw [ho62]; rfl) | exact chk_mb h18 (by first | (rw [h35]; rfl) | (rw [h39]; cases sg (t k) <;> rfl)) h50 h57 (by rw [ho62]; rfl))]; rfl) (by first | rw [chk_end h18] | rw [show chk t M n k ms mi it = (some (k + 1), it) from by (first | exact chk_sg h18 h35 h39 | exact chk_nm h18 (by first | (rw [h35]; rfl) | (rw [h39]; cases sg (t k) <;> rfl)) h50 | exact chk_oo h18 (by first | (rw [h35]; rfl) | (rw [h39]; cases sg (t k) <;> rfl)) h50 h57 (by omega) h117 h134 | exact chk_ob h18 (by first | (rw [h35]; rfl) | (rw [h39]; cases sg (t k) <;> rfl)) h50 h57 (by first | (rw [decide_eq_false (by omega)]; rfl) | (rw [h117]; simp; done) | (rw [h134]; simp; done)) | exact chk_mo h18 (by first | (rw [h35]; rfl) | (rw [h39]; cases sg (t k) <;> rfl)) h50 h57 (by rw [ho62]; rfl) | exact chk_mb h18 (by first | (rw [h35]; rfl) | (rw [h39]; cases sg (t k) <;> rfl)) h50 h57 (by rw [ho62]; rfl))] | rw [show chk t M n k ms mi it = (some k, it) from by (first | exact chk_sg h18 h35 h39 | exact chk_nm h18 (by first | (rw [h35]; rfl) | (rw [h39]; cases sg (t k) <;> rfl)) h50 | exact chk_oo h18 (by first | (rw [h35]; rfl) | (rw [h39]; cases sg (t k) <;> rfl)) h50 h57 (by omega) h117 h134 | exact chk_ob h18 (by first | (rw [h35]; rfl) | (rw [h39]; cases sg (t k) <;> rfl)) h50 h57 (by first | (rw [decide_eq_false (by omega)]; rfl) | (rw [h117]; simp; done) | (rw [h134]; simp; done)) | exact chk_mo h18 (by first | (rw [h35]; rfl) | (rw [h39]; cases sg (t k) <;> rfl)) h50 h57 (by rw [ho62]; rfl) | exact chk_mb h18 (by first | (rw [h35]; rfl) | (rw [h39]; cases sg (t k) <;> rfl)) h50 h57 (by rw [ho62]; rfl))]))
                · have hd9 := dg_ge h117
                  refine ev_iload_n dX6_check_120 rfl 3 rfl ?_
                  refine ev_aload_n dX6_check_121 rfl 2 rfl ?_
                  refine ev_getR dX6_check_122 C_X6 L_X6_16 (by decide) (by decide) sh_77 rfl ?_
                  refine ev_iload dX6_check_125 0 rfl ?_
                  refine ev_iald (e := k + 1) (v := σ 80 (k + 1)) dX6_check_127 (by decide) sh_80 (by omega) (by decide) (by first | rfl | (simp only [av_set, cpS]; (repeat' split) <;> first | rfl | (exfalso; omega))) ?_
                  refine ev_top (v := nI (t (k + 1))) (ht (k + 1) (by omega)).1 ?_
                  refine ev_bipush dX6_check_128 (v := nI 48) (by decide) ?_
                  refine ev_isub dX6_check_130 ?_
                  refine ev_top (v := nI (t (k + 1) - 48)) (pk_sub (by omega)) ?_
                  refine ev_callSi (x := b2i (tb M (t (k + 1) - 48))) dX6_check_131 (Or.inl M_X6_50) Y_X6_has [.int M, .int (nI (t (k + 1) - 48))] (c_X6_has M (t (k + 1) - 48) (by omega)) (by decide) (Nat.le_of_ble_eq_true rfl) rfl rfl (Nat.le_of_ble_eq_true rfl) ?_
                  refine ev_ifb_eq (tgt := 141) dX6_check_134 (by decide) (fun h134 => ?_) (fun h134 => ?_)
                  · refine ev_iconst dX6_check_141 (v := nI 0) (by decide) ?_
                    refine ev_istore (lv' := [(6, .int (nI 0)), (4, .int (nI (k + 1))), (5, .int (nI (t k))), (0, .ref 77), (1, .int M), (2, .int (b2i ms)), (3, .int (b2i mi))]) dX6_check_142 (by decide) rfl ?_
                    refine ev_iload dX6_check_144 0 rfl ?_
                    refine ev_nif_ne (tgt := 152) dX6_check_146 (by decide) (by omega) (fun h146 => ?_) (fun h146 => ?_)
                    · exact absurd h146 (by omega)
                    · refine ev_iload dX6_check_149 1 rfl ?_
                      exact ev_ireturn dX6_check_151 rfl rfl (leafI hQ (by rw [show chk t M n k ms mi it = (some (k + 1), it) from by (first | exact chk_sg h18 h35 h39 | exact chk_nm h18 (by first | (rw [h35]; rfl) | (rw [h39]; cases sg (t k) <;> rfl)) h50 | exact chk_oo h18 (by first | (rw [h35]; rfl) | (rw [h39]; cases sg (t k) <;> rfl)) h50 h57 (by omega) h117 h134 | exact chk_ob h18 (by first | (rw [h35]; rfl) | (rw [h39]; cases sg (t k) <;> rfl)) h50 h57 (by first | (rw [decide_eq_false (by omega)]; rfl) | (rw [h117]; simp; done) | (rw [h134]; simp; done)) | exact chk_mo h18 (by first | (rw [h35]; rfl) | (rw [h39]; cases sg (t k) <;> rfl)) h50 h57 (by rw [ho62]; rfl) | exact chk_mb h18 (by first | (rw [h35]; rfl) | (rw [h39]; cases sg (t k) <;> rfl)) h50 h57 (by rw [ho62]; rfl))]; rfl) (by first | rw [chk_end h18] | rw [show chk t M n k ms mi it = (some (k + 1), it) from by (first | exact chk_sg h18 h35 h39 | exact chk_nm h18 (by first | (rw [h35]; rfl) | (rw [h39]; cases sg (t k) <;> rfl)) h50 | exact chk_oo h18 (by first | (rw [h35]; rfl) | (rw [h39]; cases sg (t k) <;> rfl)) h50 h57 (by omega) h117 h134 | exact chk_ob h18 (by first | (rw [h35]; rfl) | (rw [h39]; cases sg (t k) <;> rfl)) h50 h57 (by first | (rw [decide_eq_false (by omega)]; rfl) | (rw [h117]; simp; done) | (rw [h134]; simp; done)) | exact chk_mo h18 (by first | (rw [h35]; rfl) | (rw [h39]; cases sg (t k) <;> rfl)) h50 h57 (by rw [ho62]; rfl) | exact chk_mb h18 (by first | (rw [h35]; rfl) | (rw [h39]; cases sg (t k) <;> rfl)) h50 h57 (by rw [ho62]; rfl))] | rw [show chk t M n k ms mi it = (some k, it) from by (first | exact chk_sg h18 h35 h39 | exact chk_nm h18 (by first | (rw [h35]; rfl) | (rw [h39]; cases sg (t k) <;> rfl)) h50 | exact chk_oo h18 (by first | (rw [h35]; rfl) | (rw [h39]; cases sg (t k) <;> rfl)) h50 h57 (by omega) h117 h134 | exact chk_ob h18 (by first | (rw [h35]; rfl) | (rw [h39]; cases sg (t k) <;> rfl)) h50 h57 (by first | (rw [decide_eq_false (by omega)]; rfl) | (rw [h117]; simp; done) | (rw [h134]; simp; done)) | exact chk_mo h18 (by first | (rw [h35]; rfl) | (rw [h39]; cases sg (t k) <;> rfl)) h50 h57 (by rw [ho62]; rfl) | exact chk_mb h18 (by first | (rw [h35]; rfl) | (rw [h39]; cases sg (t k) <;> rfl)) h50 h57 (by rw [ho62]; rfl))]))
                  · refine ev_iconst dX6_check_137 (v := nI 1) (by decide) ?_
                    refine ev_goto (tgt := 142) dX6_check_138 (by decide) ?_
                    refine ev_istore (lv' := [(6, .int (nI 1)), (4, .int (nI (k + 1))), (5, .int (nI (t k))), (0, .ref 77), (1, .int M), (2, .int (b2i ms)), (3, .int (b2i mi))]) dX6_check_142 (by decide) rfl ?_
                    refine ev_iload dX6_check_144 0 rfl ?_
                    refine ev_nif_ne (tgt := 152) dX6_check_146 (by decide) (by omega) (fun h146 => ?_) (fun h146 => ?_)
                    · refine ev_iconst dX6_check_152 (v := nI 1) (by decide) ?_
                      refine ev_istore_n (lv' := [(2, .int (nI 1)), (6, .int (nI 1)), (4, .int (nI (k + 1))), (5, .int (nI (t k))), (0, .ref 77), (1, .int M), (3, .int (b2i mi))]) dX6_check_153 rfl (by decide) rfl ?_
                      refine ev_aload_n dX6_check_154 rfl 4 rfl ?_
                      refine ev_dup_a dX6_check_155 ?_
                      refine ev_getI dX6_check_156 C_X6 L_X6_136 (by decide) (by decide) sh_77 rfl ?_
                      refine ev_top (v := nI it) (by first | rfl | (simp only [av_set, cpS]; (repeat' split) <;> first | rfl | (exfalso; omega))) ?_
                      refine ev_iconst dX6_check_159 (v := nI 1) (by decide) ?_
                      refine ev_iadd dX6_check_160 ?_
                      refine ev_top (v := nI (it + 1)) (nI_add _ _) ?_
                      refine ev_putI dX6_check_161 C_X6 L_X6_136 (by decide) (by decide) sh_77 rfl rfl rfl ?_
                      refine ev_st (σ' := av_set σ 77 (upd (upd (σ 77) 5 (nI it)) 5 (nI (it + 1)))) (by first | rfl | (funext a; by_cases q77 : a = 77; (next => subst q77; rfl); simp only [av_set, q77, if_false]) | exact av_set_set _ _ _ _ | (funext a; unfold av_set; (repeat' split) <;> first | rfl | (exfalso; omega)) | (funext a; simp only [av_set, cpS]; (repeat' split) <;> first | rfl | (exfalso; omega))) ?_
                      refine ev_goto (tgt := 170) dX6_check_164 (by decide) ?_
                      refine ev_iinc (lv' := [(4, .int (nI (k + 1 + 1))), (2, .int (nI 1)), (6, .int (nI 1)), (5, .int (nI (t k))), (0, .ref 77), (1, .int M), (3, .int (b2i mi))]) dX6_check_170 2 rfl (nI_inc (k + 1)) (by decide) rfl ?_
                      refine ev_goto (tgt := 12) dX6_check_173 (by decide) ?_
                      refine ev_lv (lv' := [(0, .ref 77), (1, .int M), (2, .int (nI 1)), (3, .int (b2i mi)), (4, .int (nI (k + 1 + 1)))]) [4, 5, 1, 6, 0] rfl ?_
                      have e9 : chk t M n k ms mi it = chk t M n (k + 1 + 1) true mi (it + 1) := by (first | exact chk_sg h18 h35 h39 | exact chk_nm h18 (by first | (rw [h35]; rfl) | (rw [h39]; cases sg (t k) <;> rfl)) h50 | exact chk_oo h18 (by first | (rw [h35]; rfl) | (rw [h39]; cases sg (t k) <;> rfl)) h50 h57 (by omega) h117 h134 | exact chk_ob h18 (by first | (rw [h35]; rfl) | (rw [h39]; cases sg (t k) <;> rfl)) h50 h57 (by first | (rw [decide_eq_false (by omega)]; rfl) | (rw [h117]; simp; done) | (rw [h134]; simp; done)) | exact chk_mo h18 (by first | (rw [h35]; rfl) | (rw [h39]; cases sg (t k) <;> rfl)) h50 h57 (by rw [ho62]; rfl) | exact chk_mb h18 (by first | (rw [h35]; rfl) | (rw [h39]; cases sg (t k) <;> rfl)) h50 h57 (by rw [ho62]; rfl))
                      rw [e9] at hQ
                      exact ihk (k + 1 + 1) (by omega) (by omega) true mi (it + 1) (by omega) hQ
                    · exact absurd h146 (by omega)
        · refine ev_iload dX6_check_60 0 rfl ?_
          refine ev_callSi (x := oJ (ix (t k))) dX6_check_62 (Or.inl M_X6_142) Y_X6_modeOf [.int (nI (t k))] (c_X6_modeOf (t k) (by omega)) (by decide) (Nat.le_of_ble_eq_true rfl) rfl rfl (Nat.le_of_ble_eq_true rfl) ?_
          rcases ho62 : ix (t k) with _ | u62
          · refine ev_top (v := (-9)) rfl ?_
            refine ev_bipush dX6_check_65 (v := (-9)) (by decide) ?_
            refine ev_icmp_eq (tgt := 167) dX6_check_67 (by decide) (fun h67 => ?_) (fun h67 => ?_)
            · refine ev_iload dX6_check_167 5 rfl ?_
              exact ev_ireturn dX6_check_169 rfl rfl (leafI hQ (by rw [show chk t M n k ms mi it = (some k, it) from by (first | exact chk_sg h18 h35 h39 | exact chk_nm h18 (by first | (rw [h35]; rfl) | (rw [h39]; cases sg (t k) <;> rfl)) h50 | exact chk_oo h18 (by first | (rw [h35]; rfl) | (rw [h39]; cases sg (t k) <;> rfl)) h50 h57 (by omega) h117 h134 | exact chk_ob h18 (by first | (rw [h35]; rfl) | (rw [h39]; cases sg (t k) <;> rfl)) h50 h57 (by first | (rw [decide_eq_false (by omega)]; rfl) | (rw [h117]; simp; done) | (rw [h134]; simp; done)) | exact chk_mo h18 (by first | (rw [h35]; rfl) | (rw [h39]; cases sg (t k) <;> rfl)) h50 h57 (by rw [ho62]; rfl) | exact chk_mb h18 (by first | (rw [h35]; rfl) | (rw [h39]; cases sg (t k) <;> rfl)) h50 h57 (by rw [ho62]; rfl))]; rfl) (by first | rw [chk_end h18] | rw [show chk t M n k ms mi it = (some (k + 1), it) from by (first | exact chk_sg h18 h35 h39 | exact chk_nm h18 (by first | (rw [h35]; rfl) | (rw [h39]; cases sg (t k) <;> rfl)) h50 | exact chk_oo h18 (by first | (rw [h35]; rfl) | (rw [h39]; cases sg (t k) <;> rfl)) h50 h57 (by omega) h117 h134 | exact chk_ob h18 (by first | (rw [h35]; rfl) | (rw [h39]; cases sg (t k) <;> rfl)) h50 h57 (by first | (rw [decide_eq_false (by omega)]; rfl) | (rw [h117]; simp; done) | (rw [h134]; simp; done)) | exact chk_mo h18 (by first | (rw [h35]; rfl) | (rw [h39]; cases sg (t k) <;> rfl)) h50 h57 (by rw [ho62]; rfl) | exact chk_mb h18 (by first | (rw [h35]; rfl) | (rw [h39]; cases sg (t k) <;> rfl)) h50 h57 (by rw [ho62]; rfl))] | rw [show chk t M n k ms mi it = (some k, it) from by (first | exact chk_sg h18 h35 h39 | exact chk_nm h18 (by first | (rw [h35]; rfl) | (rw [h39]; cases sg (t k) <;> rfl)) h50 | exact chk_oo h18 (by first | (rw [h35]; rfl) | (rw [h39]; cases sg (t k) <;> rfl)) h50 h57 (by omega) h117 h134 | exact chk_ob h18 (by first | (rw [h35]; rfl) | (rw [h39]; cases sg (t k) <;> rfl)) h50 h57 (by first | (rw [decide_eq_false (by omega)]; rfl) | (rw [h117]; simp; done) | (rw [h134]; simp; done)) | exact chk_mo h18 (by first | (rw [h35]; rfl) | (rw [h39]; cases sg (t k) <;> rfl)) h50 h57 (by rw [ho62]; rfl) | exact chk_mb h18 (by first | (rw [h35]; rfl) | (rw [h39]; cases sg (t k) <;> rfl)) h50 h57 (by rw [ho62]; rfl))]))
            · exact absurd rfl h67
          · have hu62 : u62 < 6 := ix_lt ho62
            refine ev_top (v := nI u62) rfl ?_
            refine ev_bipush dX6_check_65 (v := (-9)) (by decide) ?_
            refine ev_icmp_eq (tgt := 167) dX6_check_67 (by decide) (fun h67 => ?_) (fun h67 => ?_)
            · exact absurd h67 (nI_neg (by omega) (by decide))
            · refine ev_iload dX6_check_70 5 rfl ?_
              refine ev_iload dX6_check_72 0 rfl ?_
              refine ev_bipush dX6_check_74 (v := nI 111) (by decide) ?_
              refine ev_ncmp_ne (tgt := 83) dX6_check_76 (by decide) (by omega) (by omega) (fun h76 => ?_) (fun h76 => ?_)
              · refine ev_iconst dX6_check_83 (v := nI 0) (by decide) ?_
                refine ev_iadd dX6_check_84 ?_
                refine ev_top (v := nI (k + 0)) (nI_add _ _) ?_
                refine ev_istore (lv' := [(4, .int (nI (k + 0))), (5, .int (nI (t k))), (0, .ref 77), (1, .int M), (2, .int (b2i ms)), (3, .int (b2i mi))]) dX6_check_85 (by decide) rfl ?_
                refine ev_iload dX6_check_87 1 rfl ?_
                refine ev_bipush dX6_check_89 (v := nI 111) (by decide) ?_
                refine ev_ncmp_ne (tgt := 137) dX6_check_91 (by decide) (by omega) (by omega) (fun h91 => ?_) (fun h91 => ?_)
                · refine ev_iconst dX6_check_137 (v := nI 1) (by decide) ?_
                  refine ev_goto (tgt := 142) dX6_check_138 (by decide) ?_
                  refine ev_istore (lv' := [(6, .int (nI 1)), (4, .int (nI (k + 0))), (5, .int (nI (t k))), (0, .ref 77), (1, .int M), (2, .int (b2i ms)), (3, .int (b2i mi))]) dX6_check_142 (by decide) rfl ?_
                  refine ev_iload dX6_check_144 0 rfl ?_
                  refine ev_nif_ne (tgt := 152) dX6_check_146 (by decide) (by omega) (fun h146 => ?_) (fun h146 => ?_)
                  · refine ev_iconst dX6_check_152 (v := nI 1) (by decide) ?_
                    refine ev_istore_n (lv' := [(2, .int (nI 1)), (6, .int (nI 1)), (4, .int (nI (k + 0))), (5, .int (nI (t k))), (0, .ref 77), (1, .int M), (3, .int (b2i mi))]) dX6_check_153 rfl (by decide) rfl ?_
                    refine ev_aload_n dX6_check_154 rfl 4 rfl ?_
                    refine ev_dup_a dX6_check_155 ?_
                    refine ev_getI dX6_check_156 C_X6 L_X6_136 (by decide) (by decide) sh_77 rfl ?_
                    refine ev_top (v := nI it) (by first | rfl | (simp only [av_set, cpS]; (repeat' split) <;> first | rfl | (exfalso; omega))) ?_
                    refine ev_iconst dX6_check_159 (v := nI 1) (by decide) ?_
                    refine ev_iadd dX6_check_160 ?_
                    refine ev_top (v := nI (it + 1)) (nI_add _ _) ?_
                    refine ev_putI dX6_check_161 C_X6 L_X6_136 (by decide) (by decide) sh_77 rfl rfl rfl ?_
                    refine ev_st (σ' := av_set σ 77 (upd (upd (σ 77) 5 (nI it)) 5 (nI (it + 1)))) (by first | rfl | (funext a; by_cases q77 : a = 77; (next => subst q77; rfl); simp only [av_set, q77, if_false]) | exact av_set_set _ _ _ _ | (funext a; unfold av_set; (repeat' split) <;> first | rfl | (exfalso; omega)) | (funext a; simp only [av_set, cpS]; (repeat' split) <;> first | rfl | (exfalso; omega))) ?_
                    refine ev_goto (tgt := 170) dX6_check_164 (by decide) ?_
                    refine ev_iinc (lv' := [(4, .int (nI (k + 0 + 1))), (2, .int (nI 1)), (6, .int (nI 1)), (5, .int (nI (t k))), (0, .ref 77), (1, .int M), (3, .int (b2i mi))]) dX6_check_170 2 rfl (nI_inc (k + 0)) (by decide) rfl ?_
                    refine ev_goto (tgt := 12) dX6_check_173 (by decide) ?_
                    refine ev_lv (lv' := [(0, .ref 77), (1, .int M), (2, .int (nI 1)), (3, .int (b2i mi)), (4, .int (nI (k + 0 + 1)))]) [4, 5, 1, 6, 0] rfl ?_
                    have e9 : chk t M n k ms mi it = chk t M n (k + 0 + 1) true mi (it + 1) := by (first | exact chk_sg h18 h35 h39 | exact chk_nm h18 (by first | (rw [h35]; rfl) | (rw [h39]; cases sg (t k) <;> rfl)) h50 | exact chk_oo h18 (by first | (rw [h35]; rfl) | (rw [h39]; cases sg (t k) <;> rfl)) h50 h57 (by omega) h117 h134 | exact chk_ob h18 (by first | (rw [h35]; rfl) | (rw [h39]; cases sg (t k) <;> rfl)) h50 h57 (by first | (rw [decide_eq_false (by omega)]; rfl) | (rw [h117]; simp; done) | (rw [h134]; simp; done)) | exact chk_mo h18 (by first | (rw [h35]; rfl) | (rw [h39]; cases sg (t k) <;> rfl)) h50 h57 (by rw [ho62]; rfl) | exact chk_mb h18 (by first | (rw [h35]; rfl) | (rw [h39]; cases sg (t k) <;> rfl)) h50 h57 (by rw [ho62]; rfl))
                    rw [e9] at hQ
                    exact ihk (k + 0 + 1) (by omega) (by omega) true mi (it + 1) (by omega) hQ
                  · exact absurd h146 (by omega)
                · exact absurd h91 (by omega)
              · exact absurd h76 (by omega)
    · refine ev_iload_n dX6_check_38 rfl 3 rfl ?_
      refine ev_ifb_eq (tgt := 49) dX6_check_39 (by decide) (fun h39 => ?_) (fun h39 => ?_)
      · refine ev_iload_n dX6_check_49 rfl 4 rfl ?_
        refine ev_ifb_eq (tgt := 167) dX6_check_50 (by decide) (fun h50 => ?_) (fun h50 => ?_)
        · refine ev_iload dX6_check_167 5 rfl ?_
          exact ev_ireturn dX6_check_169 rfl rfl (leafI hQ (by rw [show chk t M n k ms mi it = (some k, it) from by (first | exact chk_sg h18 h35 h39 | exact chk_nm h18 (by first | (rw [h35]; rfl) | (rw [h39]; cases sg (t k) <;> rfl)) h50 | exact chk_oo h18 (by first | (rw [h35]; rfl) | (rw [h39]; cases sg (t k) <;> rfl)) h50 h57 (by omega) h117 h134 | exact chk_ob h18 (by first | (rw [h35]; rfl) | (rw [h39]; cases sg (t k) <;> rfl)) h50 h57 (by first | (rw [decide_eq_false (by omega)]; rfl) | (rw [h117]; simp; done) | (rw [h134]; simp; done)) | exact chk_mo h18 (by first | (rw [h35]; rfl) | (rw [h39]; cases sg (t k) <;> rfl)) h50 h57 (by rw [ho62]; rfl) | exact chk_mb h18 (by first | (rw [h35]; rfl) | (rw [h39]; cases sg (t k) <;> rfl)) h50 h57 (by rw [ho62]; rfl))]; rfl) (by first | rw [chk_end h18] | rw [show chk t M n k ms mi it = (some (k + 1), it) from by (first | exact chk_sg h18 h35 h39 | exact chk_nm h18 (by first | (rw [h35]; rfl) | (rw [h39]; cases sg (t k) <;> rfl)) h50 | exact chk_oo h18 (by first | (rw [h35]; rfl) | (rw [h39]; cases sg (t k) <;> rfl)) h50 h57 (by omega) h117 h134 | exact chk_ob h18 (by first | (rw [h35]; rfl) | (rw [h39]; cases sg (t k) <;> rfl)) h50 h57 (by first | (rw [decide_eq_false (by omega)]; rfl) | (rw [h117]; simp; done) | (rw [h134]; simp; done)) | exact chk_mo h18 (by first | (rw [h35]; rfl) | (rw [h39]; cases sg (t k) <;> rfl)) h50 h57 (by rw [ho62]; rfl) | exact chk_mb h18 (by first | (rw [h35]; rfl) | (rw [h39]; cases sg (t k) <;> rfl)) h50 h57 (by rw [ho62]; rfl))] | rw [show chk t M n k ms mi it = (some k, it) from by (first | exact chk_sg h18 h35 h39 | exact chk_nm h18 (by first | (rw [h35]; rfl) | (rw [h39]; cases sg (t k) <;> rfl)) h50 | exact chk_oo h18 (by first | (rw [h35]; rfl) | (rw [h39]; cases sg (t k) <;> rfl)) h50 h57 (by omega) h117 h134 | exact chk_ob h18 (by first | (rw [h35]; rfl) | (rw [h39]; cases sg (t k) <;> rfl)) h50 h57 (by first | (rw [decide_eq_false (by omega)]; rfl) | (rw [h117]; simp; done) | (rw [h134]; simp; done)) | exact chk_mo h18 (by first | (rw [h35]; rfl) | (rw [h39]; cases sg (t k) <;> rfl)) h50 h57 (by rw [ho62]; rfl) | exact chk_mb h18 (by first | (rw [h35]; rfl) | (rw [h39]; cases sg (t k) <;> rfl)) h50 h57 (by rw [ho62]; rfl))]))
        · refine ev_iload dX6_check_53 0 rfl ?_
          refine ev_bipush dX6_check_55 (v := nI 111) (by decide) ?_
          refine ev_ncmp_eq (tgt := 70) dX6_check_57 (by decide) (by omega) (by omega) (fun h57 => ?_) (fun h57 => ?_)
          · refine ev_iload dX6_check_70 5 rfl ?_
            refine ev_iload dX6_check_72 0 rfl ?_
            refine ev_bipush dX6_check_74 (v := nI 111) (by decide) ?_
            refine ev_ncmp_ne (tgt := 83) dX6_check_76 (by decide) (by omega) (by omega) (fun h76 => ?_) (fun h76 => ?_)
            · exact absurd h76 (by omega)
            · refine ev_iconst dX6_check_79 (v := nI 1) (by decide) ?_
              refine ev_goto (tgt := 84) dX6_check_80 (by decide) ?_
              refine ev_iadd dX6_check_84 ?_
              refine ev_top (v := nI (k + 1)) (nI_add _ _) ?_
              refine ev_istore (lv' := [(4, .int (nI (k + 1))), (5, .int (nI (t k))), (0, .ref 77), (1, .int M), (2, .int (b2i ms)), (3, .int (b2i mi))]) dX6_check_85 (by decide) rfl ?_
              refine ev_iload dX6_check_87 1 rfl ?_
              refine ev_bipush dX6_check_89 (v := nI 111) (by decide) ?_
              refine ev_ncmp_ne (tgt := 137) dX6_check_91 (by decide) (by omega) (by omega) (fun h91 => ?_) (fun h91 => ?_)
              · exact absurd h91 (by omega)
              · refine ev_iload dX6_check_94 0 rfl ?_
                refine ev_aload_n dX6_check_96 rfl 2 rfl ?_
                refine ev_getI dX6_check_97 C_X6 L_X6_133 (by decide) (by decide) sh_77 rfl ?_
                refine ev_top (v := σ 77 4) (by first | rfl | (simp only [av_set, cpS]; (repeat' split) <;> first | rfl | (exfalso; omega))) ?_
                refine ev_top (v := nI n) hn ?_
                refine ev_ncmp_ge (tgt := 141) dX6_check_100 (by decide) (by omega) (by omega) (fun h100 => ?_) (fun h100 => ?_)
                · refine ev_iconst dX6_check_141 (v := nI 0) (by decide) ?_
                  refine ev_istore (lv' := [(6, .int (nI 0)), (4, .int (nI (k + 1))), (5, .int (nI (t k))), (0, .ref 77), (1, .int M), (2, .int (b2i ms)), (3, .int (b2i mi))]) dX6_check_142 (by decide) rfl ?_
                  refine ev_iload dX6_check_144 0 rfl ?_
                  refine ev_nif_ne (tgt := 152) dX6_check_146 (by decide) (by omega) (fun h146 => ?_) (fun h146 => ?_)
                  · exact absurd h146 (by omega)
                  · refine ev_iload dX6_check_149 1 rfl ?_
                    exact ev_ireturn dX6_check_151 rfl rfl (leafI hQ (by rw [show chk t M n k ms mi it = (some (k + 1), it) from by (first | exact chk_sg h18 h35 h39 | exact chk_nm h18 (by first | (rw [h35]; rfl) | (rw [h39]; cases sg (t k) <;> rfl)) h50 | exact chk_oo h18 (by first | (rw [h35]; rfl) | (rw [h39]; cases sg (t k) <;> rfl)) h50 h57 (by omega) h117 h134 | exact chk_ob h18 (by first | (rw [h35]; rfl) | (rw [h39]; cases sg (t k) <;> rfl)) h50 h57 (by first | (rw [decide_eq_false (by omega)]; rfl) | (rw [h117]; simp; done) | (rw [h134]; simp; done)) | exact chk_mo h18 (by first | (rw [h35]; rfl) | (rw [h39]; cases sg (t k) <;> rfl)) h50 h57 (by rw [ho62]; rfl) | exact chk_mb h18 (by first | (rw [h35]; rfl) | (rw [h39]; cases sg (t k) <;> rfl)) h50 h57 (by rw [ho62]; rfl))]; rfl) (by first | rw [chk_end h18] | rw [show chk t M n k ms mi it = (some (k + 1), it) from by (first | exact chk_sg h18 h35 h39 | exact chk_nm h18 (by first | (rw [h35]; rfl) | (rw [h39]; cases sg (t k) <;> rfl)) h50 | exact chk_oo h18 (by first | (rw [h35]; rfl) | (rw [h39]; cases sg (t k) <;> rfl)) h50 h57 (by omega) h117 h134 | exact chk_ob h18 (by first | (rw [h35]; rfl) | (rw [h39]; cases sg (t k) <;> rfl)) h50 h57 (by first | (rw [decide_eq_false (by omega)]; rfl) | (rw [h117]; simp; done) | (rw [h134]; simp; done)) | exact chk_mo h18 (by first | (rw [h35]; rfl) | (rw [h39]; cases sg (t k) <;> rfl)) h50 h57 (by rw [ho62]; rfl) | exact chk_mb h18 (by first | (rw [h35]; rfl) | (rw [h39]; cases sg (t k) <;> rfl)) h50 h57 (by rw [ho62]; rfl))] | rw [show chk t M n k ms mi it = (some k, it) from by (first | exact chk_sg h18 h35 h39 | exact chk_nm h18 (by first | (rw [h35]; rfl) | (rw [h39]; cases sg (t k) <;> rfl)) h50 | exact chk_oo h18 (by first | (rw [h35]; rfl) | (rw [h39]; cases sg (t k) <;> rfl)) h50 h57 (by omega) h117 h134 | exact chk_ob h18 (by first | (rw [h35]; rfl) | (rw [h39]; cases sg (t k) <;> rfl)) h50 h57 (by first | (rw [decide_eq_false (by omega)]; rfl) | (rw [h117]; simp; done) | (rw [h134]; simp; done)) | exact chk_mo h18 (by first | (rw [h35]; rfl) | (rw [h39]; cases sg (t k) <;> rfl)) h50 h57 (by rw [ho62]; rfl) | exact chk_mb h18 (by first | (rw [h35]; rfl) | (rw [h39]; cases sg (t k) <;> rfl)) h50 h57 (by rw [ho62]; rfl))]))
                · refine ev_aload_n dX6_check_103 rfl 2 rfl ?_
                  refine ev_getR dX6_check_104 C_X6 L_X6_16 (by decide) (by decide) sh_77 rfl ?_
                  refine ev_iload dX6_check_107 0 rfl ?_
                  refine ev_iald (e := k + 1) (v := σ 80 (k + 1)) dX6_check_109 (by decide) sh_80 (by omega) (by decide) (by first | rfl | (simp only [av_set, cpS]; (repeat' split) <;> first | rfl | (exfalso; omega))) ?_
                  refine ev_top (v := nI (t (k + 1))) (ht (k + 1) (by omega)).1 ?_
                  have ht8 := (ht (k + 1) (by omega)).2
                  refine ev_bipush dX6_check_110 (v := nI 48) (by decide) ?_
                  refine ev_bipush dX6_check_112 (v := nI 57) (by decide) ?_
                  refine ev_callSi (x := b2i (inb (nI (t (k + 1))) (nI 48) (nI 57))) dX6_check_114 (Or.inl M_X6_42) Y_X6_in [.int (nI (t (k + 1))), .int (nI 48), .int (nI 57)] (c_X6_in (nI (t (k + 1))) (nI 48) (nI 57) ) (by decide) (Nat.le_of_ble_eq_true rfl) rfl rfl (Nat.le_of_ble_eq_true rfl) ?_
                  refine ev_top (v := b2i (dg (t (k + 1)))) (congrArg b2i (inb_dg (by omega))) ?_
                  refine ev_ifb_eq (tgt := 141) dX6_check_117 (by decide) (fun h117 => ?_) (fun h117 => ?_)
                  · refine ev_iconst dX6_check_141 (v := nI 0) (by decide) ?_
                    refine ev_istore (lv' := [(6, .int (nI 0)), (4, .int (nI (k + 1))), (5, .int (nI (t k))), (0, .ref 77), (1, .int M), (2, .int (b2i ms)), (3, .int (b2i mi))]) dX6_check_142 (by decide) rfl ?_
                    refine ev_iload dX6_check_144 0 rfl ?_
                    refine ev_nif_ne (tgt := 152) dX6_check_146 (by decide) (by omega) (fun h146 => ?_) (fun h146 => ?_)
                    · exact absurd h146 (by omega)
                    · refine ev_iload dX6_check_149 1 rfl ?_
                      exact ev_ireturn dX6_check_151 rfl rfl (leafI hQ (by rw [show chk t M n k ms mi it = (some (k + 1), it) from by (first | exact chk_sg h18 h35 h39 | exact chk_nm h18 (by first | (rw [h35]; rfl) | (rw [h39]; cases sg (t k) <;> rfl)) h50 | exact chk_oo h18 (by first | (rw [h35]; rfl) | (rw [h39]; cases sg (t k) <;> rfl)) h50 h57 (by omega) h117 h134 | exact chk_ob h18 (by first | (rw [h35]; rfl) | (rw [h39]; cases sg (t k) <;> rfl)) h50 h57 (by first | (rw [decide_eq_false (by omega)]; rfl) | (rw [h117]; simp; done) | (rw [h134]; simp; done)) | exact chk_mo h18 (by first | (rw [h35]; rfl) | (rw [h39]; cases sg (t k) <;> rfl)) h50 h57 (by rw [ho62]; rfl) | exact chk_mb h18 (by first | (rw [h35]; rfl) | (rw [h39]; cases sg (t k) <;> rfl)) h50 h57 (by rw [ho62]; rfl))]; rfl) (by first | rw [chk_end h18] | rw [show chk t M n k ms mi it = (some (k + 1), it) from by (first | exact chk_sg h18 h35 h39 | exact chk_nm h18 (by first | (rw [h35]; rfl) | (rw [h39]; cases sg (t k) <;> rfl)) h50 | exact chk_oo h18 (by first | (rw [h35]; rfl) | (rw [h39]; cases sg (t k) <;> rfl)) h50 h57 (by omega) h117 h134 | exact chk_ob h18 (by first | (rw [h35]; rfl) | (rw [h39]; cases sg (t k) <;> rfl)) h50 h57 (by first | (rw [decide_eq_false (by omega)]; rfl) | (rw [h117]; simp; done) | (rw [h134]; simp; done)) | exact chk_mo h18 (by first | (rw [h35]; rfl) | (rw [h39]; cases sg (t k) <;> rfl)) h50 h57 (by rw [ho62]; rfl) | exact chk_mb h18 (by first | (rw [h35]; rfl) | (rw [h39]; cases sg (t k) <;> rfl)) h50 h57 (by rw [ho62]; rfl))] | rw [show chk t M n k ms mi it = (some k, it) from by (first | exact chk_sg h18 h35 h39 | exact chk_nm h18 (by first | (rw [h35]; rfl) | (rw [h39]; cases sg (t k) <;> rfl)) h50 | exact chk_oo h18 (by first | (rw [h35]; rfl) | (rw [h39]; cases sg (t k) <;> rfl)) h50 h57 (by omega) h117 h134 | exact chk_ob h18 (by first | (rw [h35]; rfl) | (rw [h39]; cases sg (t k) <;> rfl)) h50 h57 (by first | (rw [decide_eq_false (by omega)]; rfl) | (rw [h117]; simp; done) | (rw [h134]; simp; done)) | exact chk_mo h18 (by first | (rw [h35]; rfl) | (rw [h39]; cases sg (t k) <;> rfl)) h50 h57 (by rw [ho62]; rfl) | exact chk_mb h18 (by first | (rw [h35]; rfl) | (rw [h39]; cases sg (t k) <;> rfl)) h50 h57 (by rw [ho62]; rfl))]))
                  · have hd9 := dg_ge h117
                    refine ev_iload_n dX6_check_120 rfl 3 rfl ?_
                    refine ev_aload_n dX6_check_121 rfl 2 rfl ?_
                    refine ev_getR dX6_check_122 C_X6 L_X6_16 (by decide) (by decide) sh_77 rfl ?_
                    refine ev_iload dX6_check_125 0 rfl ?_
                    refine ev_iald (e := k + 1) (v := σ 80 (k + 1)) dX6_check_127 (by decide) sh_80 (by omega) (by decide) (by first | rfl | (simp only [av_set, cpS]; (repeat' split) <;> first | rfl | (exfalso; omega))) ?_
                    refine ev_top (v := nI (t (k + 1))) (ht (k + 1) (by omega)).1 ?_
                    refine ev_bipush dX6_check_128 (v := nI 48) (by decide) ?_
                    refine ev_isub dX6_check_130 ?_
                    refine ev_top (v := nI (t (k + 1) - 48)) (pk_sub (by omega)) ?_
                    refine ev_callSi (x := b2i (tb M (t (k + 1) - 48))) dX6_check_131 (Or.inl M_X6_50) Y_X6_has [.int M, .int (nI (t (k + 1) - 48))] (c_X6_has M (t (k + 1) - 48) (by omega)) (by decide) (Nat.le_of_ble_eq_true rfl) rfl rfl (Nat.le_of_ble_eq_true rfl) ?_
                    refine ev_ifb_eq (tgt := 141) dX6_check_134 (by decide) (fun h134 => ?_) (fun h134 => ?_)
                    · refine ev_iconst dX6_check_141 (v := nI 0) (by decide) ?_
                      refine ev_istore (lv' := [(6, .int (nI 0)), (4, .int (nI (k + 1))), (5, .int (nI (t k))), (0, .ref 77), (1, .int M), (2, .int (b2i ms)), (3, .int (b2i mi))]) dX6_check_142 (by decide) rfl ?_
                      refine ev_iload dX6_check_144 0 rfl ?_
                      refine ev_nif_ne (tgt := 152) dX6_check_146 (by decide) (by omega) (fun h146 => ?_) (fun h146 => ?_)
                      · exact absurd h146 (by omega)
                      · refine ev_iload dX6_check_149 1 rfl ?_
                        exact ev_ireturn dX6_check_151 rfl rfl (leafI hQ (by rw [show chk t M n k ms mi it = (some (k + 1), it) from by (first | exact chk_sg h18 h35 h39 | exact chk_nm h18 (by first | (rw [h35]; rfl) | (rw [h39]; cases sg (t k) <;> rfl)) h50 | exact chk_oo h18 (by first | (rw [h35]; rfl) | (rw [h39]; cases sg (t k) <;> rfl)) h50 h57 (by omega) h117 h134 | exact chk_ob h18 (by first | (rw [h35]; rfl) | (rw [h39]; cases sg (t k) <;> rfl)) h50 h57 (by first | (rw [decide_eq_false (by omega)]; rfl) | (rw [h117]; simp; done) | (rw [h134]; simp; done)) | exact chk_mo h18 (by first | (rw [h35]; rfl) | (rw [h39]; cases sg (t k) <;> rfl)) h50 h57 (by rw [ho62]; rfl) | exact chk_mb h18 (by first | (rw [h35]; rfl) | (rw [h39]; cases sg (t k) <;> rfl)) h50 h57 (by rw [ho62]; rfl))]; rfl) (by first | rw [chk_end h18] | rw [show chk t M n k ms mi it = (some (k + 1), it) from by (first | exact chk_sg h18 h35 h39 | exact chk_nm h18 (by first | (rw [h35]; rfl) | (rw [h39]; cases sg (t k) <;> rfl)) h50 | exact chk_oo h18 (by first | (rw [h35]; rfl) | (rw [h39]; cases sg (t k) <;> rfl)) h50 h57 (by omega) h117 h134 | exact chk_ob h18 (by first | (rw [h35]; rfl) | (rw [h39]; cases sg (t k) <;> rfl)) h50 h57 (by first | (rw [decide_eq_false (by omega)]; rfl) | (rw [h117]; simp; done) | (rw [h134]; simp; done)) | exact chk_mo h18 (by first | (rw [h35]; rfl) | (rw [h39]; cases sg (t k) <;> rfl)) h50 h57 (by rw [ho62]; rfl) | exact chk_mb h18 (by first | (rw [h35]; rfl) | (rw [h39]; cases sg (t k) <;> rfl)) h50 h57 (by rw [ho62]; rfl))] | rw [show chk t M n k ms mi it = (some k, it) from by (first | exact chk_sg h18 h35 h39 | exact chk_nm h18 (by first | (rw [h35]; rfl) | (rw [h39]; cases sg (t k) <;> rfl)) h50 | exact chk_oo h18 (by first | (rw [h35]; rfl) | (rw [h39]; cases sg (t k) <;> rfl)) h50 h57 (by omega) h117 h134 | exact chk_ob h18 (by first | (rw [h35]; rfl) | (rw [h39]; cases sg (t k) <;> rfl)) h50 h57 (by first | (rw [decide_eq_false (by omega)]; rfl) | (rw [h117]; simp; done) | (rw [h134]; simp; done)) | exact chk_mo h18 (by first | (rw [h35]; rfl) | (rw [h39]; cases sg (t k) <;> rfl)) h50 h57 (by rw [ho62]; rfl) | exact chk_mb h18 (by first | (rw [h35]; rfl) | (rw [h39]; cases sg (t k) <;> rfl)) h50 h57 (by rw [ho62]; rfl))]))
                    · refine ev_iconst dX6_check_137 (v := nI 1) (by decide) ?_
                      refine ev_goto (tgt := 142) dX6_check_138 (by decide) ?_
                      refine ev_istore (lv' := [(6, .int (nI 1)), (4, .int (nI (k + 1))), (5, .int (nI (t k))), (0, .ref 77), (1, .int M), (2, .int (b2i ms)), (3, .int (b2i mi))]) dX6_check_142 (by decide) rfl ?_
                      refine ev_iload dX6_check_144 0 rfl ?_
                      refine ev_nif_ne (tgt := 152) dX6_check_146 (by decide) (by omega) (fun h146 => ?_) (fun h146 => ?_)
                      · refine ev_iconst dX6_check_152 (v := nI 1) (by decide) ?_
                        refine ev_istore_n (lv' := [(2, .int (nI 1)), (6, .int (nI 1)), (4, .int (nI (k + 1))), (5, .int (nI (t k))), (0, .ref 77), (1, .int M), (3, .int (b2i mi))]) dX6_check_153 rfl (by decide) rfl ?_
                        refine ev_aload_n dX6_check_154 rfl 4 rfl ?_
                        refine ev_dup_a dX6_check_155 ?_
                        refine ev_getI dX6_check_156 C_X6 L_X6_136 (by decide) (by decide) sh_77 rfl ?_
                        refine ev_top (v := nI it) (by first | rfl | (simp only [av_set, cpS]; (repeat' split) <;> first | rfl | (exfalso; omega))) ?_
                        refine ev_iconst dX6_check_159 (v := nI 1) (by decide) ?_
                        refine ev_iadd dX6_check_160 ?_
                        refine ev_top (v := nI (it + 1)) (nI_add _ _) ?_
                        refine ev_putI dX6_check_161 C_X6 L_X6_136 (by decide) (by decide) sh_77 rfl rfl rfl ?_
                        refine ev_st (σ' := av_set σ 77 (upd (upd (σ 77) 5 (nI it)) 5 (nI (it + 1)))) (by first | rfl | (funext a; by_cases q77 : a = 77; (next => subst q77; rfl); simp only [av_set, q77, if_false]) | exact av_set_set _ _ _ _ | (funext a; unfold av_set; (repeat' split) <;> first | rfl | (exfalso; omega)) | (funext a; simp only [av_set, cpS]; (repeat' split) <;> first | rfl | (exfalso; omega))) ?_
                        refine ev_goto (tgt := 170) dX6_check_164 (by decide) ?_
                        refine ev_iinc (lv' := [(4, .int (nI (k + 1 + 1))), (2, .int (nI 1)), (6, .int (nI 1)), (5, .int (nI (t k))), (0, .ref 77), (1, .int M), (3, .int (b2i mi))]) dX6_check_170 2 rfl (nI_inc (k + 1)) (by decide) rfl ?_
                        refine ev_goto (tgt := 12) dX6_check_173 (by decide) ?_
                        refine ev_lv (lv' := [(0, .ref 77), (1, .int M), (2, .int (nI 1)), (3, .int (b2i mi)), (4, .int (nI (k + 1 + 1)))]) [4, 5, 1, 6, 0] rfl ?_
                        have e9 : chk t M n k ms mi it = chk t M n (k + 1 + 1) true mi (it + 1) := by (first | exact chk_sg h18 h35 h39 | exact chk_nm h18 (by first | (rw [h35]; rfl) | (rw [h39]; cases sg (t k) <;> rfl)) h50 | exact chk_oo h18 (by first | (rw [h35]; rfl) | (rw [h39]; cases sg (t k) <;> rfl)) h50 h57 (by omega) h117 h134 | exact chk_ob h18 (by first | (rw [h35]; rfl) | (rw [h39]; cases sg (t k) <;> rfl)) h50 h57 (by first | (rw [decide_eq_false (by omega)]; rfl) | (rw [h117]; simp; done) | (rw [h134]; simp; done)) | exact chk_mo h18 (by first | (rw [h35]; rfl) | (rw [h39]; cases sg (t k) <;> rfl)) h50 h57 (by rw [ho62]; rfl) | exact chk_mb h18 (by first | (rw [h35]; rfl) | (rw [h39]; cases sg (t k) <;> rfl)) h50 h57 (by rw [ho62]; rfl))
                        rw [e9] at hQ
                        exact ihk (k + 1 + 1) (by omega) (by omega) true mi (it + 1) (by omega) hQ
                      · exact absurd h146 (by omega)
          · refine ev_iload dX6_check_60 0 rfl ?_
            refine ev_callSi (x := oJ (ix (t k))) dX6_check_62 (Or.inl M_X6_142) Y_X6_modeOf [.int (nI (t k))] (c_X6_modeOf (t k) (by omega)) (by decide) (Nat.le_of_ble_eq_true rfl) rfl rfl (Nat.le_of_ble_eq_true rfl) ?_
            rcases ho62 : ix (t k) with _ | u62
            · refine ev_top (v := (-9)) rfl ?_
              refine ev_bipush dX6_check_65 (v := (-9)) (by decide) ?_
              refine ev_icmp_eq (tgt := 167) dX6_check_67 (by decide) (fun h67 => ?_) (fun h67 => ?_)
              · refine ev_iload dX6_check_167 5 rfl ?_
                exact ev_ireturn dX6_check_169 rfl rfl (leafI hQ (by rw [show chk t M n k ms mi it = (some k, it) from by (first | exact chk_sg h18 h35 h39 | exact chk_nm h18 (by first | (rw [h35]; rfl) | (rw [h39]; cases sg (t k) <;> rfl)) h50 | exact chk_oo h18 (by first | (rw [h35]; rfl) | (rw [h39]; cases sg (t k) <;> rfl)) h50 h57 (by omega) h117 h134 | exact chk_ob h18 (by first | (rw [h35]; rfl) | (rw [h39]; cases sg (t k) <;> rfl)) h50 h57 (by first | (rw [decide_eq_false (by omega)]; rfl) | (rw [h117]; simp; done) | (rw [h134]; simp; done)) | exact chk_mo h18 (by first | (rw [h35]; rfl) | (rw [h39]; cases sg (t k) <;> rfl)) h50 h57 (by rw [ho62]; rfl) | exact chk_mb h18 (by first | (rw [h35]; rfl) | (rw [h39]; cases sg (t k) <;> rfl)) h50 h57 (by rw [ho62]; rfl))]; rfl) (by first | rw [chk_end h18] | rw [show chk t M n k ms mi it = (some (k + 1), it) from by (first | exact chk_sg h18 h35 h39 | exact chk_nm h18 (by first | (rw [h35]; rfl) | (rw [h39]; cases sg (t k) <;> rfl)) h50 | exact chk_oo h18 (by first | (rw [h35]; rfl) | (rw [h39]; cases sg (t k) <;> rfl)) h50 h57 (by omega) h117 h134 | exact chk_ob h18 (by first | (rw [h35]; rfl) | (rw [h39]; cases sg (t k) <;> rfl)) h50 h57 (by first | (rw [decide_eq_false (by omega)]; rfl) | (rw [h117]; simp; done) | (rw [h134]; simp; done)) | exact chk_mo h18 (by first | (rw [h35]; rfl) | (rw [h39]; cases sg (t k) <;> rfl)) h50 h57 (by rw [ho62]; rfl) | exact chk_mb h18 (by first | (rw [h35]; rfl) | (rw [h39]; cases sg (t k) <;> rfl)) h50 h57 (by rw [ho62]; rfl))] | rw [show chk t M n k ms mi it = (some k, it) from by (first | exact chk_sg h18 h35 h39 | exact chk_nm h18 (by first | (rw [h35]; rfl) | (rw [h39]; cases sg (t k) <;> rfl)) h50 | exact chk_oo h18 (by first | (rw [h35]; rfl) | (rw [h39]; cases sg (t k) <;> rfl)) h50 h57 (by omega) h117 h134 | exact chk_ob h18 (by first | (rw [h35]; rfl) | (rw [h39]; cases sg (t k) <;> rfl)) h50 h57 (by first | (rw [decide_eq_false (by omega)]; rfl) | (rw [h117]; simp; done) | (rw [h134]; simp; done)) | exact chk_mo h18 (by first | (rw [h35]; rfl) | (rw [h39]; cases sg (t k) <;> rfl)) h50 h57 (by rw [ho62]; rfl) | exact chk_mb h18 (by first | (rw [h35]; rfl) | (rw [h39]; cases sg (t k) <;> rfl)) h50 h57 (by rw [ho62]; rfl))]))
              · exact absurd rfl h67
            · have hu62 : u62 < 6 := ix_lt ho62
              refine ev_top (v := nI u62) rfl ?_
              refine ev_bipush dX6_check_65 (v := (-9)) (by decide) ?_
              refine ev_icmp_eq (tgt := 167) dX6_check_67 (by decide) (fun h67 => ?_) (fun h67 => ?_)
              · exact absurd h67 (nI_neg (by omega) (by decide))
              · refine ev_iload dX6_check_70 5 rfl ?_
                refine ev_iload dX6_check_72 0 rfl ?_
                refine ev_bipush dX6_check_74 (v := nI 111) (by decide) ?_
                refine ev_ncmp_ne (tgt := 83) dX6_check_76 (by decide) (by omega) (by omega) (fun h76 => ?_) (fun h76 => ?_)
                · refine ev_iconst dX6_check_83 (v := nI 0) (by decide) ?_
                  refine ev_iadd dX6_check_84 ?_
                  refine ev_top (v := nI (k + 0)) (nI_add _ _) ?_
                  refine ev_istore (lv' := [(4, .int (nI (k + 0))), (5, .int (nI (t k))), (0, .ref 77), (1, .int M), (2, .int (b2i ms)), (3, .int (b2i mi))]) dX6_check_85 (by decide) rfl ?_
                  refine ev_iload dX6_check_87 1 rfl ?_
                  refine ev_bipush dX6_check_89 (v := nI 111) (by decide) ?_
                  refine ev_ncmp_ne (tgt := 137) dX6_check_91 (by decide) (by omega) (by omega) (fun h91 => ?_) (fun h91 => ?_)
                  · refine ev_iconst dX6_check_137 (v := nI 1) (by decide) ?_
                    refine ev_goto (tgt := 142) dX6_check_138 (by decide) ?_
                    refine ev_istore (lv' := [(6, .int (nI 1)), (4, .int (nI (k + 0))), (5, .int (nI (t k))), (0, .ref 77), (1, .int M), (2, .int (b2i ms)), (3, .int (b2i mi))]) dX6_check_142 (by decide) rfl ?_
                    refine ev_iload dX6_check_144 0 rfl ?_
                    refine ev_nif_ne (tgt := 152) dX6_check_146 (by decide) (by omega) (fun h146 => ?_) (fun h146 => ?_)
                    · refine ev_iconst dX6_check_152 (v := nI 1) (by decide) ?_
                      refine ev_istore_n (lv' := [(2, .int (nI 1)), (6, .int (nI 1)), (4, .int (nI (k + 0))), (5, .int (nI (t k))), (0, .ref 77), (1, .int M), (3, .int (b2i mi))]) dX6_check_153 rfl (by decide) rfl ?_
                      refine ev_aload_n dX6_check_154 rfl 4 rfl ?_
                      refine ev_dup_a dX6_check_155 ?_
                      refine ev_getI dX6_check_156 C_X6 L_X6_136 (by decide) (by decide) sh_77 rfl ?_
                      refine ev_top (v := nI it) (by first | rfl | (simp only [av_set, cpS]; (repeat' split) <;> first | rfl | (exfalso; omega))) ?_
                      refine ev_iconst dX6_check_159 (v := nI 1) (by decide) ?_
                      refine ev_iadd dX6_check_160 ?_
                      refine ev_top (v := nI (it + 1)) (nI_add _ _) ?_
                      refine ev_putI dX6_check_161 C_X6 L_X6_136 (by decide) (by decide) sh_77 rfl rfl rfl ?_
                      refine ev_st (σ' := av_set σ 77 (upd (upd (σ 77) 5 (nI it)) 5 (nI (it + 1)))) (by first | rfl | (funext a; by_cases q77 : a = 77; (next => subst q77; rfl); simp only [av_set, q77, if_false]) | exact av_set_set _ _ _ _ | (funext a; unfold av_set; (repeat' split) <;> first | rfl | (exfalso; omega)) | (funext a; simp only [av_set, cpS]; (repeat' split) <;> first | rfl | (exfalso; omega))) ?_
                      refine ev_goto (tgt := 170) dX6_check_164 (by decide) ?_
                      refine ev_iinc (lv' := [(4, .int (nI (k + 0 + 1))), (2, .int (nI 1)), (6, .int (nI 1)), (5, .int (nI (t k))), (0, .ref 77), (1, .int M), (3, .int (b2i mi))]) dX6_check_170 2 rfl (nI_inc (k + 0)) (by decide) rfl ?_
                      refine ev_goto (tgt := 12) dX6_check_173 (by decide) ?_
                      refine ev_lv (lv' := [(0, .ref 77), (1, .int M), (2, .int (nI 1)), (3, .int (b2i mi)), (4, .int (nI (k + 0 + 1)))]) [4, 5, 1, 6, 0] rfl ?_
                      have e9 : chk t M n k ms mi it = chk t M n (k + 0 + 1) true mi (it + 1) := by (first | exact chk_sg h18 h35 h39 | exact chk_nm h18 (by first | (rw [h35]; rfl) | (rw [h39]; cases sg (t k) <;> rfl)) h50 | exact chk_oo h18 (by first | (rw [h35]; rfl) | (rw [h39]; cases sg (t k) <;> rfl)) h50 h57 (by omega) h117 h134 | exact chk_ob h18 (by first | (rw [h35]; rfl) | (rw [h39]; cases sg (t k) <;> rfl)) h50 h57 (by first | (rw [decide_eq_false (by omega)]; rfl) | (rw [h117]; simp; done) | (rw [h134]; simp; done)) | exact chk_mo h18 (by first | (rw [h35]; rfl) | (rw [h39]; cases sg (t k) <;> rfl)) h50 h57 (by rw [ho62]; rfl) | exact chk_mb h18 (by first | (rw [h35]; rfl) | (rw [h39]; cases sg (t k) <;> rfl)) h50 h57 (by rw [ho62]; rfl))
                      rw [e9] at hQ
                      exact ihk (k + 0 + 1) (by omega) (by omega) true mi (it + 1) (by omega) hQ
                    · exact absurd h146 (by omega)
                  · exact absurd h91 (by omega)
                · exact absurd h76 (by omega)
      · refine ev_iconst dX6_check_42 (v := nI 0) (by decide) ?_
        refine ev_istore_n (lv' := [(2, .int (nI 0)), (5, .int (nI (t k))), (0, .ref 77), (1, .int M), (3, .int (b2i mi)), (4, .int (nI k))]) dX6_check_43 rfl (by decide) rfl ?_
        refine ev_iconst dX6_check_44 (v := nI 1) (by decide) ?_
        refine ev_istore_n (lv' := [(3, .int (nI 1)), (2, .int (nI 0)), (5, .int (nI (t k))), (0, .ref 77), (1, .int M), (4, .int (nI k))]) dX6_check_45 rfl (by decide) rfl ?_
        refine ev_goto (tgt := 170) dX6_check_46 (by decide) ?_
        refine ev_iinc (lv' := [(4, .int (nI (k + 1))), (3, .int (nI 1)), (2, .int (nI 0)), (5, .int (nI (t k))), (0, .ref 77), (1, .int M)]) dX6_check_170 5 rfl (nI_inc k) (by decide) rfl ?_
        refine ev_goto (tgt := 12) dX6_check_173 (by decide) ?_
        refine ev_lv (lv' := [(0, .ref 77), (1, .int M), (2, .int (nI 0)), (3, .int (nI 1)), (4, .int (nI (k + 1)))]) [4, 5, 2, 1, 0] rfl ?_
        have e9 : chk t M n k ms mi it = chk t M n (k + 1) false true (it) := by (first | exact chk_sg h18 h35 h39 | exact chk_nm h18 (by first | (rw [h35]; rfl) | (rw [h39]; cases sg (t k) <;> rfl)) h50 | exact chk_oo h18 (by first | (rw [h35]; rfl) | (rw [h39]; cases sg (t k) <;> rfl)) h50 h57 (by omega) h117 h134 | exact chk_ob h18 (by first | (rw [h35]; rfl) | (rw [h39]; cases sg (t k) <;> rfl)) h50 h57 (by first | (rw [decide_eq_false (by omega)]; rfl) | (rw [h117]; simp; done) | (rw [h134]; simp; done)) | exact chk_mo h18 (by first | (rw [h35]; rfl) | (rw [h39]; cases sg (t k) <;> rfl)) h50 h57 (by rw [ho62]; rfl) | exact chk_mb h18 (by first | (rw [h35]; rfl) | (rw [h39]; cases sg (t k) <;> rfl)) h50 h57 (by rw [ho62]; rfl))
        rw [e9] at hQ
        exact ihk (k + 1) (by omega) (by omega) false true (it) (by omega) hQ

