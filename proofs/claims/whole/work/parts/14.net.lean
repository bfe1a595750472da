/-! ===== RelayNetwork: contracts, first half ===== -/
set_option maxRecDepth 100000 in
set_option maxHeartbeats 1000000 in
theorem c_X5_createServers_bad {l : Launch} {σ : av_S} (x : Int32) (hx : ¬ (¬ x < nI 1 ∧ x ≤ nI 6)) : av_M l RX5 cX5_createServers 3 (some .int) 0 [.ref 63, .int x] σ (some (.int (-1))) σ := by
  intro Q hQ
  show av_Ev l RX5 cX5_createServers 3 (some .int) av_E0 0 0 [(0, .ref 63), (1, .int x)] [] σ Q
  refine ev_iload_n dX5_createServers_0 rfl 1 rfl ?_
  refine ev_iconst dX5_createServers_1 (v := nI 1) (by decide) ?_
  refine ev_icmp_lt (tgt := 11) dX5_createServers_2 (by decide) (fun h2 => ?_) (fun h2 => ?_)
  · refine ev_iconst dX5_createServers_11 (v := (-1)) (by decide) ?_
    exact ev_ireturn dX5_createServers_12 rfl rfl (leafI hQ rfl rfl)
  · refine ev_iload_n dX5_createServers_5 rfl 1 rfl ?_
    refine ev_bipush dX5_createServers_6 (v := nI 6) (by decide) ?_
    refine ev_icmp_le (tgt := 13) dX5_createServers_8 (by decide) (fun h8 => ?_) (fun h8 => ?_)
    · exact absurd ⟨h2, h8⟩ hx
    · refine ev_iconst dX5_createServers_11 (v := (-1)) (by decide) ?_
      exact ev_ireturn dX5_createServers_12 rfl rfl (leafI hQ rfl rfl)

set_option maxRecDepth 100000 in
set_option maxHeartbeats 1000000 in
theorem c_X5_createServers_ok {l : Launch} {σ : av_S} (x : Nat) (j : Nat) (c : Nat) (h1 : 1 ≤ x) (h6 : x ≤ 6) (hj : σ 64 1 = nI j) (hj8 : j < 8) (hcc : σ 64 2 = nI c) (hc8 : c ≤ 8) : av_M l RX5 cX5_createServers 3 (some .int) 3 [.ref 63, .int (nI x)] σ (some (.int (nI (cu (σ 2) (nI 63))))) (av_set (av_set (av_set (av_set (av_set (hkeep σ j c) 0 (upd (upd (upd (upd (σ 0) 0 (nI x)) 1 (nI 0)) 2 (nI 0)) 3 (nI 0))) 1 (fl (σ 1) 6 (nI 0))) 2 (fl (σ 2) 60 (-1))) 3 (fl (σ 3) 24 (nI 0))) 4 (fl (σ 4) 24 (nI 0))) := by
  intro Q hQ
  show av_Ev l RX5 cX5_createServers 3 (some .int) av_E0 3 0 [(0, .ref 63), (1, .int (nI x))] [] σ Q
  refine ev_iload_n dX5_createServers_0 rfl 1 rfl ?_
  refine ev_iconst dX5_createServers_1 (v := nI 1) (by decide) ?_
  refine ev_ncmp_lt (tgt := 11) dX5_createServers_2 (by decide) (by omega) (by omega) (fun h2 => ?_) (fun h2 => ?_)
  · exact absurd h2 (by omega)
  · refine ev_iload_n dX5_createServers_5 rfl 1 rfl ?_
    refine ev_bipush dX5_createServers_6 (v := nI 6) (by decide) ?_
    refine ev_ncmp_le (tgt := 13) dX5_createServers_8 (by decide) (by omega) (by omega) (fun h8 => ?_) (fun h8 => ?_)
    · refine ev_aload_n dX5_createServers_13 rfl 0 rfl ?_
      refine ev_getR dX5_createServers_14 C_X5 L_X5_12 (by decide) (by decide) sh_63 rfl ?_
      refine ev_bipush dX5_createServers_17 (v := nI 63) (by decide) ?_
      refine ev_callVi (x := nI (cu (σ 2) (nI 63))) dX5_createServers_19 M_X5_37 Y_X4_countUsers [.int (nI 63)] (c_X4_countUsers (nI 63) ) (by decide) (Nat.le_of_ble_eq_true rfl) (by decide) sh_0 rfl rfl rfl (Nat.le_of_ble_eq_true rfl) ?_
      refine ev_istore_n (lv' := [(2, .int (nI (cu (σ 2) (nI 63)))), (0, .ref 63), (1, .int (nI x))]) dX5_createServers_22 rfl (by decide) rfl ?_
      refine ev_aload_n dX5_createServers_23 rfl 1 rfl ?_
      refine ev_getR dX5_createServers_24 C_X5 L_X5_19 (by decide) (by decide) sh_63 rfl ?_
      refine ev_aload_n dX5_createServers_27 rfl 1 rfl ?_
      refine ev_getR dX5_createServers_28 C_X5 L_X5_12 (by decide) (by decide) sh_63 rfl ?_
      refine ev_callVv (σ' := hkeep σ j c) dX5_createServers_31 M_X5_41 Y_X0_keep [.ref 0] (c_X0_keep j c (by first | exact hj | omega) (by first | exact hj8 | omega) (by first | exact hcc | omega) (by first | exact hc8 | omega)) (by decide) (Nat.le_of_ble_eq_true rfl) (by decide) sh_64 rfl rfl rfl (Nat.le_of_ble_eq_true rfl) ?_
      refine ev_aload_n dX5_createServers_34 rfl 1 rfl ?_
      refine ev_getR dX5_createServers_35 C_X5 L_X5_12 (by decide) (by decide) sh_63 rfl ?_
      refine ev_iload_n dX5_createServers_38 rfl 2 rfl ?_
      refine ev_callVv dX5_createServers_39 M_X5_45 Y_X4_reset [.int (nI x)] (c_X4_reset (nI x) ) (by decide) (Nat.le_of_ble_eq_true rfl) (by decide) sh_0 rfl rfl rfl (Nat.le_of_ble_eq_true rfl) ?_
      refine ev_st (σ' := av_set (av_set (av_set (av_set (av_set (hkeep σ j c) 0 (upd (upd (upd (upd (σ 0) 0 (nI x)) 1 (nI 0)) 2 (nI 0)) 3 (nI 0))) 1 (fl (σ 1) 6 (nI 0))) 2 (fl (σ 2) 60 (-1))) 3 (fl (σ 3) 24 (nI 0))) 4 (fl (σ 4) 24 (nI 0))) (by first | rfl | (funext a; by_cases q0 : a = 0; (next => subst q0; rfl); by_cases q1 : a = 1; (next => subst q1; rfl); by_cases q2 : a = 2; (next => subst q2; rfl); by_cases q3 : a = 3; (next => subst q3; rfl); by_cases q4 : a = 4; (next => subst q4; rfl); simp only [av_set, q0, q1, q2, q3, q4, if_false]) | exact av_set_set _ _ _ _ | (funext a; unfold av_set; (repeat' split) <;> first | rfl | (exfalso; omega)) | (funext a; simp only [av_set, cpS]; (repeat' split) <;> first | rfl | (exfalso; omega))) ?_
      refine ev_iload_n dX5_createServers_42 rfl 0 rfl ?_
      exact ev_ireturn dX5_createServers_43 rfl rfl (leafI hQ rfl rfl)
    · exact absurd h8 (by omega)

set_option maxRecDepth 100000 in
set_option maxHeartbeats 1000000 in
theorem c_X5_connect_bad {l : Launch} {σ : av_S} (x : Int32) (y : Int32) (hx : (sv (σ 0 0) x && sv (σ 0 0) y) = false) : av_M l RX5 cX5_connect 4 (some .int) 2 [.ref 63, .int x, .int y] σ (some (.int (-1))) σ := by
  intro Q hQ
  show av_Ev l RX5 cX5_connect 4 (some .int) av_E0 2 0 [(0, .ref 63), (1, .int x), (2, .int y)] [] σ Q
  refine ev_aload_n dX5_connect_0 rfl 0 rfl ?_
  refine ev_getR dX5_connect_1 C_X5 L_X5_12 (by decide) (by decide) sh_63 rfl ?_
  refine ev_iload_n dX5_connect_4 rfl 1 rfl ?_
  refine ev_iload_n dX5_connect_5 rfl 2 rfl ?_
  refine ev_callVi (x := b2i (sv (σ 0 0) x && sv (σ 0 0) y)) dX5_connect_6 M_X5_49 Y_X4_hasServers [.int x, .int y] (c_X4_hasServers x y ) (by decide) (Nat.le_of_ble_eq_true rfl) (by decide) sh_0 rfl rfl rfl (Nat.le_of_ble_eq_true rfl) ?_
  refine ev_ifb_eq (tgt := 17) dX5_connect_9 (by decide) (fun h9 => ?_) (fun h9 => ?_)
  · refine ev_iconst dX5_connect_17 (v := (-1)) (by decide) ?_
    exact ev_ireturn dX5_connect_18 rfl rfl (leafI hQ rfl rfl)
  · exact absurd hx (by simp [h9])

set_option maxRecDepth 100000 in
set_option maxHeartbeats 1000000 in
theorem c_X5_connect_same {l : Launch} {σ : av_S} (x : Int32)  : av_M l RX5 cX5_connect 4 (some .int) 2 [.ref 63, .int x, .int x] σ (some (.int (-1))) σ := by
  intro Q hQ
  show av_Ev l RX5 cX5_connect 4 (some .int) av_E0 2 0 [(0, .ref 63), (1, .int x), (2, .int x)] [] σ Q
  refine ev_aload_n dX5_connect_0 rfl 0 rfl ?_
  refine ev_getR dX5_connect_1 C_X5 L_X5_12 (by decide) (by decide) sh_63 rfl ?_
  refine ev_iload_n dX5_connect_4 rfl 1 rfl ?_
  refine ev_iload_n dX5_connect_5 rfl 2 rfl ?_
  refine ev_callVi (x := b2i (sv (σ 0 0) x && sv (σ 0 0) x)) dX5_connect_6 M_X5_49 Y_X4_hasServers [.int x, .int x] (c_X4_hasServers x x ) (by decide) (Nat.le_of_ble_eq_true rfl) (by decide) sh_0 rfl rfl rfl (Nat.le_of_ble_eq_true rfl) ?_
  refine ev_ifb_eq (tgt := 17) dX5_connect_9 (by decide) (fun h9 => ?_) (fun h9 => ?_)
  · refine ev_iconst dX5_connect_17 (v := (-1)) (by decide) ?_
    exact ev_ireturn dX5_connect_18 rfl rfl (leafI hQ rfl rfl)
  · refine ev_iload_n dX5_connect_12 rfl 1 rfl ?_
    refine ev_iload_n dX5_connect_13 rfl 2 rfl ?_
    refine ev_icmp_ne (tgt := 19) dX5_connect_14 (by decide) (fun h14 => ?_) (fun h14 => ?_)
    · exact absurd rfl h14
    · refine ev_iconst dX5_connect_17 (v := (-1)) (by decide) ?_
      exact ev_ireturn dX5_connect_18 rfl rfl (leafI hQ rfl rfl)

set_option maxRecDepth 100000 in
set_option maxHeartbeats 1000000 in
theorem c_X5_connect_st {l : Launch} {σ : av_S} (a : Nat) (b : Nat) (ha : a < 6) (hb : b < 6) (hs : (sv (σ 0 0) (nI a) && sv (σ 0 0) (nI b)) = true) (hab : ¬ a = b) (hsh : tb (net (σ 1) a) b = true) : av_M l RX5 cX5_connect 4 (some .int) 4 [.ref 63, .int (nI a), .int (nI b)] σ (some (.int (-2))) σ := by
  intro Q hQ
  show av_Ev l RX5 cX5_connect 4 (some .int) av_E0 4 0 [(0, .ref 63), (1, .int (nI a)), (2, .int (nI b))] [] σ Q
  refine ev_aload_n dX5_connect_0 rfl 0 rfl ?_
  refine ev_getR dX5_connect_1 C_X5 L_X5_12 (by decide) (by decide) sh_63 rfl ?_
  refine ev_iload_n dX5_connect_4 rfl 1 rfl ?_
  refine ev_iload_n dX5_connect_5 rfl 2 rfl ?_
  refine ev_callVi (x := b2i (sv (σ 0 0) (nI a) && sv (σ 0 0) (nI b))) dX5_connect_6 M_X5_49 Y_X4_hasServers [.int (nI a), .int (nI b)] (c_X4_hasServers (nI a) (nI b) ) (by decide) (Nat.le_of_ble_eq_true rfl) (by decide) sh_0 rfl rfl rfl (Nat.le_of_ble_eq_true rfl) ?_
  refine ev_ifb_eq (tgt := 17) dX5_connect_9 (by decide) (fun h9 => ?_) (fun h9 => ?_)
  · exact absurd (hs.symm.trans h9) (by decide)
  · refine ev_iload_n dX5_connect_12 rfl 1 rfl ?_
    refine ev_iload_n dX5_connect_13 rfl 2 rfl ?_
    refine ev_ncmp_ne (tgt := 19) dX5_connect_14 (by decide) (by omega) (by omega) (fun h14 => ?_) (fun h14 => ?_)
    · refine ev_aload_n dX5_connect_19 rfl 0 rfl ?_
      refine ev_getR dX5_connect_20 C_X5 L_X5_12 (by decide) (by decide) sh_63 rfl ?_
      refine ev_iload_n dX5_connect_23 rfl 1 rfl ?_
      refine ev_iload_n dX5_connect_24 rfl 2 rfl ?_
      refine ev_callVi (x := b2i (tb (net (σ 1) a) b)) dX5_connect_25 M_X5_53 Y_X4_shareNetwork [.int (nI a), .int (nI b)] (c_X4_shareNetwork a b (by omega) (by omega)) (by decide) (Nat.le_of_ble_eq_true rfl) (by decide) sh_0 rfl rfl rfl (Nat.le_of_ble_eq_true rfl) ?_
      refine ev_ifb_eq (tgt := 34) dX5_connect_28 (by decide) (fun h28 => ?_) (fun h28 => ?_)
      · exact absurd (hsh.symm.trans h28) (by decide)
      · refine ev_bipush dX5_connect_31 (v := (-2)) (by decide) ?_
        exact ev_ireturn dX5_connect_33 rfl rfl (leafI hQ rfl rfl)
    · exact absurd h14 (by omega)

set_option maxRecDepth 100000 in
set_option maxHeartbeats 1000000 in
theorem c_X5_connect_ok {l : Launch} {σ : av_S} (a : Nat) (b : Nat) (j : Nat) (c : Nat) (ha : a < 6) (hb : b < 6) (hs : (sv (σ 0 0) (nI a) && sv (σ 0 0) (nI b)) = true) (hab : ¬ a = b) (hsh : tb (net (σ 1) a) b = false) (hj : σ 64 1 = nI j) (hj8 : j < 8) (hcc : σ 64 2 = nI c) (hc8 : c ≤ 8) : av_M l RX5 cX5_connect 4 (some .int) 6 [.ref 63, .int (nI a), .int (nI b)] σ (some (.int (nI (ck (σ 2) (net (σ 1) a) (net (σ 1) b))))) (av_set (av_set (av_set (av_set (av_set (av_set (av_set (hkeep σ j c) 0 ((sh4 (σ 1) ((sn3 (net (σ 1) a) (net (σ 1) b) (σ 2, σ 3, σ 4)).2.1) a b (σ 0, (sn3 (net (σ 1) a) (net (σ 1) b) (σ 2, σ 3, σ 4)).2.2, σ 5, σ 6)).1)) 1 (lkL (σ 1) a b true)) 2 ((sn3 (net (σ 1) a) (net (σ 1) b) (σ 2, σ 3, σ 4)).1)) 3 ((sn3 (net (σ 1) a) (net (σ 1) b) (σ 2, σ 3, σ 4)).2.1)) 4 ((sh4 (σ 1) ((sn3 (net (σ 1) a) (net (σ 1) b) (σ 2, σ 3, σ 4)).2.1) a b (σ 0, (sn3 (net (σ 1) a) (net (σ 1) b) (σ 2, σ 3, σ 4)).2.2, σ 5, σ 6)).2.1)) 5 ((sh4 (σ 1) ((sn3 (net (σ 1) a) (net (σ 1) b) (σ 2, σ 3, σ 4)).2.1) a b (σ 0, (sn3 (net (σ 1) a) (net (σ 1) b) (σ 2, σ 3, σ 4)).2.2, σ 5, σ 6)).2.2.1)) 6 ((sh4 (σ 1) ((sn3 (net (σ 1) a) (net (σ 1) b) (σ 2, σ 3, σ 4)).2.1) a b (σ 0, (sn3 (net (σ 1) a) (net (σ 1) b) (σ 2, σ 3, σ 4)).2.2, σ 5, σ 6)).2.2.2)) := by
  intro Q hQ
  show av_Ev l RX5 cX5_connect 4 (some .int) av_E0 6 0 [(0, .ref 63), (1, .int (nI a)), (2, .int (nI b))] [] σ Q
  refine ev_aload_n dX5_connect_0 rfl 0 rfl ?_
  refine ev_getR dX5_connect_1 C_X5 L_X5_12 (by decide) (by decide) sh_63 rfl ?_
  refine ev_iload_n dX5_connect_4 rfl 1 rfl ?_
  refine ev_iload_n dX5_connect_5 rfl 2 rfl ?_
  refine ev_callVi (x := b2i (sv (σ 0 0) (nI a) && sv (σ 0 0) (nI b))) dX5_connect_6 M_X5_49 Y_X4_hasServers [.int (nI a), .int (nI b)] (c_X4_hasServers (nI a) (nI b) ) (by decide) (Nat.le_of_ble_eq_true rfl) (by decide) sh_0 rfl rfl rfl (Nat.le_of_ble_eq_true rfl) ?_
  refine ev_ifb_eq (tgt := 17) dX5_connect_9 (by decide) (fun h9 => ?_) (fun h9 => ?_)
  · exact absurd (hs.symm.trans h9) (by decide)
  · refine ev_iload_n dX5_connect_12 rfl 1 rfl ?_
    refine ev_iload_n dX5_connect_13 rfl 2 rfl ?_
    refine ev_ncmp_ne (tgt := 19) dX5_connect_14 (by decide) (by omega) (by omega) (fun h14 => ?_) (fun h14 => ?_)
    · refine ev_aload_n dX5_connect_19 rfl 0 rfl ?_
      refine ev_getR dX5_connect_20 C_X5 L_X5_12 (by decide) (by decide) sh_63 rfl ?_
      refine ev_iload_n dX5_connect_23 rfl 1 rfl ?_
      refine ev_iload_n dX5_connect_24 rfl 2 rfl ?_
      refine ev_callVi (x := b2i (tb (net (σ 1) a) b)) dX5_connect_25 M_X5_53 Y_X4_shareNetwork [.int (nI a), .int (nI b)] (c_X4_shareNetwork a b (by omega) (by omega)) (by decide) (Nat.le_of_ble_eq_true rfl) (by decide) sh_0 rfl rfl rfl (Nat.le_of_ble_eq_true rfl) ?_
      refine ev_ifb_eq (tgt := 34) dX5_connect_28 (by decide) (fun h28 => ?_) (fun h28 => ?_)
      · refine ev_aload_n dX5_connect_34 rfl 0 rfl ?_
        refine ev_getR dX5_connect_35 C_X5 L_X5_19 (by decide) (by decide) sh_63 rfl ?_
        refine ev_aload_n dX5_connect_38 rfl 0 rfl ?_
        refine ev_getR dX5_connect_39 C_X5 L_X5_12 (by decide) (by decide) sh_63 rfl ?_
        refine ev_callVv (σ' := hkeep σ j c) dX5_connect_42 M_X5_41 Y_X0_keep [.ref 0] (c_X0_keep j c (by first | exact hj | omega) (by first | exact hj8 | omega) (by first | exact hcc | omega) (by first | exact hc8 | omega)) (by decide) (Nat.le_of_ble_eq_true rfl) (by decide) sh_64 rfl rfl rfl (Nat.le_of_ble_eq_true rfl) ?_
        refine ev_aload_n dX5_connect_45 rfl 0 rfl ?_
        refine ev_getR dX5_connect_46 C_X5 L_X5_12 (by decide) (by decide) sh_63 rfl ?_
        refine ev_iload_n dX5_connect_49 rfl 1 rfl ?_
        refine ev_iload_n dX5_connect_50 rfl 2 rfl ?_
        refine ev_callSi (x := nI (ck (σ 2) (net (σ 1) a) (net (σ 1) b))) dX5_connect_51 (Or.inl M_X5_56) Y_X1_countKills [.ref 0, .int (nI a), .int (nI b)] (c_X1_countKills a b (by omega) (by omega)) (by decide) (Nat.le_of_ble_eq_true rfl) rfl rfl (Nat.le_of_ble_eq_true rfl) ?_
        refine ev_istore_n (lv' := [(3, .int (nI (ck (σ 2) (net (σ 1) a) (net (σ 1) b)))), (0, .ref 63), (1, .int (nI a)), (2, .int (nI b))]) dX5_connect_54 rfl (by decide) rfl ?_
        refine ev_aload_n dX5_connect_55 rfl 1 rfl ?_
        refine ev_getR dX5_connect_56 C_X5 L_X5_12 (by decide) (by decide) sh_63 rfl ?_
        refine ev_iload_n dX5_connect_59 rfl 2 rfl ?_
        refine ev_iload_n dX5_connect_60 rfl 3 rfl ?_
        refine ev_callSv dX5_connect_61 (Or.inl M_X5_62) Y_X1_settleNicks [.ref 0, .int (nI a), .int (nI b)] (c_X1_settleNicks a b (by omega) (by omega)) (by decide) (Nat.le_of_ble_eq_true rfl) rfl rfl (Nat.le_of_ble_eq_true rfl) ?_
        refine ev_st (σ' := av_set (av_set (av_set (hkeep σ j c) 2 ((sn3 (net (σ 1) a) (net (σ 1) b) (σ 2, σ 3, σ 4)).1)) 3 ((sn3 (net (σ 1) a) (net (σ 1) b) (σ 2, σ 3, σ 4)).2.1)) 4 ((sn3 (net (σ 1) a) (net (σ 1) b) (σ 2, σ 3, σ 4)).2.2)) (by first | rfl | (funext a; by_cases q2 : a = 2; (next => subst q2; rfl); by_cases q3 : a = 3; (next => subst q3; rfl); by_cases q4 : a = 4; (next => subst q4; rfl); simp only [av_set, q2, q3, q4, if_false]) | exact av_set_set _ _ _ _ | (funext a; unfold av_set; (repeat' split) <;> first | rfl | (exfalso; omega)) | (funext a; simp only [av_set, cpS]; (repeat' split) <;> first | rfl | (exfalso; omega))) ?_
        refine ev_aload_n dX5_connect_64 rfl 1 rfl ?_
        refine ev_getR dX5_connect_65 C_X5 L_X5_12 (by decide) (by decide) sh_63 rfl ?_
        refine ev_iload_n dX5_connect_68 rfl 2 rfl ?_
        refine ev_iload_n dX5_connect_69 rfl 3 rfl ?_
        refine ev_callSv dX5_connect_70 (Or.inl M_X5_66) Y_X1_settleChannels [.ref 0, .int (nI a), .int (nI b)] (c_X1_settleChannels a b (by omega) (by omega)) (by decide) (Nat.le_of_ble_eq_true rfl) rfl rfl (Nat.le_of_ble_eq_true rfl) ?_
        refine ev_st (σ' := av_set (av_set (av_set (av_set (av_set (av_set (hkeep σ j c) 0 ((sh4 (σ 1) ((sn3 (net (σ 1) a) (net (σ 1) b) (σ 2, σ 3, σ 4)).2.1) a b (σ 0, ((sn3 (net (σ 1) a) (net (σ 1) b) (σ 2, σ 3, σ 4)).2.2), σ 5, σ 6)).1)) 2 ((sn3 (net (σ 1) a) (net (σ 1) b) (σ 2, σ 3, σ 4)).1)) 3 ((sn3 (net (σ 1) a) (net (σ 1) b) (σ 2, σ 3, σ 4)).2.1)) 4 ((sh4 (σ 1) ((sn3 (net (σ 1) a) (net (σ 1) b) (σ 2, σ 3, σ 4)).2.1) a b (σ 0, ((sn3 (net (σ 1) a) (net (σ 1) b) (σ 2, σ 3, σ 4)).2.2), σ 5, σ 6)).2.1)) 5 ((sh4 (σ 1) ((sn3 (net (σ 1) a) (net (σ 1) b) (σ 2, σ 3, σ 4)).2.1) a b (σ 0, ((sn3 (net (σ 1) a) (net (σ 1) b) (σ 2, σ 3, σ 4)).2.2), σ 5, σ 6)).2.2.1)) 6 ((sh4 (σ 1) ((sn3 (net (σ 1) a) (net (σ 1) b) (σ 2, σ 3, σ 4)).2.1) a b (σ 0, ((sn3 (net (σ 1) a) (net (σ 1) b) (σ 2, σ 3, σ 4)).2.2), σ 5, σ 6)).2.2.2)) (by first | rfl | (funext a; by_cases q0 : a = 0; (next => subst q0; rfl); by_cases q2 : a = 2; (next => subst q2; rfl); by_cases q3 : a = 3; (next => subst q3; rfl); by_cases q4 : a = 4; (next => subst q4; rfl); by_cases q5 : a = 5; (next => subst q5; rfl); by_cases q6 : a = 6; (next => subst q6; rfl); simp only [av_set, q0, q2, q3, q4, q5, q6, if_false]) | exact av_set_set _ _ _ _ | (funext a; unfold av_set; (repeat' split) <;> first | rfl | (exfalso; omega)) | (funext a; simp only [av_set, cpS]; (repeat' split) <;> first | rfl | (exfalso; omega))) ?_
        refine ev_aload_n dX5_connect_73 rfl 1 rfl ?_
        refine ev_getR dX5_connect_74 C_X5 L_X5_12 (by decide) (by decide) sh_63 rfl ?_
        refine ev_iload_n dX5_connect_77 rfl 2 rfl ?_
        refine ev_iload_n dX5_connect_78 rfl 3 rfl ?_
        refine ev_callVv dX5_connect_79 M_X5_69 Y_X4_link [.int (nI a), .int (nI b)] (c_X4_link a b (by omega) (by omega)) (by decide) (Nat.le_of_ble_eq_true rfl) (by decide) sh_0 rfl rfl rfl (Nat.le_of_ble_eq_true rfl) ?_
        refine ev_st (σ' := av_set (av_set (av_set (av_set (av_set (av_set (av_set (hkeep σ j c) 0 ((sh4 (σ 1) ((sn3 (net (σ 1) a) (net (σ 1) b) (σ 2, σ 3, σ 4)).2.1) a b (σ 0, ((sn3 (net (σ 1) a) (net (σ 1) b) (σ 2, σ 3, σ 4)).2.2), σ 5, σ 6)).1)) 1 (lkL (σ 1) a b true)) 2 ((sn3 (net (σ 1) a) (net (σ 1) b) (σ 2, σ 3, σ 4)).1)) 3 ((sn3 (net (σ 1) a) (net (σ 1) b) (σ 2, σ 3, σ 4)).2.1)) 4 ((sh4 (σ 1) ((sn3 (net (σ 1) a) (net (σ 1) b) (σ 2, σ 3, σ 4)).2.1) a b (σ 0, ((sn3 (net (σ 1) a) (net (σ 1) b) (σ 2, σ 3, σ 4)).2.2), σ 5, σ 6)).2.1)) 5 ((sh4 (σ 1) ((sn3 (net (σ 1) a) (net (σ 1) b) (σ 2, σ 3, σ 4)).2.1) a b (σ 0, ((sn3 (net (σ 1) a) (net (σ 1) b) (σ 2, σ 3, σ 4)).2.2), σ 5, σ 6)).2.2.1)) 6 ((sh4 (σ 1) ((sn3 (net (σ 1) a) (net (σ 1) b) (σ 2, σ 3, σ 4)).2.1) a b (σ 0, ((sn3 (net (σ 1) a) (net (σ 1) b) (σ 2, σ 3, σ 4)).2.2), σ 5, σ 6)).2.2.2)) (by first | rfl | (funext a; by_cases q0 : a = 0; (next => subst q0; rfl); by_cases q1 : a = 1; (next => subst q1; rfl); by_cases q2 : a = 2; (next => subst q2; rfl); by_cases q3 : a = 3; (next => subst q3; rfl); by_cases q4 : a = 4; (next => subst q4; rfl); by_cases q5 : a = 5; (next => subst q5; rfl); by_cases q6 : a = 6; (next => subst q6; rfl); simp only [av_set, q0, q1, q2, q3, q4, q5, q6, if_false]) | exact av_set_set _ _ _ _ | (funext a; unfold av_set; (repeat' split) <;> first | rfl | (exfalso; omega)) | (funext a; simp only [av_set, cpS]; (repeat' split) <;> first | rfl | (exfalso; omega))) ?_
        refine ev_iload_n dX5_connect_82 rfl 0 rfl ?_
        exact ev_ireturn dX5_connect_83 rfl rfl (leafI hQ rfl rfl)
      · exact absurd (hsh.symm.trans h28) (by decide)
    · exact absurd h14 (by omega)

set_option maxRecDepth 100000 in
set_option maxHeartbeats 1000000 in
theorem c_X5_disconnect_bad {l : Launch} {σ : av_S} (x : Int32) (y : Int32) (hx : (sv (σ 0 0) x && sv (σ 0 0) y) = false) : av_M l RX5 cX5_disconnect 3 (some .int) 2 [.ref 63, .int x, .int y] σ (some (.int (-1))) σ := by
  intro Q hQ
  show av_Ev l RX5 cX5_disconnect 3 (some .int) av_E0 2 0 [(0, .ref 63), (1, .int x), (2, .int y)] [] σ Q
  refine ev_aload_n dX5_disconnect_0 rfl 0 rfl ?_
  refine ev_getR dX5_disconnect_1 C_X5 L_X5_12 (by decide) (by decide) sh_63 rfl ?_
  refine ev_iload_n dX5_disconnect_4 rfl 1 rfl ?_
  refine ev_iload_n dX5_disconnect_5 rfl 2 rfl ?_
  refine ev_callVi (x := b2i (sv (σ 0 0) x && sv (σ 0 0) y)) dX5_disconnect_6 M_X5_49 Y_X4_hasServers [.int x, .int y] (c_X4_hasServers x y ) (by decide) (Nat.le_of_ble_eq_true rfl) (by decide) sh_0 rfl rfl rfl (Nat.le_of_ble_eq_true rfl) ?_
  refine ev_ifb_eq (tgt := 17) dX5_disconnect_9 (by decide) (fun h9 => ?_) (fun h9 => ?_)
  · refine ev_iconst dX5_disconnect_17 (v := (-1)) (by decide) ?_
    exact ev_ireturn dX5_disconnect_18 rfl rfl (leafI hQ rfl rfl)
  · exact absurd hx (by simp [h9])

set_option maxRecDepth 100000 in
set_option maxHeartbeats 1000000 in
theorem c_X5_disconnect_same {l : Launch} {σ : av_S} (x : Int32)  : av_M l RX5 cX5_disconnect 3 (some .int) 2 [.ref 63, .int x, .int x] σ (some (.int (-1))) σ := by
  intro Q hQ
  show av_Ev l RX5 cX5_disconnect 3 (some .int) av_E0 2 0 [(0, .ref 63), (1, .int x), (2, .int x)] [] σ Q
  refine ev_aload_n dX5_disconnect_0 rfl 0 rfl ?_
  refine ev_getR dX5_disconnect_1 C_X5 L_X5_12 (by decide) (by decide) sh_63 rfl ?_
  refine ev_iload_n dX5_disconnect_4 rfl 1 rfl ?_
  refine ev_iload_n dX5_disconnect_5 rfl 2 rfl ?_
  refine ev_callVi (x := b2i (sv (σ 0 0) x && sv (σ 0 0) x)) dX5_disconnect_6 M_X5_49 Y_X4_hasServers [.int x, .int x] (c_X4_hasServers x x ) (by decide) (Nat.le_of_ble_eq_true rfl) (by decide) sh_0 rfl rfl rfl (Nat.le_of_ble_eq_true rfl) ?_
  refine ev_ifb_eq (tgt := 17) dX5_disconnect_9 (by decide) (fun h9 => ?_) (fun h9 => ?_)
  · refine ev_iconst dX5_disconnect_17 (v := (-1)) (by decide) ?_
    exact ev_ireturn dX5_disconnect_18 rfl rfl (leafI hQ rfl rfl)
  · refine ev_iload_n dX5_disconnect_12 rfl 1 rfl ?_
    refine ev_iload_n dX5_disconnect_13 rfl 2 rfl ?_
    refine ev_icmp_ne (tgt := 19) dX5_disconnect_14 (by decide) (fun h14 => ?_) (fun h14 => ?_)
    · exact absurd rfl h14
    · refine ev_iconst dX5_disconnect_17 (v := (-1)) (by decide) ?_
      exact ev_ireturn dX5_disconnect_18 rfl rfl (leafI hQ rfl rfl)

set_option maxRecDepth 100000 in
set_option maxHeartbeats 1000000 in
theorem c_X5_disconnect_st {l : Launch} {σ : av_S} (a : Nat) (b : Nat) (ha : a < 6) (hb : b < 6) (hs : (sv (σ 0 0) (nI a) && sv (σ 0 0) (nI b)) = true) (hab : ¬ a = b) (hsh : tb (σ 1 a) b = false) : av_M l RX5 cX5_disconnect 3 (some .int) 2 [.ref 63, .int (nI a), .int (nI b)] σ (some (.int (-2))) σ := by
  intro Q hQ
  show av_Ev l RX5 cX5_disconnect 3 (some .int) av_E0 2 0 [(0, .ref 63), (1, .int (nI a)), (2, .int (nI b))] [] σ Q
  refine ev_aload_n dX5_disconnect_0 rfl 0 rfl ?_
  refine ev_getR dX5_disconnect_1 C_X5 L_X5_12 (by decide) (by decide) sh_63 rfl ?_
  refine ev_iload_n dX5_disconnect_4 rfl 1 rfl ?_
  refine ev_iload_n dX5_disconnect_5 rfl 2 rfl ?_
  refine ev_callVi (x := b2i (sv (σ 0 0) (nI a) && sv (σ 0 0) (nI b))) dX5_disconnect_6 M_X5_49 Y_X4_hasServers [.int (nI a), .int (nI b)] (c_X4_hasServers (nI a) (nI b) ) (by decide) (Nat.le_of_ble_eq_true rfl) (by decide) sh_0 rfl rfl rfl (Nat.le_of_ble_eq_true rfl) ?_
  refine ev_ifb_eq (tgt := 17) dX5_disconnect_9 (by decide) (fun h9 => ?_) (fun h9 => ?_)
  · exact absurd (hs.symm.trans h9) (by decide)
  · refine ev_iload_n dX5_disconnect_12 rfl 1 rfl ?_
    refine ev_iload_n dX5_disconnect_13 rfl 2 rfl ?_
    refine ev_ncmp_ne (tgt := 19) dX5_disconnect_14 (by decide) (by omega) (by omega) (fun h14 => ?_) (fun h14 => ?_)
    · refine ev_aload_n dX5_disconnect_19 rfl 0 rfl ?_
      refine ev_getR dX5_disconnect_20 C_X5 L_X5_12 (by decide) (by decide) sh_63 rfl ?_
      refine ev_iload_n dX5_disconnect_23 rfl 1 rfl ?_
      refine ev_iload_n dX5_disconnect_24 rfl 2 rfl ?_
      refine ev_callVi (x := b2i (tb (σ 1 a) b)) dX5_disconnect_25 M_X5_73 Y_X4_areLinked [.int (nI a), .int (nI b)] (c_X4_areLinked a b (by omega) (by omega)) (by decide) (Nat.le_of_ble_eq_true rfl) (by decide) sh_0 rfl rfl rfl (Nat.le_of_ble_eq_true rfl) ?_
      refine ev_ifb_ne (tgt := 34) dX5_disconnect_28 (by decide) (fun h28 => ?_) (fun h28 => ?_)
      · exact absurd (hsh.symm.trans h28) (by decide)
      · refine ev_bipush dX5_disconnect_31 (v := (-2)) (by decide) ?_
        exact ev_ireturn dX5_disconnect_33 rfl rfl (leafI hQ rfl rfl)
    · exact absurd h14 (by omega)

set_option maxRecDepth 100000 in
set_option maxHeartbeats 1000000 in
theorem c_X5_disconnect_ok {l : Launch} {σ : av_S} (a : Nat) (b : Nat) (j : Nat) (c : Nat) (ha : a < 6) (hb : b < 6) (hs : (sv (σ 0 0) (nI a) && sv (σ 0 0) (nI b)) = true) (hab : ¬ a = b) (hsh : tb (σ 1 a) b = true) (hj : σ 64 1 = nI j) (hj8 : j < 8) (hcc : σ 64 2 = nI c) (hc8 : c ≤ 8) : av_M l RX5 cX5_disconnect 3 (some .int) 3 [.ref 63, .int (nI a), .int (nI b)] σ (some (.int (jbc (net (lkL (σ 1) a b false) a)))) (av_set (hkeep σ j c) 1 (lkL (σ 1) a b false)) := by
  intro Q hQ
  show av_Ev l RX5 cX5_disconnect 3 (some .int) av_E0 3 0 [(0, .ref 63), (1, .int (nI a)), (2, .int (nI b))] [] σ Q
  refine ev_aload_n dX5_disconnect_0 rfl 0 rfl ?_
  refine ev_getR dX5_disconnect_1 C_X5 L_X5_12 (by decide) (by decide) sh_63 rfl ?_
  refine ev_iload_n dX5_disconnect_4 rfl 1 rfl ?_
  refine ev_iload_n dX5_disconnect_5 rfl 2 rfl ?_
  refine ev_callVi (x := b2i (sv (σ 0 0) (nI a) && sv (σ 0 0) (nI b))) dX5_disconnect_6 M_X5_49 Y_X4_hasServers [.int (nI a), .int (nI b)] (c_X4_hasServers (nI a) (nI b) ) (by decide) (Nat.le_of_ble_eq_true rfl) (by decide) sh_0 rfl rfl rfl (Nat.le_of_ble_eq_true rfl) ?_
  refine ev_ifb_eq (tgt := 17) dX5_disconnect_9 (by decide) (fun h9 => ?_) (fun h9 => ?_)
  · exact absurd (hs.symm.trans h9) (by decide)
  · refine ev_iload_n dX5_disconnect_12 rfl 1 rfl ?_
    refine ev_iload_n dX5_disconnect_13 rfl 2 rfl ?_
    refine ev_ncmp_ne (tgt := 19) dX5_disconnect_14 (by decide) (by omega) (by omega) (fun h14 => ?_) (fun h14 => ?_)
    · refine ev_aload_n dX5_disconnect_19 rfl 0 rfl ?_
      refine ev_getR dX5_disconnect_20 C_X5 L_X5_12 (by decide) (by decide) sh_63 rfl ?_
      refine ev_iload_n dX5_disconnect_23 rfl 1 rfl ?_
      refine ev_iload_n dX5_disconnect_24 rfl 2 rfl ?_
      refine ev_callVi (x := b2i (tb (σ 1 a) b)) dX5_disconnect_25 M_X5_73 Y_X4_areLinked [.int (nI a), .int (nI b)] (c_X4_areLinked a b (by omega) (by omega)) (by decide) (Nat.le_of_ble_eq_true rfl) (by decide) sh_0 rfl rfl rfl (Nat.le_of_ble_eq_true rfl) ?_
      refine ev_ifb_ne (tgt := 34) dX5_disconnect_28 (by decide) (fun h28 => ?_) (fun h28 => ?_)
      · refine ev_aload_n dX5_disconnect_34 rfl 0 rfl ?_
        refine ev_getR dX5_disconnect_35 C_X5 L_X5_19 (by decide) (by decide) sh_63 rfl ?_
        refine ev_aload_n dX5_disconnect_38 rfl 0 rfl ?_
        refine ev_getR dX5_disconnect_39 C_X5 L_X5_12 (by decide) (by decide) sh_63 rfl ?_
        refine ev_callVv (σ' := hkeep σ j c) dX5_disconnect_42 M_X5_41 Y_X0_keep [.ref 0] (c_X0_keep j c (by first | exact hj | omega) (by first | exact hj8 | omega) (by first | exact hcc | omega) (by first | exact hc8 | omega)) (by decide) (Nat.le_of_ble_eq_true rfl) (by decide) sh_64 rfl rfl rfl (Nat.le_of_ble_eq_true rfl) ?_
        refine ev_aload_n dX5_disconnect_45 rfl 0 rfl ?_
        refine ev_getR dX5_disconnect_46 C_X5 L_X5_12 (by decide) (by decide) sh_63 rfl ?_
        refine ev_iload_n dX5_disconnect_49 rfl 1 rfl ?_
        refine ev_iload_n dX5_disconnect_50 rfl 2 rfl ?_
        refine ev_callVv dX5_disconnect_51 M_X5_76 Y_X4_unlink [.int (nI a), .int (nI b)] (c_X4_unlink a b (by omega) (by omega)) (by decide) (Nat.le_of_ble_eq_true rfl) (by decide) sh_0 rfl rfl rfl (Nat.le_of_ble_eq_true rfl) ?_
        refine ev_st (σ' := av_set (hkeep σ j c) 1 (lkL (σ 1) a b false)) (by first | rfl | (funext a; by_cases q1 : a = 1; (next => subst q1; rfl); simp only [av_set, q1, if_false]) | exact av_set_set _ _ _ _ | (funext a; unfold av_set; (repeat' split) <;> first | rfl | (exfalso; omega)) | (funext a; simp only [av_set, cpS]; (repeat' split) <;> first | rfl | (exfalso; omega))) ?_
        refine ev_aload_n dX5_disconnect_54 rfl 0 rfl ?_
        refine ev_getR dX5_disconnect_55 C_X5 L_X5_12 (by decide) (by decide) sh_63 rfl ?_
        refine ev_iload_n dX5_disconnect_58 rfl 1 rfl ?_
        refine ev_callVi (x := net (lkL (σ 1) a b false) a) dX5_disconnect_59 M_X5_79 Y_X4_networkOf [.int (nI a)] (c_X4_networkOf a (by omega)) (by decide) (Nat.le_of_ble_eq_true rfl) (by decide) sh_0 rfl rfl rfl (Nat.le_of_ble_eq_true rfl) ?_
        refine ev_callSi (x := jbc (net (lkL (σ 1) a b false) a)) dX5_disconnect_62 (Or.inl M_X5_82) Y_J6_bitCount_0f7a4 [.int (net (lkL (σ 1) a b false) a)] (c_J6_bitCount_0f7a4 (net (lkL (σ 1) a b false) a) ) (by decide) (Nat.le_of_ble_eq_true rfl) rfl rfl (Nat.le_of_ble_eq_true rfl) ?_
        exact ev_ireturn dX5_disconnect_65 rfl rfl (leafI hQ rfl rfl)
      · exact absurd (hsh.symm.trans h28) (by decide)
    · exact absurd h14 (by omega)

set_option maxRecDepth 100000 in
set_option maxHeartbeats 1000000 in
theorem c_X5_advance_bad {l : Launch} {σ : av_S} (x : Int32) (hx : ¬ (¬ x < nI 1 ∧ x ≤ nI 999)) : av_M l RX5 cX5_advance 2 (some .int) 0 [.ref 63, .int x] σ (some (.int (-1))) σ := by
  intro Q hQ
  show av_Ev l RX5 cX5_advance 2 (some .int) av_E0 0 0 [(0, .ref 63), (1, .int x)] [] σ Q
  refine ev_iload_n dX5_advance_0 rfl 1 rfl ?_
  refine ev_iconst dX5_advance_1 (v := nI 1) (by decide) ?_
  refine ev_icmp_lt (tgt := 12) dX5_advance_2 (by decide) (fun h2 => ?_) (fun h2 => ?_)
  · refine ev_iconst dX5_advance_12 (v := (-1)) (by decide) ?_
    exact ev_ireturn dX5_advance_13 rfl rfl (leafI hQ rfl rfl)
  · refine ev_iload_n dX5_advance_5 rfl 1 rfl ?_
    refine ev_sipush dX5_advance_6 (v := nI 999) (by decide) ?_
    refine ev_icmp_le (tgt := 14) dX5_advance_9 (by decide) (fun h9 => ?_) (fun h9 => ?_)
    · exact absurd ⟨h2, h9⟩ hx
    · refine ev_iconst dX5_advance_12 (v := (-1)) (by decide) ?_
      exact ev_ireturn dX5_advance_13 rfl rfl (leafI hQ rfl rfl)

set_option maxRecDepth 100000 in
set_option maxHeartbeats 1000000 in
theorem c_X5_advance_lim {l : Launch} {σ : av_S} (x : Nat) (q : Nat) (h1 : 1 ≤ x) (h6 : x ≤ 999) (hq : σ 0 1 = nI q) (hq9 : q ≤ 9999) (hl : 9999 < q + x) : av_M l RX5 cX5_advance 2 (some .int) 0 [.ref 63, .int (nI x)] σ (some (.int (-3))) σ := by
  intro Q hQ
  show av_Ev l RX5 cX5_advance 2 (some .int) av_E0 0 0 [(0, .ref 63), (1, .int (nI x))] [] σ Q
  refine ev_iload_n dX5_advance_0 rfl 1 rfl ?_
  refine ev_iconst dX5_advance_1 (v := nI 1) (by decide) ?_
  refine ev_ncmp_lt (tgt := 12) dX5_advance_2 (by decide) (by omega) (by omega) (fun h2 => ?_) (fun h2 => ?_)
  · exact absurd h2 (by omega)
  · refine ev_iload_n dX5_advance_5 rfl 1 rfl ?_
    refine ev_sipush dX5_advance_6 (v := nI 999) (by decide) ?_
    refine ev_ncmp_le (tgt := 14) dX5_advance_9 (by decide) (by omega) (by omega) (fun h9 => ?_) (fun h9 => ?_)
    · refine ev_aload_n dX5_advance_14 rfl 0 rfl ?_
      refine ev_getR dX5_advance_15 C_X5 L_X5_12 (by decide) (by decide) sh_63 rfl ?_
      refine ev_getI dX5_advance_18 C_X4 L_X5_87 (by decide) (by decide) sh_0 rfl ?_
      refine ev_top (v := nI q) hq ?_
      refine ev_iload_n dX5_advance_21 rfl 1 rfl ?_
      refine ev_iadd dX5_advance_22 ?_
      refine ev_top (v := nI (q + x)) (nI_add _ _) ?_
      refine ev_sipush dX5_advance_23 (v := nI 9999) (by decide) ?_
      refine ev_ncmp_le (tgt := 32) dX5_advance_26 (by decide) (by omega) (by omega) (fun h26 => ?_) (fun h26 => ?_)
      · exact absurd h26 (by omega)
      · refine ev_bipush dX5_advance_29 (v := (-3)) (by decide) ?_
        exact ev_ireturn dX5_advance_31 rfl rfl (leafI hQ rfl rfl)
    · exact absurd h9 (by omega)

set_option maxRecDepth 100000 in
set_option maxHeartbeats 1000000 in
theorem c_X5_advance_ok {l : Launch} {σ : av_S} (x : Nat) (q : Nat) (j : Nat) (c : Nat) (h1 : 1 ≤ x) (h6 : x ≤ 999) (hq : σ 0 1 = nI q) (hq9 : q ≤ 9999) (hl : q + x ≤ 9999) (hj : σ 64 1 = nI j) (hj8 : j < 8) (hcc : σ 64 2 = nI c) (hc8 : c ≤ 8) : av_M l RX5 cX5_advance 2 (some .int) 3 [.ref 63, .int (nI x)] σ (some (.int (nI (q + x)))) (av_set (hkeep σ j c) 0 (upd (σ 0) 1 (nI (q + x)))) := by
  intro Q hQ
  show av_Ev l RX5 cX5_advance 2 (some .int) av_E0 3 0 [(0, .ref 63), (1, .int (nI x))] [] σ Q
  refine ev_iload_n dX5_advance_0 rfl 1 rfl ?_
  refine ev_iconst dX5_advance_1 (v := nI 1) (by decide) ?_
  refine ev_ncmp_lt (tgt := 12) dX5_advance_2 (by decide) (by omega) (by omega) (fun h2 => ?_) (fun h2 => ?_)
  · exact absurd h2 (by omega)
  · refine ev_iload_n dX5_advance_5 rfl 1 rfl ?_
    refine ev_sipush dX5_advance_6 (v := nI 999) (by decide) ?_
    refine ev_ncmp_le (tgt := 14) dX5_advance_9 (by decide) (by omega) (by omega) (fun h9 => ?_) (fun h9 => ?_)
    · refine ev_aload_n dX5_advance_14 rfl 0 rfl ?_
      refine ev_getR dX5_advance_15 C_X5 L_X5_12 (by decide) (by decide) sh_63 rfl ?_
      refine ev_getI dX5_advance_18 C_X4 L_X5_87 (by decide) (by decide) sh_0 rfl ?_
      refine ev_top (v := nI q) hq ?_
      refine ev_iload_n dX5_advance_21 rfl 1 rfl ?_
      refine ev_iadd dX5_advance_22 ?_
      refine ev_top (v := nI (q + x)) (nI_add _ _) ?_
      refine ev_sipush dX5_advance_23 (v := nI 9999) (by decide) ?_
      refine ev_ncmp_le (tgt := 32) dX5_advance_26 (by decide) (by omega) (by omega) (fun h26 => ?_) (fun h26 => ?_)
      · refine ev_aload_n dX5_advance_32 rfl 0 rfl ?_
        refine ev_getR dX5_advance_33 C_X5 L_X5_19 (by decide) (by decide) sh_63 rfl ?_
        refine ev_aload_n dX5_advance_36 rfl 0 rfl ?_
        refine ev_getR dX5_advance_37 C_X5 L_X5_12 (by decide) (by decide) sh_63 rfl ?_
        refine ev_callVv (σ' := hkeep σ j c) dX5_advance_40 M_X5_41 Y_X0_keep [.ref 0] (c_X0_keep j c (by first | exact hj | omega) (by first | exact hj8 | omega) (by first | exact hcc | omega) (by first | exact hc8 | omega)) (by decide) (Nat.le_of_ble_eq_true rfl) (by decide) sh_64 rfl rfl rfl (Nat.le_of_ble_eq_true rfl) ?_
        refine ev_aload_n dX5_advance_43 rfl 0 rfl ?_
        refine ev_getR dX5_advance_44 C_X5 L_X5_12 (by decide) (by decide) sh_63 rfl ?_
        refine ev_dup_a dX5_advance_47 ?_
        refine ev_getI dX5_advance_48 C_X4 L_X5_87 (by decide) (by decide) sh_0 rfl ?_
        refine ev_top (v := σ 0 1) (by first | rfl | (simp only [av_set, cpS]; (repeat' split) <;> first | rfl | (exfalso; omega))) ?_
        refine ev_top (v := nI q) hq ?_
        refine ev_iload_n dX5_advance_51 rfl 1 rfl ?_
        refine ev_iadd dX5_advance_52 ?_
        refine ev_top (v := nI (q + x)) (nI_add _ _) ?_
        refine ev_putI dX5_advance_53 C_X4 L_X5_87 (by decide) (by decide) sh_0 rfl rfl rfl ?_
        refine ev_st (σ' := av_set (hkeep σ j c) 0 (upd (σ 0) 1 (nI (q + x)))) (by first | rfl | (funext a; by_cases q0 : a = 0; (next => subst q0; rfl); simp only [av_set, q0, if_false]) | exact av_set_set _ _ _ _ | (funext a; unfold av_set; (repeat' split) <;> first | rfl | (exfalso; omega)) | (funext a; simp only [av_set, cpS]; (repeat' split) <;> first | rfl | (exfalso; omega))) ?_
        refine ev_aload_n dX5_advance_56 rfl 0 rfl ?_
        refine ev_getR dX5_advance_57 C_X5 L_X5_12 (by decide) (by decide) sh_63 rfl ?_
        refine ev_getI dX5_advance_60 C_X4 L_X5_87 (by decide) (by decide) sh_0 rfl ?_
        refine ev_top (v := nI (q + x)) (by first | rfl | (simp only [av_set, cpS]; (repeat' split) <;> first | rfl | (exfalso; omega))) ?_
        exact ev_ireturn dX5_advance_63 rfl rfl (leafI hQ rfl rfl)
      · exact absurd h26 (by omega)
    · exact absurd h9 (by omega)

set_option maxRecDepth 100000 in
set_option maxHeartbeats 1000000 in
theorem c_X5_time {l : Launch} {σ : av_S}   : av_M l RX5 cX5_time 1 (some .int) 0 [.ref 63] σ (some (.int (σ 0 1))) σ := by
  intro Q hQ
  show av_Ev l RX5 cX5_time 1 (some .int) av_E0 0 0 [(0, .ref 63)] [] σ Q
  refine ev_aload_n dX5_time_0 rfl 0 rfl ?_
  refine ev_getR dX5_time_1 C_X5 L_X5_12 (by decide) (by decide) sh_63 rfl ?_
  refine ev_getI dX5_time_4 C_X4 L_X5_87 (by decide) (by decide) sh_0 rfl ?_
  exact ev_ireturn dX5_time_7 rfl rfl (leafI hQ rfl rfl)

set_option maxRecDepth 100000 in
set_option maxHeartbeats 1000000 in
theorem c_X5_hops_bad {l : Launch} {σ : av_S} (x : Int32) (y : Int32) (hx : (sv (σ 0 0) x && sv (σ 0 0) y) = false) : av_M l RX5 cX5_hops 5 (some .int) 2 [.ref 63, .int x, .int y] σ (some (.int (-1))) σ := by
  intro Q hQ
  show av_Ev l RX5 cX5_hops 5 (some .int) av_E0 2 0 [(0, .ref 63), (1, .int x), (2, .int y)] [] σ Q
  refine ev_aload_n dX5_hops_0 rfl 0 rfl ?_
  refine ev_getR dX5_hops_1 C_X5 L_X5_12 (by decide) (by decide) sh_63 rfl ?_
  refine ev_iload_n dX5_hops_4 rfl 1 rfl ?_
  refine ev_iload_n dX5_hops_5 rfl 2 rfl ?_
  refine ev_callVi (x := b2i (sv (σ 0 0) x && sv (σ 0 0) y)) dX5_hops_6 M_X5_49 Y_X4_hasServers [.int x, .int y] (c_X4_hasServers x y ) (by decide) (Nat.le_of_ble_eq_true rfl) (by decide) sh_0 rfl rfl rfl (Nat.le_of_ble_eq_true rfl) ?_
  refine ev_ifb_ne (tgt := 14) dX5_hops_9 (by decide) (fun h9 => ?_) (fun h9 => ?_)
  · exact absurd hx (by simp [h9])
  · refine ev_iconst dX5_hops_12 (v := (-1)) (by decide) ?_
    exact ev_ireturn dX5_hops_13 rfl rfl (leafI hQ rfl rfl)

set_option maxRecDepth 100000 in
set_option maxHeartbeats 1000000 in
theorem c_X5_hops_ok {l : Launch} {σ : av_S} (a : Nat) (b : Nat) (ha : a < 6) (hb : b < 6) (hs : (sv (σ 0 0) (nI a) && sv (σ 0 0) (nI b)) = true) : av_M l RX5 cX5_hops 5 (some .int) 2 [.ref 63, .int (nI a), .int (nI b)] σ (some (.int (hpI (σ 1) a b))) σ := by
  intro Q hQ
  show av_Ev l RX5 cX5_hops 5 (some .int) av_E0 2 0 [(0, .ref 63), (1, .int (nI a)), (2, .int (nI b))] [] σ Q
  refine ev_aload_n dX5_hops_0 rfl 0 rfl ?_
  refine ev_getR dX5_hops_1 C_X5 L_X5_12 (by decide) (by decide) sh_63 rfl ?_
  refine ev_iload_n dX5_hops_4 rfl 1 rfl ?_
  refine ev_iload_n dX5_hops_5 rfl 2 rfl ?_
  refine ev_callVi (x := b2i (sv (σ 0 0) (nI a) && sv (σ 0 0) (nI b))) dX5_hops_6 M_X5_49 Y_X4_hasServers [.int (nI a), .int (nI b)] (c_X4_hasServers (nI a) (nI b) ) (by decide) (Nat.le_of_ble_eq_true rfl) (by decide) sh_0 rfl rfl rfl (Nat.le_of_ble_eq_true rfl) ?_
  refine ev_ifb_ne (tgt := 14) dX5_hops_9 (by decide) (fun h9 => ?_) (fun h9 => ?_)
  · refine ev_iconst dX5_hops_14 (v := nI 1) (by decide) ?_
    refine ev_iload_n dX5_hops_15 rfl 1 rfl ?_
    refine ev_ishl dX5_hops_16 ?_
    refine ev_top (v := bt a) rfl ?_
    refine ev_istore_n (lv' := [(3, .int (bt a)), (0, .ref 63), (1, .int (nI a)), (2, .int (nI b))]) dX5_hops_17 rfl (by decide) rfl ?_
    refine ev_iconst dX5_hops_18 (v := nI 0) (by decide) ?_
    refine ev_istore (lv' := [(4, .int (nI 0)), (3, .int (bt a)), (0, .ref 63), (1, .int (nI a)), (2, .int (nI b))]) dX5_hops_19 (by decide) rfl ?_
    refine ev_lv (lv' := [(0, .ref 63), (1, .int (nI a)), (2, .int (nI b)), (3, .int (bt a)), (4, .int (nI 0))]) [2, 3, 4, 1, 0] rfl ?_
    refine loop_up (fun k => fnd (6 - k) k (fun k => tb (rch (σ 1) a k) b) = fnd 6 0 (fun k => tb (rch (σ 1) a k) b) → av_Ev l RX5 cX5_hops 5 (some .int) av_E0 2 21 [(0, .ref 63), (1, .int (nI a)), (2, .int (nI b)), (3, .int (rch (σ 1) a k)), (4, .int (nI k))] [] σ Q) 6 ?_ ?_ (rfl)
    · intro hR
      refine ev_iload dX5_hops_21 4 rfl ?_
      refine ev_bipush dX5_hops_23 (v := nI 6) (by decide) ?_
      refine ev_ncmp_ge (tgt := 54) dX5_hops_25 (by decide) (by omega) (by omega) (fun h25 => ?_) (fun h25 => ?_)
      · refine ev_bipush dX5_hops_54 (v := (-9)) (by decide) ?_
        exact ev_ireturn dX5_hops_56 rfl rfl (leafI hQ (by unfold hpI; rw [← hR]; rfl) rfl)
      · exact absurd h25 (by omega)
    · intro k hk ihk hR
      refine ev_iload dX5_hops_21 4 rfl ?_
      refine ev_bipush dX5_hops_23 (v := nI 6) (by decide) ?_
      refine ev_ncmp_ge (tgt := 54) dX5_hops_25 (by decide) (by omega) (by omega) (fun h25 => ?_) (fun h25 => ?_)
      · exact absurd h25 (by omega)
      · refine ev_iload_n dX5_hops_28 rfl 3 rfl ?_
        refine ev_iload_n dX5_hops_29 rfl 2 rfl ?_
        refine ev_callSi (x := b2i (tb (rch (σ 1) a k) b)) dX5_hops_30 (Or.inl M_X5_91) Y_X5_hasBit [.int (rch (σ 1) a k), .int (nI b)] (c_X5_hasBit (rch (σ 1) a k) b (by omega)) (by decide) (Nat.le_of_ble_eq_true rfl) rfl rfl (Nat.le_of_ble_eq_true rfl) ?_
        refine ev_ifb_eq (tgt := 39) dX5_hops_33 (by decide) (fun h33 => ?_) (fun h33 => ?_)
        · refine ev_aload_n dX5_hops_39 rfl 0 rfl ?_
          refine ev_getR dX5_hops_40 C_X5 L_X5_12 (by decide) (by decide) sh_63 rfl ?_
          refine ev_iload_n dX5_hops_43 rfl 3 rfl ?_
          refine ev_callVi (x := wn (σ 1) (rch (σ 1) a k)) dX5_hops_44 M_X5_94 Y_X4_withNeighbours [.int (rch (σ 1) a k)] (c_X4_withNeighbours (rch (σ 1) a k) ) (by decide) (Nat.le_of_ble_eq_true rfl) (by decide) sh_0 rfl rfl rfl (Nat.le_of_ble_eq_true rfl) ?_
          refine ev_istore_n (lv' := [(3, .int (wn (σ 1) (rch (σ 1) a k))), (0, .ref 63), (1, .int (nI a)), (2, .int (nI b)), (4, .int (nI k))]) dX5_hops_47 rfl (by decide) rfl ?_
          refine ev_iinc (lv' := [(4, .int (nI (k + 1))), (3, .int (wn (σ 1) (rch (σ 1) a k))), (0, .ref 63), (1, .int (nI a)), (2, .int (nI b))]) dX5_hops_48 4 rfl (nI_inc k) (by decide) rfl ?_
          refine ev_goto (tgt := 21) dX5_hops_51 (by decide) ?_
          refine ev_lv (lv' := [(0, .ref 63), (1, .int (nI a)), (2, .int (nI b)), (3, .int (wn (σ 1) (rch (σ 1) a k))), (4, .int (nI (k + 1)))]) [2, 3, 4, 1, 0] rfl ?_
          have ih9 := ihk (by rw [← hR, fnd_go hk]; simp [h9, h25, h33])
          rw [show rch (σ 1) a (k + 1) = wn (σ 1) (rch (σ 1) a k) from rfl] at ih9
          exact ih9
        · refine ev_iload dX5_hops_36 4 rfl ?_
          exact ev_ireturn dX5_hops_38 rfl rfl (leafI hQ (by unfold hpI; rw [← hR, fnd_go hk, h33]; rfl) rfl)
  · exact absurd (hs.symm.trans h9) (by decide)

set_option maxRecDepth 100000 in
set_option maxHeartbeats 1000000 in
theorem c_X5_signOn_bad {l : Launch} {σ : av_S} (x : Int32) (y : Int32) (hx : (sv (σ 0 0) x && sv (nI 10) y) = false) : av_M l RX5 cX5_signOn 4 (some .int) 1 [.ref 63, .int x, .int y] σ (some (.int (-1))) σ := by
  intro Q hQ
  show av_Ev l RX5 cX5_signOn 4 (some .int) av_E0 1 0 [(0, .ref 63), (1, .int x), (2, .int y)] [] σ Q
  refine ev_aload_n dX5_signOn_0 rfl 0 rfl ?_
  refine ev_getR dX5_signOn_1 C_X5 L_X5_12 (by decide) (by decide) sh_63 rfl ?_
  refine ev_iload_n dX5_signOn_4 rfl 1 rfl ?_
  refine ev_callVi (x := b2i (sv (σ 0 0) x)) dX5_signOn_5 M_X5_97 Y_X4_hasServer [.int x] (c_X4_hasServer x ) (by decide) (Nat.le_of_ble_eq_true rfl) (by decide) sh_0 rfl rfl rfl (Nat.le_of_ble_eq_true rfl) ?_
  refine ev_ifb_eq (tgt := 18) dX5_signOn_8 (by decide) (fun h8 => ?_) (fun h8 => ?_)
  · refine ev_iconst dX5_signOn_18 (v := (-1)) (by decide) ?_
    exact ev_ireturn dX5_signOn_19 rfl rfl (leafI hQ rfl rfl)
  · refine ev_iload_n dX5_signOn_11 rfl 2 rfl ?_
    refine ev_callSi (x := b2i (sv (nI 10) y)) dX5_signOn_12 (Or.inl M_X5_101) Y_X5_isNick [.int y] (c_X5_isNick y ) (by decide) (Nat.le_of_ble_eq_true rfl) rfl rfl (Nat.le_of_ble_eq_true rfl) ?_
    refine ev_ifb_ne (tgt := 20) dX5_signOn_15 (by decide) (fun h15 => ?_) (fun h15 => ?_)
    · exact absurd hx (by simp [h8, h15])
    · refine ev_iconst dX5_signOn_18 (v := (-1)) (by decide) ?_
      exact ev_ireturn dX5_signOn_19 rfl rfl (leafI hQ rfl rfl)

set_option maxRecDepth 100000 in
set_option maxHeartbeats 1000000 in
theorem c_X5_signOn_st {l : Launch} {σ : av_S} (s : Nat) (n : Nat) (u : Nat) (hs : s < 6) (hn0 : n < 10) (hs1 : sv (σ 0 0) (nI s) = true) (hn1 : sv (nI 10) (nI n) = true) (ho : hm (σ 2) (net (σ 1) s) n = some u) (hu : u < 6) : av_M l RX5 cX5_signOn 4 (some .int) 3 [.ref 63, .int (nI s), .int (nI n)] σ (some (.int (-2))) σ := by
  intro Q hQ
  show av_Ev l RX5 cX5_signOn 4 (some .int) av_E0 3 0 [(0, .ref 63), (1, .int (nI s)), (2, .int (nI n))] [] σ Q
  refine ev_aload_n dX5_signOn_0 rfl 0 rfl ?_
  refine ev_getR dX5_signOn_1 C_X5 L_X5_12 (by decide) (by decide) sh_63 rfl ?_
  refine ev_iload_n dX5_signOn_4 rfl 1 rfl ?_
  refine ev_callVi (x := b2i (sv (σ 0 0) (nI s))) dX5_signOn_5 M_X5_97 Y_X4_hasServer [.int (nI s)] (c_X4_hasServer (nI s) ) (by decide) (Nat.le_of_ble_eq_true rfl) (by decide) sh_0 rfl rfl rfl (Nat.le_of_ble_eq_true rfl) ?_
  refine ev_ifb_eq (tgt := 18) dX5_signOn_8 (by decide) (fun h8 => ?_) (fun h8 => ?_)
  · exact absurd (hs1.symm.trans h8) (by decide)
  · refine ev_iload_n dX5_signOn_11 rfl 2 rfl ?_
    refine ev_callSi (x := b2i (sv (nI 10) (nI n))) dX5_signOn_12 (Or.inl M_X5_101) Y_X5_isNick [.int (nI n)] (c_X5_isNick (nI n) ) (by decide) (Nat.le_of_ble_eq_true rfl) rfl rfl (Nat.le_of_ble_eq_true rfl) ?_
    refine ev_ifb_ne (tgt := 20) dX5_signOn_15 (by decide) (fun h15 => ?_) (fun h15 => ?_)
    · refine ev_aload_n dX5_signOn_20 rfl 0 rfl ?_
      refine ev_getR dX5_signOn_21 C_X5 L_X5_12 (by decide) (by decide) sh_63 rfl ?_
      refine ev_iload_n dX5_signOn_24 rfl 1 rfl ?_
      refine ev_callVi (x := net (σ 1) s) dX5_signOn_25 M_X5_79 Y_X4_networkOf [.int (nI s)] (c_X4_networkOf s (by omega)) (by decide) (Nat.le_of_ble_eq_true rfl) (by decide) sh_0 rfl rfl rfl (Nat.le_of_ble_eq_true rfl) ?_
      refine ev_istore_n (lv' := [(3, .int (net (σ 1) s)), (0, .ref 63), (1, .int (nI s)), (2, .int (nI n))]) dX5_signOn_28 rfl (by decide) rfl ?_
      refine ev_aload_n dX5_signOn_29 rfl 1 rfl ?_
      refine ev_getR dX5_signOn_30 C_X5 L_X5_12 (by decide) (by decide) sh_63 rfl ?_
      refine ev_iload_n dX5_signOn_33 rfl 0 rfl ?_
      refine ev_iload_n dX5_signOn_34 rfl 3 rfl ?_
      refine ev_callVi (x := oI (hm (σ 2) (net (σ 1) s) n)) dX5_signOn_35 M_X5_104 Y_X4_homeIn [.int (net (σ 1) s), .int (nI n)] (c_X4_homeIn (net (σ 1) s) n (by omega)) (by decide) (Nat.le_of_ble_eq_true rfl) (by decide) sh_0 rfl rfl rfl (Nat.le_of_ble_eq_true rfl) ?_
      refine ev_top (v := nI u) (by rw [ho]; rfl) ?_
      refine ev_iconst dX5_signOn_38 (v := (-1)) (by decide) ?_
      refine ev_icmp_eq (tgt := 45) dX5_signOn_39 (by decide) (fun h39 => ?_) (fun h39 => ?_)
      · exact absurd h39 (nI_neg (by omega) (by decide))
      · refine ev_bipush dX5_signOn_42 (v := (-2)) (by decide) ?_
        exact ev_ireturn dX5_signOn_44 rfl rfl (leafI hQ rfl rfl)
    · exact absurd (hn1.symm.trans h15) (by decide)

set_option maxRecDepth 100000 in
set_option maxHeartbeats 1000000 in
theorem c_X5_signOn_ok {l : Launch} {σ : av_S} (s : Nat) (n : Nat) (j : Nat) (c : Nat) (hs : s < 6) (hn0 : n < 10) (hs1 : sv (σ 0 0) (nI s) = true) (hn1 : sv (nI 10) (nI n) = true) (ho : hm (σ 2) (net (σ 1) s) n = none) (hj : σ 64 1 = nI j) (hj8 : j < 8) (hcc : σ 64 2 = nI c) (hc8 : c ≤ 8) : av_M l RX5 cX5_signOn 4 (some .int) 3 [.ref 63, .int (nI s), .int (nI n)] σ (some (.int (nI (cu (upd (σ 2) (s * 10 + n) (σ 0 1)) (net (σ 1) s))))) (av_set (hkeep σ j c) 2 (upd (σ 2) (s * 10 + n) (σ 0 1))) := by
  intro Q hQ
  show av_Ev l RX5 cX5_signOn 4 (some .int) av_E0 3 0 [(0, .ref 63), (1, .int (nI s)), (2, .int (nI n))] [] σ Q
  refine ev_aload_n dX5_signOn_0 rfl 0 rfl ?_
  refine ev_getR dX5_signOn_1 C_X5 L_X5_12 (by decide) (by decide) sh_63 rfl ?_
  refine ev_iload_n dX5_signOn_4 rfl 1 rfl ?_
  refine ev_callVi (x := b2i (sv (σ 0 0) (nI s))) dX5_signOn_5 M_X5_97 Y_X4_hasServer [.int (nI s)] (c_X4_hasServer (nI s) ) (by decide) (Nat.le_of_ble_eq_true rfl) (by decide) sh_0 rfl rfl rfl (Nat.le_of_ble_eq_true rfl) ?_
  refine ev_ifb_eq (tgt := 18) dX5_signOn_8 (by decide) (fun h8 => ?_) (fun h8 => ?_)
  · exact absurd (hs1.symm.trans h8) (by decide)
  · refine ev_iload_n dX5_signOn_11 rfl 2 rfl ?_
    refine ev_callSi (x := b2i (sv (nI 10) (nI n))) dX5_signOn_12 (Or.inl M_X5_101) Y_X5_isNick [.int (nI n)] (c_X5_isNick (nI n) ) (by decide) (Nat.le_of_ble_eq_true rfl) rfl rfl (Nat.le_of_ble_eq_true rfl) ?_
    refine ev_ifb_ne (tgt := 20) dX5_signOn_15 (by decide) (fun h15 => ?_) (fun h15 => ?_)
    · refine ev_aload_n dX5_signOn_20 rfl 0 rfl ?_
      refine ev_getR dX5_signOn_21 C_X5 L_X5_12 (by decide) (by decide) sh_63 rfl ?_
      refine ev_iload_n dX5_signOn_24 rfl 1 rfl ?_
      refine ev_callVi (x := net (σ 1) s) dX5_signOn_25 M_X5_79 Y_X4_networkOf [.int (nI s)] (c_X4_networkOf s (by omega)) (by decide) (Nat.le_of_ble_eq_true rfl) (by decide) sh_0 rfl rfl rfl (Nat.le_of_ble_eq_true rfl) ?_
      refine ev_istore_n (lv' := [(3, .int (net (σ 1) s)), (0, .ref 63), (1, .int (nI s)), (2, .int (nI n))]) dX5_signOn_28 rfl (by decide) rfl ?_
      refine ev_aload_n dX5_signOn_29 rfl 1 rfl ?_
      refine ev_getR dX5_signOn_30 C_X5 L_X5_12 (by decide) (by decide) sh_63 rfl ?_
      refine ev_iload_n dX5_signOn_33 rfl 0 rfl ?_
      refine ev_iload_n dX5_signOn_34 rfl 3 rfl ?_
      refine ev_callVi (x := oI (hm (σ 2) (net (σ 1) s) n)) dX5_signOn_35 M_X5_104 Y_X4_homeIn [.int (net (σ 1) s), .int (nI n)] (c_X4_homeIn (net (σ 1) s) n (by omega)) (by decide) (Nat.le_of_ble_eq_true rfl) (by decide) sh_0 rfl rfl rfl (Nat.le_of_ble_eq_true rfl) ?_
      refine ev_top (v := (-1)) (by rw [ho]; rfl) ?_
      refine ev_iconst dX5_signOn_38 (v := (-1)) (by decide) ?_
      refine ev_icmp_eq (tgt := 45) dX5_signOn_39 (by decide) (fun h39 => ?_) (fun h39 => ?_)
      · refine ev_aload_n dX5_signOn_45 rfl 1 rfl ?_
        refine ev_getR dX5_signOn_46 C_X5 L_X5_19 (by decide) (by decide) sh_63 rfl ?_
        refine ev_aload_n dX5_signOn_49 rfl 1 rfl ?_
        refine ev_getR dX5_signOn_50 C_X5 L_X5_12 (by decide) (by decide) sh_63 rfl ?_
        refine ev_callVv (σ' := hkeep σ j c) dX5_signOn_53 M_X5_41 Y_X0_keep [.ref 0] (c_X0_keep j c (by first | exact hj | omega) (by first | exact hj8 | omega) (by first | exact hcc | omega) (by first | exact hc8 | omega)) (by decide) (Nat.le_of_ble_eq_true rfl) (by decide) sh_64 rfl rfl rfl (Nat.le_of_ble_eq_true rfl) ?_
        refine ev_aload_n dX5_signOn_56 rfl 1 rfl ?_
        refine ev_getR dX5_signOn_57 C_X5 L_X5_12 (by decide) (by decide) sh_63 rfl ?_
        refine ev_iload_n dX5_signOn_60 rfl 2 rfl ?_
        refine ev_iload_n dX5_signOn_61 rfl 3 rfl ?_
        refine ev_callVv dX5_signOn_62 M_X5_108 Y_X4_addUser [.int (nI s), .int (nI n)] (c_X4_addUser s n (by omega) (by omega)) (by decide) (Nat.le_of_ble_eq_true rfl) (by decide) sh_0 rfl rfl rfl (Nat.le_of_ble_eq_true rfl) ?_
        refine ev_st (σ' := av_set (hkeep σ j c) 2 (upd (σ 2) (s * 10 + n) (σ 0 1))) (by first | rfl | (funext a; by_cases q2 : a = 2; (next => subst q2; rfl); simp only [av_set, q2, if_false]) | exact av_set_set _ _ _ _ | (funext a; unfold av_set; (repeat' split) <;> first | rfl | (exfalso; omega)) | (funext a; simp only [av_set, cpS]; (repeat' split) <;> first | rfl | (exfalso; omega))) ?_
        refine ev_aload_n dX5_signOn_65 rfl 1 rfl ?_
        refine ev_getR dX5_signOn_66 C_X5 L_X5_12 (by decide) (by decide) sh_63 rfl ?_
        refine ev_iload_n dX5_signOn_69 rfl 0 rfl ?_
        refine ev_callVi (x := nI (cu (upd (σ 2) (s * 10 + n) (σ 0 1)) (net (σ 1) s))) dX5_signOn_70 M_X5_37 Y_X4_countUsers [.int (net (σ 1) s)] (c_X4_countUsers (net (σ 1) s) ) (by decide) (Nat.le_of_ble_eq_true rfl) (by decide) sh_0 rfl rfl rfl (Nat.le_of_ble_eq_true rfl) ?_
        exact ev_ireturn dX5_signOn_73 rfl rfl (leafI hQ rfl rfl)
      · exact absurd rfl h39
    · exact absurd (hn1.symm.trans h15) (by decide)

set_option maxRecDepth 100000 in
set_option maxHeartbeats 1000000 in
theorem c_X5_signOff_bad {l : Launch} {σ : av_S} (x : Int32) (y : Int32) (hx : (sv (σ 0 0) x && sv (nI 10) y) = false) : av_M l RX5 cX5_signOff 4 (some .int) 1 [.ref 63, .int x, .int y] σ (some (.int (-1))) σ := by
  intro Q hQ
  show av_Ev l RX5 cX5_signOff 4 (some .int) av_E0 1 0 [(0, .ref 63), (1, .int x), (2, .int y)] [] σ Q
  refine ev_aload_n dX5_signOff_0 rfl 0 rfl ?_
  refine ev_getR dX5_signOff_1 C_X5 L_X5_12 (by decide) (by decide) sh_63 rfl ?_
  refine ev_iload_n dX5_signOff_4 rfl 1 rfl ?_
  refine ev_callVi (x := b2i (sv (σ 0 0) x)) dX5_signOff_5 M_X5_97 Y_X4_hasServer [.int x] (c_X4_hasServer x ) (by decide) (Nat.le_of_ble_eq_true rfl) (by decide) sh_0 rfl rfl rfl (Nat.le_of_ble_eq_true rfl) ?_
  refine ev_ifb_eq (tgt := 18) dX5_signOff_8 (by decide) (fun h8 => ?_) (fun h8 => ?_)
  · refine ev_iconst dX5_signOff_18 (v := (-1)) (by decide) ?_
    exact ev_ireturn dX5_signOff_19 rfl rfl (leafI hQ rfl rfl)
  · refine ev_iload_n dX5_signOff_11 rfl 2 rfl ?_
    refine ev_callSi (x := b2i (sv (nI 10) y)) dX5_signOff_12 (Or.inl M_X5_101) Y_X5_isNick [.int y] (c_X5_isNick y ) (by decide) (Nat.le_of_ble_eq_true rfl) rfl rfl (Nat.le_of_ble_eq_true rfl) ?_
    refine ev_ifb_ne (tgt := 20) dX5_signOff_15 (by decide) (fun h15 => ?_) (fun h15 => ?_)
    · exact absurd hx (by simp [h8, h15])
    · refine ev_iconst dX5_signOff_18 (v := (-1)) (by decide) ?_
      exact ev_ireturn dX5_signOff_19 rfl rfl (leafI hQ rfl rfl)

set_option maxRecDepth 100000 in
set_option maxHeartbeats 1000000 in
theorem c_X5_signOff_st {l : Launch} {σ : av_S} (s : Nat) (n : Nat) (hs : s < 6) (hn0 : n < 10) (hs1 : sv (σ 0 0) (nI s) = true) (hn1 : sv (nI 10) (nI n) = true) (hu : us (σ 2) s n = false) : av_M l RX5 cX5_signOff 4 (some .int) 2 [.ref 63, .int (nI s), .int (nI n)] σ (some (.int (-2))) σ := by
  intro Q hQ
  show av_Ev l RX5 cX5_signOff 4 (some .int) av_E0 2 0 [(0, .ref 63), (1, .int (nI s)), (2, .int (nI n))] [] σ Q
  refine ev_aload_n dX5_signOff_0 rfl 0 rfl ?_
  refine ev_getR dX5_signOff_1 C_X5 L_X5_12 (by decide) (by decide) sh_63 rfl ?_
  refine ev_iload_n dX5_signOff_4 rfl 1 rfl ?_
  refine ev_callVi (x := b2i (sv (σ 0 0) (nI s))) dX5_signOff_5 M_X5_97 Y_X4_hasServer [.int (nI s)] (c_X4_hasServer (nI s) ) (by decide) (Nat.le_of_ble_eq_true rfl) (by decide) sh_0 rfl rfl rfl (Nat.le_of_ble_eq_true rfl) ?_
  refine ev_ifb_eq (tgt := 18) dX5_signOff_8 (by decide) (fun h8 => ?_) (fun h8 => ?_)
  · exact absurd (hs1.symm.trans h8) (by decide)
  · refine ev_iload_n dX5_signOff_11 rfl 2 rfl ?_
    refine ev_callSi (x := b2i (sv (nI 10) (nI n))) dX5_signOff_12 (Or.inl M_X5_101) Y_X5_isNick [.int (nI n)] (c_X5_isNick (nI n) ) (by decide) (Nat.le_of_ble_eq_true rfl) rfl rfl (Nat.le_of_ble_eq_true rfl) ?_
    refine ev_ifb_ne (tgt := 20) dX5_signOff_15 (by decide) (fun h15 => ?_) (fun h15 => ?_)
    · refine ev_aload_n dX5_signOff_20 rfl 0 rfl ?_
      refine ev_getR dX5_signOff_21 C_X5 L_X5_12 (by decide) (by decide) sh_63 rfl ?_
      refine ev_iload_n dX5_signOff_24 rfl 1 rfl ?_
      refine ev_iload_n dX5_signOff_25 rfl 2 rfl ?_
      refine ev_callVi (x := b2i (us (σ 2) s n)) dX5_signOff_26 M_X5_111 Y_X4_hasUser [.int (nI s), .int (nI n)] (c_X4_hasUser s n (by omega) (by omega)) (by decide) (Nat.le_of_ble_eq_true rfl) (by decide) sh_0 rfl rfl rfl (Nat.le_of_ble_eq_true rfl) ?_
      refine ev_ifb_ne (tgt := 35) dX5_signOff_29 (by decide) (fun h29 => ?_) (fun h29 => ?_)
      · exact absurd (hu.symm.trans h29) (by decide)
      · refine ev_bipush dX5_signOff_32 (v := (-2)) (by decide) ?_
        exact ev_ireturn dX5_signOff_34 rfl rfl (leafI hQ rfl rfl)
    · exact absurd (hn1.symm.trans h15) (by decide)

set_option maxRecDepth 100000 in
set_option maxHeartbeats 1000000 in
theorem c_X5_signOff_ok {l : Launch} {σ : av_S} (s : Nat) (n : Nat) (j : Nat) (c : Nat) (hs : s < 6) (hn0 : n < 10) (hs1 : sv (σ 0 0) (nI s) = true) (hn1 : sv (nI 10) (nI n) = true) (hu : us (σ 2) s n = true) (hj : σ 64 1 = nI j) (hj8 : j < 8) (hcc : σ 64 2 = nI c) (hc8 : c ≤ 8) : av_M l RX5 cX5_signOff 4 (some .int) 3 [.ref 63, .int (nI s), .int (nI n)] σ (some (.int (nI (cc4 (σ 3) s n)))) (av_set (av_set (av_set (hkeep σ j c) 2 (upd (σ 2) (s * 10 + n) (-1))) 3 (rmA (σ 3) s n)) 4 (rmA (σ 4) s n)) := by
  intro Q hQ
  show av_Ev l RX5 cX5_signOff 4 (some .int) av_E0 3 0 [(0, .ref 63), (1, .int (nI s)), (2, .int (nI n))] [] σ Q
  refine ev_aload_n dX5_signOff_0 rfl 0 rfl ?_
  refine ev_getR dX5_signOff_1 C_X5 L_X5_12 (by decide) (by decide) sh_63 rfl ?_
  refine ev_iload_n dX5_signOff_4 rfl 1 rfl ?_
  refine ev_callVi (x := b2i (sv (σ 0 0) (nI s))) dX5_signOff_5 M_X5_97 Y_X4_hasServer [.int (nI s)] (c_X4_hasServer (nI s) ) (by decide) (Nat.le_of_ble_eq_true rfl) (by decide) sh_0 rfl rfl rfl (Nat.le_of_ble_eq_true rfl) ?_
  refine ev_ifb_eq (tgt := 18) dX5_signOff_8 (by decide) (fun h8 => ?_) (fun h8 => ?_)
  · exact absurd (hs1.symm.trans h8) (by decide)
  · refine ev_iload_n dX5_signOff_11 rfl 2 rfl ?_
    refine ev_callSi (x := b2i (sv (nI 10) (nI n))) dX5_signOff_12 (Or.inl M_X5_101) Y_X5_isNick [.int (nI n)] (c_X5_isNick (nI n) ) (by decide) (Nat.le_of_ble_eq_true rfl) rfl rfl (Nat.le_of_ble_eq_true rfl) ?_
    refine ev_ifb_ne (tgt := 20) dX5_signOff_15 (by decide) (fun h15 => ?_) (fun h15 => ?_)
    · refine ev_aload_n dX5_signOff_20 rfl 0 rfl ?_
      refine ev_getR dX5_signOff_21 C_X5 L_X5_12 (by decide) (by decide) sh_63 rfl ?_
      refine ev_iload_n dX5_signOff_24 rfl 1 rfl ?_
      refine ev_iload_n dX5_signOff_25 rfl 2 rfl ?_
      refine ev_callVi (x := b2i (us (σ 2) s n)) dX5_signOff_26 M_X5_111 Y_X4_hasUser [.int (nI s), .int (nI n)] (c_X4_hasUser s n (by omega) (by omega)) (by decide) (Nat.le_of_ble_eq_true rfl) (by decide) sh_0 rfl rfl rfl (Nat.le_of_ble_eq_true rfl) ?_
      refine ev_ifb_ne (tgt := 35) dX5_signOff_29 (by decide) (fun h29 => ?_) (fun h29 => ?_)
      · refine ev_aload_n dX5_signOff_35 rfl 0 rfl ?_
        refine ev_getR dX5_signOff_36 C_X5 L_X5_12 (by decide) (by decide) sh_63 rfl ?_
        refine ev_iload_n dX5_signOff_39 rfl 1 rfl ?_
        refine ev_iload_n dX5_signOff_40 rfl 2 rfl ?_
        refine ev_callVi (x := nI (cc4 (σ 3) s n)) dX5_signOff_41 M_X5_114 Y_X4_countChannelsOf [.int (nI s), .int (nI n)] (c_X4_countChannelsOf s n (by omega) (by omega)) (by decide) (Nat.le_of_ble_eq_true rfl) (by decide) sh_0 rfl rfl rfl (Nat.le_of_ble_eq_true rfl) ?_
        refine ev_istore_n (lv' := [(3, .int (nI (cc4 (σ 3) s n))), (0, .ref 63), (1, .int (nI s)), (2, .int (nI n))]) dX5_signOff_44 rfl (by decide) rfl ?_
        refine ev_aload_n dX5_signOff_45 rfl 1 rfl ?_
        refine ev_getR dX5_signOff_46 C_X5 L_X5_19 (by decide) (by decide) sh_63 rfl ?_
        refine ev_aload_n dX5_signOff_49 rfl 1 rfl ?_
        refine ev_getR dX5_signOff_50 C_X5 L_X5_12 (by decide) (by decide) sh_63 rfl ?_
        refine ev_callVv (σ' := hkeep σ j c) dX5_signOff_53 M_X5_41 Y_X0_keep [.ref 0] (c_X0_keep j c (by first | exact hj | omega) (by first | exact hj8 | omega) (by first | exact hcc | omega) (by first | exact hc8 | omega)) (by decide) (Nat.le_of_ble_eq_true rfl) (by decide) sh_64 rfl rfl rfl (Nat.le_of_ble_eq_true rfl) ?_
        refine ev_aload_n dX5_signOff_56 rfl 1 rfl ?_
        refine ev_getR dX5_signOff_57 C_X5 L_X5_12 (by decide) (by decide) sh_63 rfl ?_
        refine ev_iload_n dX5_signOff_60 rfl 2 rfl ?_
        refine ev_iload_n dX5_signOff_61 rfl 3 rfl ?_
        refine ev_callVv dX5_signOff_62 M_X5_117 Y_X4_removeUser [.int (nI s), .int (nI n)] (c_X4_removeUser s n (by omega) (by omega)) (by decide) (Nat.le_of_ble_eq_true rfl) (by decide) sh_0 rfl rfl rfl (Nat.le_of_ble_eq_true rfl) ?_
        refine ev_st (σ' := av_set (av_set (av_set (hkeep σ j c) 2 (upd (σ 2) (s * 10 + n) (-1))) 3 (rmA (σ 3) s n)) 4 (rmA (σ 4) s n)) (by first | rfl | (funext a; by_cases q2 : a = 2; (next => subst q2; rfl); by_cases q3 : a = 3; (next => subst q3; rfl); by_cases q4 : a = 4; (next => subst q4; rfl); simp only [av_set, q2, q3, q4, if_false]) | exact av_set_set _ _ _ _ | (funext a; unfold av_set; (repeat' split) <;> first | rfl | (exfalso; omega)) | (funext a; simp only [av_set, cpS]; (repeat' split) <;> first | rfl | (exfalso; omega))) ?_
        refine ev_iload_n dX5_signOff_65 rfl 0 rfl ?_
        exact ev_ireturn dX5_signOff_66 rfl rfl (leafI hQ rfl rfl)
      · exact absurd (hu.symm.trans h29) (by decide)
    · exact absurd (hn1.symm.trans h15) (by decide)

set_option maxRecDepth 100000 in
set_option maxHeartbeats 1000000 in
theorem c_X5_changeNick_bad {l : Launch} {σ : av_S} (x : Int32) (y : Int32) (z : Int32) (hx : (sv (σ 0 0) x && sv (nI 10) y && sv (nI 10) z) = false) : av_M l RX5 cX5_changeNick 5 (some .int) 1 [.ref 63, .int x, .int y, .int z] σ (some (.int (-1))) σ := by
  intro Q hQ
  show av_Ev l RX5 cX5_changeNick 5 (some .int) av_E0 1 0 [(0, .ref 63), (1, .int x), (2, .int y), (3, .int z)] [] σ Q
  refine ev_aload_n dX5_changeNick_0 rfl 0 rfl ?_
  refine ev_getR dX5_changeNick_1 C_X5 L_X5_12 (by decide) (by decide) sh_63 rfl ?_
  refine ev_iload_n dX5_changeNick_4 rfl 1 rfl ?_
  refine ev_callVi (x := b2i (sv (σ 0 0) x)) dX5_changeNick_5 M_X5_97 Y_X4_hasServer [.int x] (c_X4_hasServer x ) (by decide) (Nat.le_of_ble_eq_true rfl) (by decide) sh_0 rfl rfl rfl (Nat.le_of_ble_eq_true rfl) ?_
  refine ev_ifb_eq (tgt := 25) dX5_changeNick_8 (by decide) (fun h8 => ?_) (fun h8 => ?_)
  · refine ev_iconst dX5_changeNick_25 (v := (-1)) (by decide) ?_
    exact ev_ireturn dX5_changeNick_26 rfl rfl (leafI hQ rfl rfl)
  · refine ev_iload_n dX5_changeNick_11 rfl 2 rfl ?_
    refine ev_callSi (x := b2i (sv (nI 10) y)) dX5_changeNick_12 (Or.inl M_X5_101) Y_X5_isNick [.int y] (c_X5_isNick y ) (by decide) (Nat.le_of_ble_eq_true rfl) rfl rfl (Nat.le_of_ble_eq_true rfl) ?_
    refine ev_ifb_eq (tgt := 25) dX5_changeNick_15 (by decide) (fun h15 => ?_) (fun h15 => ?_)
    · refine ev_iconst dX5_changeNick_25 (v := (-1)) (by decide) ?_
      exact ev_ireturn dX5_changeNick_26 rfl rfl (leafI hQ rfl rfl)
    · refine ev_iload_n dX5_changeNick_18 rfl 3 rfl ?_
      refine ev_callSi (x := b2i (sv (nI 10) z)) dX5_changeNick_19 (Or.inl M_X5_101) Y_X5_isNick [.int z] (c_X5_isNick z ) (by decide) (Nat.le_of_ble_eq_true rfl) rfl rfl (Nat.le_of_ble_eq_true rfl) ?_
      refine ev_ifb_ne (tgt := 27) dX5_changeNick_22 (by decide) (fun h22 => ?_) (fun h22 => ?_)
      · exact absurd hx (by simp [h8, h15, h22])
      · refine ev_iconst dX5_changeNick_25 (v := (-1)) (by decide) ?_
        exact ev_ireturn dX5_changeNick_26 rfl rfl (leafI hQ rfl rfl)

set_option maxRecDepth 100000 in
set_option maxHeartbeats 1000000 in
theorem c_X5_changeNick_st1 {l : Launch} {σ : av_S} (s : Nat) (n : Nat) (q : Nat) (hs : s < 6) (hn0 : n < 10) (hs1 : sv (σ 0 0) (nI s) = true) (hn1 : sv (nI 10) (nI n) = true) (hq0 : q < 10) (hq1 : sv (nI 10) (nI q) = true) (hu : us (σ 2) s n = false) : av_M l RX5 cX5_changeNick 5 (some .int) 2 [.ref 63, .int (nI s), .int (nI n), .int (nI q)] σ (some (.int (-2))) σ := by
  intro Q hQ
  show av_Ev l RX5 cX5_changeNick 5 (some .int) av_E0 2 0 [(0, .ref 63), (1, .int (nI s)), (2, .int (nI n)), (3, .int (nI q))] [] σ Q
  refine ev_aload_n dX5_changeNick_0 rfl 0 rfl ?_
  refine ev_getR dX5_changeNick_1 C_X5 L_X5_12 (by decide) (by decide) sh_63 rfl ?_
  refine ev_iload_n dX5_changeNick_4 rfl 1 rfl ?_
  refine ev_callVi (x := b2i (sv (σ 0 0) (nI s))) dX5_changeNick_5 M_X5_97 Y_X4_hasServer [.int (nI s)] (c_X4_hasServer (nI s) ) (by decide) (Nat.le_of_ble_eq_true rfl) (by decide) sh_0 rfl rfl rfl (Nat.le_of_ble_eq_true rfl) ?_
  refine ev_ifb_eq (tgt := 25) dX5_changeNick_8 (by decide) (fun h8 => ?_) (fun h8 => ?_)
  · exact absurd (hs1.symm.trans h8) (by decide)
  · refine ev_iload_n dX5_changeNick_11 rfl 2 rfl ?_
    refine ev_callSi (x := b2i (sv (nI 10) (nI n))) dX5_changeNick_12 (Or.inl M_X5_101) Y_X5_isNick [.int (nI n)] (c_X5_isNick (nI n) ) (by decide) (Nat.le_of_ble_eq_true rfl) rfl rfl (Nat.le_of_ble_eq_true rfl) ?_
    refine ev_ifb_eq (tgt := 25) dX5_changeNick_15 (by decide) (fun h15 => ?_) (fun h15 => ?_)
    · exact absurd (hn1.symm.trans h15) (by decide)
    · refine ev_iload_n dX5_changeNick_18 rfl 3 rfl ?_
      refine ev_callSi (x := b2i (sv (nI 10) (nI q))) dX5_changeNick_19 (Or.inl M_X5_101) Y_X5_isNick [.int (nI q)] (c_X5_isNick (nI q) ) (by decide) (Nat.le_of_ble_eq_true rfl) rfl rfl (Nat.le_of_ble_eq_true rfl) ?_
      refine ev_ifb_ne (tgt := 27) dX5_changeNick_22 (by decide) (fun h22 => ?_) (fun h22 => ?_)
      · refine ev_aload_n dX5_changeNick_27 rfl 0 rfl ?_
        refine ev_getR dX5_changeNick_28 C_X5 L_X5_12 (by decide) (by decide) sh_63 rfl ?_
        refine ev_iload_n dX5_changeNick_31 rfl 1 rfl ?_
        refine ev_iload_n dX5_changeNick_32 rfl 2 rfl ?_
        refine ev_callVi (x := b2i (us (σ 2) s n)) dX5_changeNick_33 M_X5_111 Y_X4_hasUser [.int (nI s), .int (nI n)] (c_X4_hasUser s n (by omega) (by omega)) (by decide) (Nat.le_of_ble_eq_true rfl) (by decide) sh_0 rfl rfl rfl (Nat.le_of_ble_eq_true rfl) ?_
        refine ev_ifb_eq (tgt := 59) dX5_changeNick_36 (by decide) (fun h36 => ?_) (fun h36 => ?_)
        · refine ev_bipush dX5_changeNick_59 (v := (-2)) (by decide) ?_
          exact ev_ireturn dX5_changeNick_61 rfl rfl (leafI hQ rfl rfl)
        · exact absurd (hu.symm.trans h36) (by decide)
      · exact absurd (hq1.symm.trans h22) (by decide)

set_option maxRecDepth 100000 in
set_option maxHeartbeats 1000000 in
theorem c_X5_changeNick_st2 {l : Launch} {σ : av_S} (s : Nat) (n : Nat) (q : Nat) (u : Nat) (hs : s < 6) (hn0 : n < 10) (hs1 : sv (σ 0 0) (nI s) = true) (hn1 : sv (nI 10) (nI n) = true) (hq0 : q < 10) (hq1 : sv (nI 10) (nI q) = true) (hu : us (σ 2) s n = true) (ho : hm (σ 2) (net (σ 1) s) q = some u) (hu6 : u < 6) : av_M l RX5 cX5_changeNick 5 (some .int) 3 [.ref 63, .int (nI s), .int (nI n), .int (nI q)] σ (some (.int (-2))) σ := by
  intro Q hQ
  show av_Ev l RX5 cX5_changeNick 5 (some .int) av_E0 3 0 [(0, .ref 63), (1, .int (nI s)), (2, .int (nI n)), (3, .int (nI q))] [] σ Q
  refine ev_aload_n dX5_changeNick_0 rfl 0 rfl ?_
  refine ev_getR dX5_changeNick_1 C_X5 L_X5_12 (by decide) (by decide) sh_63 rfl ?_
  refine ev_iload_n dX5_changeNick_4 rfl 1 rfl ?_
  refine ev_callVi (x := b2i (sv (σ 0 0) (nI s))) dX5_changeNick_5 M_X5_97 Y_X4_hasServer [.int (nI s)] (c_X4_hasServer (nI s) ) (by decide) (Nat.le_of_ble_eq_true rfl) (by decide) sh_0 rfl rfl rfl (Nat.le_of_ble_eq_true rfl) ?_
  refine ev_ifb_eq (tgt := 25) dX5_changeNick_8 (by decide) (fun h8 => ?_) (fun h8 => ?_)
  · exact absurd (hs1.symm.trans h8) (by decide)
  · refine ev_iload_n dX5_changeNick_11 rfl 2 rfl ?_
    refine ev_callSi (x := b2i (sv (nI 10) (nI n))) dX5_changeNick_12 (Or.inl M_X5_101) Y_X5_isNick [.int (nI n)] (c_X5_isNick (nI n) ) (by decide) (Nat.le_of_ble_eq_true rfl) rfl rfl (Nat.le_of_ble_eq_true rfl) ?_
    refine ev_ifb_eq (tgt := 25) dX5_changeNick_15 (by decide) (fun h15 => ?_) (fun h15 => ?_)
    · exact absurd (hn1.symm.trans h15) (by decide)
    · refine ev_iload_n dX5_changeNick_18 rfl 3 rfl ?_
      refine ev_callSi (x := b2i (sv (nI 10) (nI q))) dX5_changeNick_19 (Or.inl M_X5_101) Y_X5_isNick [.int (nI q)] (c_X5_isNick (nI q) ) (by decide) (Nat.le_of_ble_eq_true rfl) rfl rfl (Nat.le_of_ble_eq_true rfl) ?_
      refine ev_ifb_ne (tgt := 27) dX5_changeNick_22 (by decide) (fun h22 => ?_) (fun h22 => ?_)
      · refine ev_aload_n dX5_changeNick_27 rfl 0 rfl ?_
        refine ev_getR dX5_changeNick_28 C_X5 L_X5_12 (by decide) (by decide) sh_63 rfl ?_
        refine ev_iload_n dX5_changeNick_31 rfl 1 rfl ?_
        refine ev_iload_n dX5_changeNick_32 rfl 2 rfl ?_
        refine ev_callVi (x := b2i (us (σ 2) s n)) dX5_changeNick_33 M_X5_111 Y_X4_hasUser [.int (nI s), .int (nI n)] (c_X4_hasUser s n (by omega) (by omega)) (by decide) (Nat.le_of_ble_eq_true rfl) (by decide) sh_0 rfl rfl rfl (Nat.le_of_ble_eq_true rfl) ?_
        refine ev_ifb_eq (tgt := 59) dX5_changeNick_36 (by decide) (fun h36 => ?_) (fun h36 => ?_)
        · exact absurd (hu.symm.trans h36) (by decide)
        · refine ev_aload_n dX5_changeNick_39 rfl 0 rfl ?_
          refine ev_getR dX5_changeNick_40 C_X5 L_X5_12 (by decide) (by decide) sh_63 rfl ?_
          refine ev_aload_n dX5_changeNick_43 rfl 0 rfl ?_
          refine ev_getR dX5_changeNick_44 C_X5 L_X5_12 (by decide) (by decide) sh_63 rfl ?_
          refine ev_iload_n dX5_changeNick_47 rfl 1 rfl ?_
          refine ev_callVi (x := net (σ 1) s) dX5_changeNick_48 M_X5_79 Y_X4_networkOf [.int (nI s)] (c_X4_networkOf s (by omega)) (by decide) (Nat.le_of_ble_eq_true rfl) (by decide) sh_0 rfl rfl rfl (Nat.le_of_ble_eq_true rfl) ?_
          refine ev_iload_n dX5_changeNick_51 rfl 3 rfl ?_
          refine ev_callVi (x := oI (hm (σ 2) (net (σ 1) s) q)) dX5_changeNick_52 M_X5_104 Y_X4_homeIn [.int (net (σ 1) s), .int (nI q)] (c_X4_homeIn (net (σ 1) s) q (by omega)) (by decide) (Nat.le_of_ble_eq_true rfl) (by decide) sh_0 rfl rfl rfl (Nat.le_of_ble_eq_true rfl) ?_
          refine ev_top (v := nI u) (by rw [ho]; rfl) ?_
          refine ev_iconst dX5_changeNick_55 (v := (-1)) (by decide) ?_
          refine ev_icmp_eq (tgt := 62) dX5_changeNick_56 (by decide) (fun h56 => ?_) (fun h56 => ?_)
          · exact absurd h56 (nI_neg (by omega) (by decide))
          · refine ev_bipush dX5_changeNick_59 (v := (-2)) (by decide) ?_
            exact ev_ireturn dX5_changeNick_61 rfl rfl (leafI hQ rfl rfl)
      · exact absurd (hq1.symm.trans h22) (by decide)

set_option maxRecDepth 100000 in
set_option maxHeartbeats 1000000 in
theorem c_X5_changeNick_ok {l : Launch} {σ : av_S} (s : Nat) (n : Nat) (q : Nat) (j : Nat) (c : Nat) (hs : s < 6) (hn0 : n < 10) (hs1 : sv (σ 0 0) (nI s) = true) (hn1 : sv (nI 10) (nI n) = true) (hq0 : q < 10) (hq1 : sv (nI 10) (nI q) = true) (hu : us (σ 2) s n = true) (ho : hm (σ 2) (net (σ 1) s) q = none) (hj : σ 64 1 = nI j) (hj8 : j < 8) (hcc : σ 64 2 = nI c) (hc8 : c ≤ 8) : av_M l RX5 cX5_changeNick 5 (some .int) 4 [.ref 63, .int (nI s), .int (nI n), .int (nI q)] σ (some (.int (σ 2 (s * 10 + n)))) (av_set (av_set (av_set (hkeep σ j c) 2 (rmU (upd (σ 2) (s * 10 + q) (σ 0 1)) s n)) 3 (rmA (cpA (σ 3) s n q) s n)) 4 (rmA (cpA (σ 4) s n q) s n)) := by
  intro Q hQ
  show av_Ev l RX5 cX5_changeNick 5 (some .int) av_E0 4 0 [(0, .ref 63), (1, .int (nI s)), (2, .int (nI n)), (3, .int (nI q))] [] σ Q
  refine ev_aload_n dX5_changeNick_0 rfl 0 rfl ?_
  refine ev_getR dX5_changeNick_1 C_X5 L_X5_12 (by decide) (by decide) sh_63 rfl ?_
  refine ev_iload_n dX5_changeNick_4 rfl 1 rfl ?_
  refine ev_callVi (x := b2i (sv (σ 0 0) (nI s))) dX5_changeNick_5 M_X5_97 Y_X4_hasServer [.int (nI s)] (c_X4_hasServer (nI s) ) (by decide) (Nat.le_of_ble_eq_true rfl) (by decide) sh_0 rfl rfl rfl (Nat.le_of_ble_eq_true rfl) ?_
  refine ev_ifb_eq (tgt := 25) dX5_changeNick_8 (by decide) (fun h8 => ?_) (fun h8 => ?_)
  · exact absurd (hs1.symm.trans h8) (by decide)
  · refine ev_iload_n dX5_changeNick_11 rfl 2 rfl ?_
    refine ev_callSi (x := b2i (sv (nI 10) (nI n))) dX5_changeNick_12 (Or.inl M_X5_101) Y_X5_isNick [.int (nI n)] (c_X5_isNick (nI n) ) (by decide) (Nat.le_of_ble_eq_true rfl) rfl rfl (Nat.le_of_ble_eq_true rfl) ?_
    refine ev_ifb_eq (tgt := 25) dX5_changeNick_15 (by decide) (fun h15 => ?_) (fun h15 => ?_)
    · exact absurd (hn1.symm.trans h15) (by decide)
    · refine ev_iload_n dX5_changeNick_18 rfl 3 rfl ?_
      refine ev_callSi (x := b2i (sv (nI 10) (nI q))) dX5_changeNick_19 (Or.inl M_X5_101) Y_X5_isNick [.int (nI q)] (c_X5_isNick (nI q) ) (by decide) (Nat.le_of_ble_eq_true rfl) rfl rfl (Nat.le_of_ble_eq_true rfl) ?_
      refine ev_ifb_ne (tgt := 27) dX5_changeNick_22 (by decide) (fun h22 => ?_) (fun h22 => ?_)
      · refine ev_aload_n dX5_changeNick_27 rfl 0 rfl ?_
        refine ev_getR dX5_changeNick_28 C_X5 L_X5_12 (by decide) (by decide) sh_63 rfl ?_
        refine ev_iload_n dX5_changeNick_31 rfl 1 rfl ?_
        refine ev_iload_n dX5_changeNick_32 rfl 2 rfl ?_
        refine ev_callVi (x := b2i (us (σ 2) s n)) dX5_changeNick_33 M_X5_111 Y_X4_hasUser [.int (nI s), .int (nI n)] (c_X4_hasUser s n (by omega) (by omega)) (by decide) (Nat.le_of_ble_eq_true rfl) (by decide) sh_0 rfl rfl rfl (Nat.le_of_ble_eq_true rfl) ?_
        refine ev_ifb_eq (tgt := 59) dX5_changeNick_36 (by decide) (fun h36 => ?_) (fun h36 => ?_)
        · exact absurd (hu.symm.trans h36) (by decide)
        · refine ev_aload_n dX5_changeNick_39 rfl 0 rfl ?_
          refine ev_getR dX5_changeNick_40 C_X5 L_X5_12 (by decide) (by decide) sh_63 rfl ?_
          refine ev_aload_n dX5_changeNick_43 rfl 0 rfl ?_
          refine ev_getR dX5_changeNick_44 C_X5 L_X5_12 (by decide) (by decide) sh_63 rfl ?_
          refine ev_iload_n dX5_changeNick_47 rfl 1 rfl ?_
          refine ev_callVi (x := net (σ 1) s) dX5_changeNick_48 M_X5_79 Y_X4_networkOf [.int (nI s)] (c_X4_networkOf s (by omega)) (by decide) (Nat.le_of_ble_eq_true rfl) (by decide) sh_0 rfl rfl rfl (Nat.le_of_ble_eq_true rfl) ?_
          refine ev_iload_n dX5_changeNick_51 rfl 3 rfl ?_
          refine ev_callVi (x := oI (hm (σ 2) (net (σ 1) s) q)) dX5_changeNick_52 M_X5_104 Y_X4_homeIn [.int (net (σ 1) s), .int (nI q)] (c_X4_homeIn (net (σ 1) s) q (by omega)) (by decide) (Nat.le_of_ble_eq_true rfl) (by decide) sh_0 rfl rfl rfl (Nat.le_of_ble_eq_true rfl) ?_
          refine ev_top (v := (-1)) (by rw [ho]; rfl) ?_
          refine ev_iconst dX5_changeNick_55 (v := (-1)) (by decide) ?_
          refine ev_icmp_eq (tgt := 62) dX5_changeNick_56 (by decide) (fun h56 => ?_) (fun h56 => ?_)
          · refine ev_aload_n dX5_changeNick_62 rfl 0 rfl ?_
            refine ev_getR dX5_changeNick_63 C_X5 L_X5_12 (by decide) (by decide) sh_63 rfl ?_
            refine ev_iload_n dX5_changeNick_66 rfl 1 rfl ?_
            refine ev_iload_n dX5_changeNick_67 rfl 2 rfl ?_
            refine ev_callVi (x := σ 2 (s * 10 + n)) dX5_changeNick_68 M_X5_120 Y_X4_timeOfUser [.int (nI s), .int (nI n)] (c_X4_timeOfUser s n (by omega) (by omega)) (by decide) (Nat.le_of_ble_eq_true rfl) (by decide) sh_0 rfl rfl rfl (Nat.le_of_ble_eq_true rfl) ?_
            refine ev_istore (lv' := [(4, .int (σ 2 (s * 10 + n))), (0, .ref 63), (1, .int (nI s)), (2, .int (nI n)), (3, .int (nI q))]) dX5_changeNick_71 (by decide) rfl ?_
            refine ev_aload_n dX5_changeNick_73 rfl 1 rfl ?_
            refine ev_getR dX5_changeNick_74 C_X5 L_X5_19 (by decide) (by decide) sh_63 rfl ?_
            refine ev_aload_n dX5_changeNick_77 rfl 1 rfl ?_
            refine ev_getR dX5_changeNick_78 C_X5 L_X5_12 (by decide) (by decide) sh_63 rfl ?_
            refine ev_callVv (σ' := hkeep σ j c) dX5_changeNick_81 M_X5_41 Y_X0_keep [.ref 0] (c_X0_keep j c (by first | exact hj | omega) (by first | exact hj8 | omega) (by first | exact hcc | omega) (by first | exact hc8 | omega)) (by decide) (Nat.le_of_ble_eq_true rfl) (by decide) sh_64 rfl rfl rfl (Nat.le_of_ble_eq_true rfl) ?_
            refine ev_aload_n dX5_changeNick_84 rfl 1 rfl ?_
            refine ev_getR dX5_changeNick_85 C_X5 L_X5_12 (by decide) (by decide) sh_63 rfl ?_
            refine ev_iload_n dX5_changeNick_88 rfl 2 rfl ?_
            refine ev_iload_n dX5_changeNick_89 rfl 3 rfl ?_
            refine ev_iload_n dX5_changeNick_90 rfl 4 rfl ?_
            refine ev_callVv dX5_changeNick_91 M_X5_123 Y_X4_renameUser [.int (nI s), .int (nI n), .int (nI q)] (c_X4_renameUser s n q (by omega) (by omega) (by omega)) (by decide) (Nat.le_of_ble_eq_true rfl) (by decide) sh_0 rfl rfl rfl (Nat.le_of_ble_eq_true rfl) ?_
            refine ev_st (σ' := av_set (av_set (av_set (hkeep σ j c) 2 (rmU (upd (σ 2) (s * 10 + q) (σ 0 1)) s n)) 3 (rmA (cpA (σ 3) s n q) s n)) 4 (rmA (cpA (σ 4) s n q) s n)) (by first | rfl | (funext a; by_cases q2 : a = 2; (next => subst q2; rfl); by_cases q3 : a = 3; (next => subst q3; rfl); by_cases q4 : a = 4; (next => subst q4; rfl); simp only [av_set, q2, q3, q4, if_false]) | exact av_set_set _ _ _ _ | (funext a; unfold av_set; (repeat' split) <;> first | rfl | (exfalso; omega)) | (funext a; simp only [av_set, cpS]; (repeat' split) <;> first | rfl | (exfalso; omega))) ?_
            refine ev_iload dX5_changeNick_94 0 rfl ?_
            exact ev_ireturn dX5_changeNick_96 rfl rfl (leafI hQ rfl rfl)
          · exact absurd rfl h56
      · exact absurd (hq1.symm.trans h22) (by decide)

set_option maxRecDepth 100000 in
set_option maxHeartbeats 1000000 in
theorem c_X5_homeServer_bad {l : Launch} {σ : av_S} (x : Int32) (y : Int32) (hx : (sv (σ 0 0) x && sv (nI 10) y) = false) : av_M l RX5 cX5_homeServer 4 (some .int) 1 [.ref 63, .int x, .int y] σ (some (.int (-1))) σ := by
  intro Q hQ
  show av_Ev l RX5 cX5_homeServer 4 (some .int) av_E0 1 0 [(0, .ref 63), (1, .int x), (2, .int y)] [] σ Q
  refine ev_aload_n dX5_homeServer_0 rfl 0 rfl ?_
  refine ev_getR dX5_homeServer_1 C_X5 L_X5_12 (by decide) (by decide) sh_63 rfl ?_
  refine ev_iload_n dX5_homeServer_4 rfl 1 rfl ?_
  refine ev_callVi (x := b2i (sv (σ 0 0) x)) dX5_homeServer_5 M_X5_97 Y_X4_hasServer [.int x] (c_X4_hasServer x ) (by decide) (Nat.le_of_ble_eq_true rfl) (by decide) sh_0 rfl rfl rfl (Nat.le_of_ble_eq_true rfl) ?_
  refine ev_ifb_eq (tgt := 18) dX5_homeServer_8 (by decide) (fun h8 => ?_) (fun h8 => ?_)
  · refine ev_iconst dX5_homeServer_18 (v := (-1)) (by decide) ?_
    exact ev_ireturn dX5_homeServer_19 rfl rfl (leafI hQ rfl rfl)
  · refine ev_iload_n dX5_homeServer_11 rfl 2 rfl ?_
    refine ev_callSi (x := b2i (sv (nI 10) y)) dX5_homeServer_12 (Or.inl M_X5_101) Y_X5_isNick [.int y] (c_X5_isNick y ) (by decide) (Nat.le_of_ble_eq_true rfl) rfl rfl (Nat.le_of_ble_eq_true rfl) ?_
    refine ev_ifb_ne (tgt := 20) dX5_homeServer_15 (by decide) (fun h15 => ?_) (fun h15 => ?_)
    · exact absurd hx (by simp [h8, h15])
    · refine ev_iconst dX5_homeServer_18 (v := (-1)) (by decide) ?_
      exact ev_ireturn dX5_homeServer_19 rfl rfl (leafI hQ rfl rfl)

set_option maxRecDepth 100000 in
set_option maxHeartbeats 1000000 in
theorem c_X5_homeServer_no {l : Launch} {σ : av_S} (s : Nat) (n : Nat) (hs : s < 6) (hn0 : n < 10) (hs1 : sv (σ 0 0) (nI s) = true) (hn1 : sv (nI 10) (nI n) = true) (ho : hm (σ 2) (net (σ 1) s) n = none) : av_M l RX5 cX5_homeServer 4 (some .int) 3 [.ref 63, .int (nI s), .int (nI n)] σ (some (.int (-9))) σ := by
  intro Q hQ
  show av_Ev l RX5 cX5_homeServer 4 (some .int) av_E0 3 0 [(0, .ref 63), (1, .int (nI s)), (2, .int (nI n))] [] σ Q
  refine ev_aload_n dX5_homeServer_0 rfl 0 rfl ?_
  refine ev_getR dX5_homeServer_1 C_X5 L_X5_12 (by decide) (by decide) sh_63 rfl ?_
  refine ev_iload_n dX5_homeServer_4 rfl 1 rfl ?_
  refine ev_callVi (x := b2i (sv (σ 0 0) (nI s))) dX5_homeServer_5 M_X5_97 Y_X4_hasServer [.int (nI s)] (c_X4_hasServer (nI s) ) (by decide) (Nat.le_of_ble_eq_true rfl) (by decide) sh_0 rfl rfl rfl (Nat.le_of_ble_eq_true rfl) ?_
  refine ev_ifb_eq (tgt := 18) dX5_homeServer_8 (by decide) (fun h8 => ?_) (fun h8 => ?_)
  · exact absurd (hs1.symm.trans h8) (by decide)
  · refine ev_iload_n dX5_homeServer_11 rfl 2 rfl ?_
    refine ev_callSi (x := b2i (sv (nI 10) (nI n))) dX5_homeServer_12 (Or.inl M_X5_101) Y_X5_isNick [.int (nI n)] (c_X5_isNick (nI n) ) (by decide) (Nat.le_of_ble_eq_true rfl) rfl rfl (Nat.le_of_ble_eq_true rfl) ?_
    refine ev_ifb_ne (tgt := 20) dX5_homeServer_15 (by decide) (fun h15 => ?_) (fun h15 => ?_)
    · refine ev_aload_n dX5_homeServer_20 rfl 0 rfl ?_
      refine ev_getR dX5_homeServer_21 C_X5 L_X5_12 (by decide) (by decide) sh_63 rfl ?_
      refine ev_aload_n dX5_homeServer_24 rfl 0 rfl ?_
      refine ev_getR dX5_homeServer_25 C_X5 L_X5_12 (by decide) (by decide) sh_63 rfl ?_
      refine ev_iload_n dX5_homeServer_28 rfl 1 rfl ?_
      refine ev_callVi (x := net (σ 1) s) dX5_homeServer_29 M_X5_79 Y_X4_networkOf [.int (nI s)] (c_X4_networkOf s (by omega)) (by decide) (Nat.le_of_ble_eq_true rfl) (by decide) sh_0 rfl rfl rfl (Nat.le_of_ble_eq_true rfl) ?_
      refine ev_iload_n dX5_homeServer_32 rfl 2 rfl ?_
      refine ev_callVi (x := oI (hm (σ 2) (net (σ 1) s) n)) dX5_homeServer_33 M_X5_104 Y_X4_homeIn [.int (net (σ 1) s), .int (nI n)] (c_X4_homeIn (net (σ 1) s) n (by omega)) (by decide) (Nat.le_of_ble_eq_true rfl) (by decide) sh_0 rfl rfl rfl (Nat.le_of_ble_eq_true rfl) ?_
      refine ev_top (v := (-1)) (by rw [ho]; rfl) ?_
      refine ev_istore_n (lv' := [(3, .int (-1)), (0, .ref 63), (1, .int (nI s)), (2, .int (nI n))]) dX5_homeServer_36 rfl (by decide) rfl ?_
      refine ev_iload_n dX5_homeServer_37 rfl 0 rfl ?_
      refine ev_iconst dX5_homeServer_38 (v := (-1)) (by decide) ?_
      refine ev_icmp_ne (tgt := 47) dX5_homeServer_39 (by decide) (fun h39 => ?_) (fun h39 => ?_)
      · exact absurd rfl h39
      · refine ev_bipush dX5_homeServer_42 (v := (-9)) (by decide) ?_
        refine ev_goto (tgt := 48) dX5_homeServer_44 (by decide) ?_
        exact ev_ireturn dX5_homeServer_48 rfl rfl (leafI hQ rfl rfl)
    · exact absurd (hn1.symm.trans h15) (by decide)

set_option maxRecDepth 100000 in
set_option maxHeartbeats 1000000 in
theorem c_X5_homeServer_ok {l : Launch} {σ : av_S} (s : Nat) (n : Nat) (u : Nat) (hs : s < 6) (hn0 : n < 10) (hs1 : sv (σ 0 0) (nI s) = true) (hn1 : sv (nI 10) (nI n) = true) (ho : hm (σ 2) (net (σ 1) s) n = some u) (hu : u < 6) : av_M l RX5 cX5_homeServer 4 (some .int) 3 [.ref 63, .int (nI s), .int (nI n)] σ (some (.int (nI u))) σ := by
  intro Q hQ
  show av_Ev l RX5 cX5_homeServer 4 (some .int) av_E0 3 0 [(0, .ref 63), (1, .int (nI s)), (2, .int (nI n))] [] σ Q
  refine ev_aload_n dX5_homeServer_0 rfl 0 rfl ?_
  refine ev_getR dX5_homeServer_1 C_X5 L_X5_12 (by decide) (by decide) sh_63 rfl ?_
  refine ev_iload_n dX5_homeServer_4 rfl 1 rfl ?_
  refine ev_callVi (x := b2i (sv (σ 0 0) (nI s))) dX5_homeServer_5 M_X5_97 Y_X4_hasServer [.int (nI s)] (c_X4_hasServer (nI s) ) (by decide) (Nat.le_of_ble_eq_true rfl) (by decide) sh_0 rfl rfl rfl (Nat.le_of_ble_eq_true rfl) ?_
  refine ev_ifb_eq (tgt := 18) dX5_homeServer_8 (by decide) (fun h8 => ?_) (fun h8 => ?_)
  · exact absurd (hs1.symm.trans h8) (by decide)
  · refine ev_iload_n dX5_homeServer_11 rfl 2 rfl ?_
    refine ev_callSi (x := b2i (sv (nI 10) (nI n))) dX5_homeServer_12 (Or.inl M_X5_101) Y_X5_isNick [.int (nI n)] (c_X5_isNick (nI n) ) (by decide) (Nat.le_of_ble_eq_true rfl) rfl rfl (Nat.le_of_ble_eq_true rfl) ?_
    refine ev_ifb_ne (tgt := 20) dX5_homeServer_15 (by decide) (fun h15 => ?_) (fun h15 => ?_)
    · refine ev_aload_n dX5_homeServer_20 rfl 0 rfl ?_
      refine ev_getR dX5_homeServer_21 C_X5 L_X5_12 (by decide) (by decide) sh_63 rfl ?_
      refine ev_aload_n dX5_homeServer_24 rfl 0 rfl ?_
      refine ev_getR dX5_homeServer_25 C_X5 L_X5_12 (by decide) (by decide) sh_63 rfl ?_
      refine ev_iload_n dX5_homeServer_28 rfl 1 rfl ?_
      refine ev_callVi (x := net (σ 1) s) dX5_homeServer_29 M_X5_79 Y_X4_networkOf [.int (nI s)] (c_X4_networkOf s (by omega)) (by decide) (Nat.le_of_ble_eq_true rfl) (by decide) sh_0 rfl rfl rfl (Nat.le_of_ble_eq_true rfl) ?_
      refine ev_iload_n dX5_homeServer_32 rfl 2 rfl ?_
      refine ev_callVi (x := oI (hm (σ 2) (net (σ 1) s) n)) dX5_homeServer_33 M_X5_104 Y_X4_homeIn [.int (net (σ 1) s), .int (nI n)] (c_X4_homeIn (net (σ 1) s) n (by omega)) (by decide) (Nat.le_of_ble_eq_true rfl) (by decide) sh_0 rfl rfl rfl (Nat.le_of_ble_eq_true rfl) ?_
      refine ev_top (v := nI u) (by rw [ho]; rfl) ?_
      refine ev_istore_n (lv' := [(3, .int (nI u)), (0, .ref 63), (1, .int (nI s)), (2, .int (nI n))]) dX5_homeServer_36 rfl (by decide) rfl ?_
      refine ev_iload_n dX5_homeServer_37 rfl 0 rfl ?_
      refine ev_iconst dX5_homeServer_38 (v := (-1)) (by decide) ?_
      refine ev_icmp_ne (tgt := 47) dX5_homeServer_39 (by decide) (fun h39 => ?_) (fun h39 => ?_)
      · refine ev_iload_n dX5_homeServer_47 rfl 0 rfl ?_
        exact ev_ireturn dX5_homeServer_48 rfl rfl (leafI hQ rfl rfl)
      · exact absurd h39 (nI_neg (by omega) (by decide))
    · exact absurd (hn1.symm.trans h15) (by decide)

set_option maxRecDepth 100000 in
set_option maxHeartbeats 1000000 in
theorem c_X5_userTimestamp_bad {l : Launch} {σ : av_S} (x : Int32) (y : Int32) (hx : (sv (σ 0 0) x && sv (nI 10) y) = false) : av_M l RX5 cX5_userTimestamp 4 (some .int) 1 [.ref 63, .int x, .int y] σ (some (.int (-1))) σ := by
  intro Q hQ
  show av_Ev l RX5 cX5_userTimestamp 4 (some .int) av_E0 1 0 [(0, .ref 63), (1, .int x), (2, .int y)] [] σ Q
  refine ev_aload_n dX5_userTimestamp_0 rfl 0 rfl ?_
  refine ev_getR dX5_userTimestamp_1 C_X5 L_X5_12 (by decide) (by decide) sh_63 rfl ?_
  refine ev_iload_n dX5_userTimestamp_4 rfl 1 rfl ?_
  refine ev_callVi (x := b2i (sv (σ 0 0) x)) dX5_userTimestamp_5 M_X5_97 Y_X4_hasServer [.int x] (c_X4_hasServer x ) (by decide) (Nat.le_of_ble_eq_true rfl) (by decide) sh_0 rfl rfl rfl (Nat.le_of_ble_eq_true rfl) ?_
  refine ev_ifb_eq (tgt := 18) dX5_userTimestamp_8 (by decide) (fun h8 => ?_) (fun h8 => ?_)
  · refine ev_iconst dX5_userTimestamp_18 (v := (-1)) (by decide) ?_
    exact ev_ireturn dX5_userTimestamp_19 rfl rfl (leafI hQ rfl rfl)
  · refine ev_iload_n dX5_userTimestamp_11 rfl 2 rfl ?_
    refine ev_callSi (x := b2i (sv (nI 10) y)) dX5_userTimestamp_12 (Or.inl M_X5_101) Y_X5_isNick [.int y] (c_X5_isNick y ) (by decide) (Nat.le_of_ble_eq_true rfl) rfl rfl (Nat.le_of_ble_eq_true rfl) ?_
    refine ev_ifb_ne (tgt := 20) dX5_userTimestamp_15 (by decide) (fun h15 => ?_) (fun h15 => ?_)
    · exact absurd hx (by simp [h8, h15])
    · refine ev_iconst dX5_userTimestamp_18 (v := (-1)) (by decide) ?_
      exact ev_ireturn dX5_userTimestamp_19 rfl rfl (leafI hQ rfl rfl)

set_option maxRecDepth 100000 in
set_option maxHeartbeats 1000000 in
theorem c_X5_userTimestamp_ok {l : Launch} {σ : av_S} (s : Nat) (n : Nat) (hs : s < 6) (hn0 : n < 10) (hs1 : sv (σ 0 0) (nI s) = true) (hn1 : sv (nI 10) (nI n) = true) : av_M l RX5 cX5_userTimestamp 4 (some .int) 4 [.ref 63, .int (nI s), .int (nI n)] σ (some (.int (if tn (σ 2) (net (σ 1) s) n = -1 then -9 else tn (σ 2) (net (σ 1) s) n))) σ := by
  intro Q hQ
  show av_Ev l RX5 cX5_userTimestamp 4 (some .int) av_E0 4 0 [(0, .ref 63), (1, .int (nI s)), (2, .int (nI n))] [] σ Q
  refine ev_aload_n dX5_userTimestamp_0 rfl 0 rfl ?_
  refine ev_getR dX5_userTimestamp_1 C_X5 L_X5_12 (by decide) (by decide) sh_63 rfl ?_
  refine ev_iload_n dX5_userTimestamp_4 rfl 1 rfl ?_
  refine ev_callVi (x := b2i (sv (σ 0 0) (nI s))) dX5_userTimestamp_5 M_X5_97 Y_X4_hasServer [.int (nI s)] (c_X4_hasServer (nI s) ) (by decide) (Nat.le_of_ble_eq_true rfl) (by decide) sh_0 rfl rfl rfl (Nat.le_of_ble_eq_true rfl) ?_
  refine ev_ifb_eq (tgt := 18) dX5_userTimestamp_8 (by decide) (fun h8 => ?_) (fun h8 => ?_)
  · exact absurd (hs1.symm.trans h8) (by decide)
  · refine ev_iload_n dX5_userTimestamp_11 rfl 2 rfl ?_
    refine ev_callSi (x := b2i (sv (nI 10) (nI n))) dX5_userTimestamp_12 (Or.inl M_X5_101) Y_X5_isNick [.int (nI n)] (c_X5_isNick (nI n) ) (by decide) (Nat.le_of_ble_eq_true rfl) rfl rfl (Nat.le_of_ble_eq_true rfl) ?_
    refine ev_ifb_ne (tgt := 20) dX5_userTimestamp_15 (by decide) (fun h15 => ?_) (fun h15 => ?_)
    · refine ev_aload_n dX5_userTimestamp_20 rfl 0 rfl ?_
      refine ev_getR dX5_userTimestamp_21 C_X5 L_X5_12 (by decide) (by decide) sh_63 rfl ?_
      refine ev_aload_n dX5_userTimestamp_24 rfl 0 rfl ?_
      refine ev_getR dX5_userTimestamp_25 C_X5 L_X5_12 (by decide) (by decide) sh_63 rfl ?_
      refine ev_iload_n dX5_userTimestamp_28 rfl 1 rfl ?_
      refine ev_callVi (x := net (σ 1) s) dX5_userTimestamp_29 M_X5_79 Y_X4_networkOf [.int (nI s)] (c_X4_networkOf s (by omega)) (by decide) (Nat.le_of_ble_eq_true rfl) (by decide) sh_0 rfl rfl rfl (Nat.le_of_ble_eq_true rfl) ?_
      refine ev_iload_n dX5_userTimestamp_32 rfl 2 rfl ?_
      refine ev_callVi (x := tn (σ 2) (net (σ 1) s) n) dX5_userTimestamp_33 M_X5_127 Y_X4_timeOfNick [.int (net (σ 1) s), .int (nI n)] (c_X4_timeOfNick (net (σ 1) s) n (by omega)) (by decide) (Nat.le_of_ble_eq_true rfl) (by decide) sh_0 rfl rfl rfl (Nat.le_of_ble_eq_true rfl) ?_
      refine ev_istore_n (lv' := [(3, .int (tn (σ 2) (net (σ 1) s) n)), (0, .ref 63), (1, .int (nI s)), (2, .int (nI n))]) dX5_userTimestamp_36 rfl (by decide) rfl ?_
      refine ev_iload_n dX5_userTimestamp_37 rfl 0 rfl ?_
      refine ev_iconst dX5_userTimestamp_38 (v := (-1)) (by decide) ?_
      refine ev_icmp_ne (tgt := 47) dX5_userTimestamp_39 (by decide) (fun h39 => ?_) (fun h39 => ?_)
      · refine ev_iload_n dX5_userTimestamp_47 rfl 0 rfl ?_
        exact ev_ireturn dX5_userTimestamp_48 rfl rfl (leafI hQ (by simp [h8, h15, h39]) rfl)
      · refine ev_bipush dX5_userTimestamp_42 (v := (-9)) (by decide) ?_
        refine ev_goto (tgt := 48) dX5_userTimestamp_44 (by decide) ?_
        exact ev_ireturn dX5_userTimestamp_48 rfl rfl (leafI hQ (by simp [h8, h15, h39]) rfl)
    · exact absurd (hn1.symm.trans h15) (by decide)

set_option maxRecDepth 100000 in
set_option maxHeartbeats 1000000 in
theorem c_X5_visibleUsers_bad {l : Launch} {σ : av_S} (x : Int32) (hx : (sv (σ 0 0) x) = false) : av_M l RX5 cX5_visibleUsers 2 (some .int) 1 [.ref 63, .int x] σ (some (.int (-1))) σ := by
  intro Q hQ
  show av_Ev l RX5 cX5_visibleUsers 2 (some .int) av_E0 1 0 [(0, .ref 63), (1, .int x)] [] σ Q
  refine ev_aload_n dX5_visibleUsers_0 rfl 0 rfl ?_
  refine ev_getR dX5_visibleUsers_1 C_X5 L_X5_12 (by decide) (by decide) sh_63 rfl ?_
  refine ev_iload_n dX5_visibleUsers_4 rfl 1 rfl ?_
  refine ev_callVi (x := b2i (sv (σ 0 0) x)) dX5_visibleUsers_5 M_X5_97 Y_X4_hasServer [.int x] (c_X4_hasServer x ) (by decide) (Nat.le_of_ble_eq_true rfl) (by decide) sh_0 rfl rfl rfl (Nat.le_of_ble_eq_true rfl) ?_
  refine ev_ifb_ne (tgt := 13) dX5_visibleUsers_8 (by decide) (fun h8 => ?_) (fun h8 => ?_)
  · exact absurd hx (by simp [h8])
  · refine ev_iconst dX5_visibleUsers_11 (v := (-1)) (by decide) ?_
    exact ev_ireturn dX5_visibleUsers_12 rfl rfl (leafI hQ rfl rfl)

set_option maxRecDepth 100000 in
set_option maxHeartbeats 1000000 in
theorem c_X5_visibleUsers_ok {l : Launch} {σ : av_S} (s : Nat) (hs : s < 6) (hs1 : sv (σ 0 0) (nI s) = true) : av_M l RX5 cX5_visibleUsers 2 (some .int) 4 [.ref 63, .int (nI s)] σ (some (.int (nk (σ 2) (net (σ 1) s)))) σ := by
  intro Q hQ
  show av_Ev l RX5 cX5_visibleUsers 2 (some .int) av_E0 4 0 [(0, .ref 63), (1, .int (nI s))] [] σ Q
  refine ev_aload_n dX5_visibleUsers_0 rfl 0 rfl ?_
  refine ev_getR dX5_visibleUsers_1 C_X5 L_X5_12 (by decide) (by decide) sh_63 rfl ?_
  refine ev_iload_n dX5_visibleUsers_4 rfl 1 rfl ?_
  refine ev_callVi (x := b2i (sv (σ 0 0) (nI s))) dX5_visibleUsers_5 M_X5_97 Y_X4_hasServer [.int (nI s)] (c_X4_hasServer (nI s) ) (by decide) (Nat.le_of_ble_eq_true rfl) (by decide) sh_0 rfl rfl rfl (Nat.le_of_ble_eq_true rfl) ?_
  refine ev_ifb_ne (tgt := 13) dX5_visibleUsers_8 (by decide) (fun h8 => ?_) (fun h8 => ?_)
  · refine ev_aload_n dX5_visibleUsers_13 rfl 0 rfl ?_
    refine ev_getR dX5_visibleUsers_14 C_X5 L_X5_12 (by decide) (by decide) sh_63 rfl ?_
    refine ev_aload_n dX5_visibleUsers_17 rfl 0 rfl ?_
    refine ev_getR dX5_visibleUsers_18 C_X5 L_X5_12 (by decide) (by decide) sh_63 rfl ?_
    refine ev_iload_n dX5_visibleUsers_21 rfl 1 rfl ?_
    refine ev_callVi (x := net (σ 1) s) dX5_visibleUsers_22 M_X5_79 Y_X4_networkOf [.int (nI s)] (c_X4_networkOf s (by omega)) (by decide) (Nat.le_of_ble_eq_true rfl) (by decide) sh_0 rfl rfl rfl (Nat.le_of_ble_eq_true rfl) ?_
    refine ev_callVi (x := nk (σ 2) (net (σ 1) s)) dX5_visibleUsers_25 M_X5_130 Y_X4_nicksIn [.int (net (σ 1) s)] (c_X4_nicksIn (net (σ 1) s) ) (by decide) (Nat.le_of_ble_eq_true rfl) (by decide) sh_0 rfl rfl rfl (Nat.le_of_ble_eq_true rfl) ?_
    exact ev_ireturn dX5_visibleUsers_28 rfl rfl (leafI hQ rfl rfl)
  · exact absurd (hs1.symm.trans h8) (by decide)

