/-! ===== RelayNetwork: contracts, second half ===== -/
set_option maxRecDepth 100000 in
set_option maxHeartbeats 1000000 in
theorem c_X5_join_bad {l : Launch} {σ : av_S} (x : Int32) (y : Int32) (z : Int32) (hx : (sv (σ 0 0) x && sv (nI 10) y && sv (nI 4) z) = false) : av_M l RX5 cX5_join 5 (some .int) 1 [.ref 63, .int x, .int y, .int z] σ (some (.int (-1))) σ := by
  intro Q hQ
  show av_Ev l RX5 cX5_join 5 (some .int) av_E0 1 0 [(0, .ref 63), (1, .int x), (2, .int y), (3, .int z)] [] σ Q
  refine ev_aload_n dX5_join_0 rfl 0 rfl ?_
  refine ev_getR dX5_join_1 C_X5 L_X5_12 (by decide) (by decide) sh_63 rfl ?_
  refine ev_iload_n dX5_join_4 rfl 1 rfl ?_
  refine ev_callVi (x := b2i (sv (σ 0 0) x)) dX5_join_5 M_X5_97 Y_X4_hasServer [.int x] (c_X4_hasServer x ) (by decide) (Nat.le_of_ble_eq_true rfl) (by decide) sh_0 rfl rfl rfl (Nat.le_of_ble_eq_true rfl) ?_
  refine ev_ifb_eq (tgt := 25) dX5_join_8 (by decide) (fun h8 => ?_) (fun h8 => ?_)
  · refine ev_iconst dX5_join_25 (v := (-1)) (by decide) ?_
    exact ev_ireturn dX5_join_26 rfl rfl (leafI hQ rfl rfl)
  · refine ev_iload_n dX5_join_11 rfl 2 rfl ?_
    refine ev_callSi (x := b2i (sv (nI 10) y)) dX5_join_12 (Or.inl M_X5_101) Y_X5_isNick [.int y] (c_X5_isNick y ) (by decide) (Nat.le_of_ble_eq_true rfl) rfl rfl (Nat.le_of_ble_eq_true rfl) ?_
    refine ev_ifb_eq (tgt := 25) dX5_join_15 (by decide) (fun h15 => ?_) (fun h15 => ?_)
    · refine ev_iconst dX5_join_25 (v := (-1)) (by decide) ?_
      exact ev_ireturn dX5_join_26 rfl rfl (leafI hQ rfl rfl)
    · refine ev_iload_n dX5_join_18 rfl 3 rfl ?_
      refine ev_callSi (x := b2i (sv (nI 4) z)) dX5_join_19 (Or.inl M_X5_133) Y_X5_isChannel [.int z] (c_X5_isChannel z ) (by decide) (Nat.le_of_ble_eq_true rfl) rfl rfl (Nat.le_of_ble_eq_true rfl) ?_
      refine ev_ifb_ne (tgt := 27) dX5_join_22 (by decide) (fun h22 => ?_) (fun h22 => ?_)
      · exact absurd hx (by simp [h8, h15, h22])
      · refine ev_iconst dX5_join_25 (v := (-1)) (by decide) ?_
        exact ev_ireturn dX5_join_26 rfl rfl (leafI hQ rfl rfl)

set_option maxRecDepth 100000 in
set_option maxHeartbeats 1000000 in
theorem c_X5_join_st1 {l : Launch} {σ : av_S} (s : Nat) (n : Nat) (ch : Nat) (hs : s < 6) (hn0 : n < 10) (hs1 : sv (σ 0 0) (nI s) = true) (hn1 : sv (nI 10) (nI n) = true) (hc0 : ch < 4) (hc1 : sv (nI 4) (nI ch) = true) (hu : us (σ 2) s n = false) : av_M l RX5 cX5_join 5 (some .int) 2 [.ref 63, .int (nI s), .int (nI n), .int (nI ch)] σ (some (.int (-2))) σ := by
  intro Q hQ
  show av_Ev l RX5 cX5_join 5 (some .int) av_E0 2 0 [(0, .ref 63), (1, .int (nI s)), (2, .int (nI n)), (3, .int (nI ch))] [] σ Q
  refine ev_aload_n dX5_join_0 rfl 0 rfl ?_
  refine ev_getR dX5_join_1 C_X5 L_X5_12 (by decide) (by decide) sh_63 rfl ?_
  refine ev_iload_n dX5_join_4 rfl 1 rfl ?_
  refine ev_callVi (x := b2i (sv (σ 0 0) (nI s))) dX5_join_5 M_X5_97 Y_X4_hasServer [.int (nI s)] (c_X4_hasServer (nI s) ) (by decide) (Nat.le_of_ble_eq_true rfl) (by decide) sh_0 rfl rfl rfl (Nat.le_of_ble_eq_true rfl) ?_
  refine ev_ifb_eq (tgt := 25) dX5_join_8 (by decide) (fun h8 => ?_) (fun h8 => ?_)
  · exact absurd (hs1.symm.trans h8) (by decide)
  · refine ev_iload_n dX5_join_11 rfl 2 rfl ?_
    refine ev_callSi (x := b2i (sv (nI 10) (nI n))) dX5_join_12 (Or.inl M_X5_101) Y_X5_isNick [.int (nI n)] (c_X5_isNick (nI n) ) (by decide) (Nat.le_of_ble_eq_true rfl) rfl rfl (Nat.le_of_ble_eq_true rfl) ?_
    refine ev_ifb_eq (tgt := 25) dX5_join_15 (by decide) (fun h15 => ?_) (fun h15 => ?_)
    · exact absurd (hn1.symm.trans h15) (by decide)
    · refine ev_iload_n dX5_join_18 rfl 3 rfl ?_
      refine ev_callSi (x := b2i (sv (nI 4) (nI ch))) dX5_join_19 (Or.inl M_X5_133) Y_X5_isChannel [.int (nI ch)] (c_X5_isChannel (nI ch) ) (by decide) (Nat.le_of_ble_eq_true rfl) rfl rfl (Nat.le_of_ble_eq_true rfl) ?_
      refine ev_ifb_ne (tgt := 27) dX5_join_22 (by decide) (fun h22 => ?_) (fun h22 => ?_)
      · refine ev_aload_n dX5_join_27 rfl 0 rfl ?_
        refine ev_getR dX5_join_28 C_X5 L_X5_12 (by decide) (by decide) sh_63 rfl ?_
        refine ev_iload_n dX5_join_31 rfl 1 rfl ?_
        refine ev_iload_n dX5_join_32 rfl 2 rfl ?_
        refine ev_callVi (x := b2i (us (σ 2) s n)) dX5_join_33 M_X5_111 Y_X4_hasUser [.int (nI s), .int (nI n)] (c_X4_hasUser s n (by omega) (by omega)) (by decide) (Nat.le_of_ble_eq_true rfl) (by decide) sh_0 rfl rfl rfl (Nat.le_of_ble_eq_true rfl) ?_
        refine ev_ifb_eq (tgt := 52) dX5_join_36 (by decide) (fun h36 => ?_) (fun h36 => ?_)
        · refine ev_bipush dX5_join_52 (v := (-2)) (by decide) ?_
          exact ev_ireturn dX5_join_54 rfl rfl (leafI hQ rfl rfl)
        · exact absurd (hu.symm.trans h36) (by decide)
      · exact absurd (hc1.symm.trans h22) (by decide)

set_option maxRecDepth 100000 in
set_option maxHeartbeats 1000000 in
theorem c_X5_join_st2 {l : Launch} {σ : av_S} (s : Nat) (n : Nat) (ch : Nat) (hs : s < 6) (hn0 : n < 10) (hs1 : sv (σ 0 0) (nI s) = true) (hn1 : sv (nI 10) (nI n) = true) (hc0 : ch < 4) (hc1 : sv (nI 4) (nI ch) = true) (hu : us (σ 2) s n = true) (hm0 : tb (σ 3 (s * 4 + ch)) n = true) : av_M l RX5 cX5_join 5 (some .int) 2 [.ref 63, .int (nI s), .int (nI n), .int (nI ch)] σ (some (.int (-2))) σ := by
  intro Q hQ
  show av_Ev l RX5 cX5_join 5 (some .int) av_E0 2 0 [(0, .ref 63), (1, .int (nI s)), (2, .int (nI n)), (3, .int (nI ch))] [] σ Q
  refine ev_aload_n dX5_join_0 rfl 0 rfl ?_
  refine ev_getR dX5_join_1 C_X5 L_X5_12 (by decide) (by decide) sh_63 rfl ?_
  refine ev_iload_n dX5_join_4 rfl 1 rfl ?_
  refine ev_callVi (x := b2i (sv (σ 0 0) (nI s))) dX5_join_5 M_X5_97 Y_X4_hasServer [.int (nI s)] (c_X4_hasServer (nI s) ) (by decide) (Nat.le_of_ble_eq_true rfl) (by decide) sh_0 rfl rfl rfl (Nat.le_of_ble_eq_true rfl) ?_
  refine ev_ifb_eq (tgt := 25) dX5_join_8 (by decide) (fun h8 => ?_) (fun h8 => ?_)
  · exact absurd (hs1.symm.trans h8) (by decide)
  · refine ev_iload_n dX5_join_11 rfl 2 rfl ?_
    refine ev_callSi (x := b2i (sv (nI 10) (nI n))) dX5_join_12 (Or.inl M_X5_101) Y_X5_isNick [.int (nI n)] (c_X5_isNick (nI n) ) (by decide) (Nat.le_of_ble_eq_true rfl) rfl rfl (Nat.le_of_ble_eq_true rfl) ?_
    refine ev_ifb_eq (tgt := 25) dX5_join_15 (by decide) (fun h15 => ?_) (fun h15 => ?_)
    · exact absurd (hn1.symm.trans h15) (by decide)
    · refine ev_iload_n dX5_join_18 rfl 3 rfl ?_
      refine ev_callSi (x := b2i (sv (nI 4) (nI ch))) dX5_join_19 (Or.inl M_X5_133) Y_X5_isChannel [.int (nI ch)] (c_X5_isChannel (nI ch) ) (by decide) (Nat.le_of_ble_eq_true rfl) rfl rfl (Nat.le_of_ble_eq_true rfl) ?_
      refine ev_ifb_ne (tgt := 27) dX5_join_22 (by decide) (fun h22 => ?_) (fun h22 => ?_)
      · refine ev_aload_n dX5_join_27 rfl 0 rfl ?_
        refine ev_getR dX5_join_28 C_X5 L_X5_12 (by decide) (by decide) sh_63 rfl ?_
        refine ev_iload_n dX5_join_31 rfl 1 rfl ?_
        refine ev_iload_n dX5_join_32 rfl 2 rfl ?_
        refine ev_callVi (x := b2i (us (σ 2) s n)) dX5_join_33 M_X5_111 Y_X4_hasUser [.int (nI s), .int (nI n)] (c_X4_hasUser s n (by omega) (by omega)) (by decide) (Nat.le_of_ble_eq_true rfl) (by decide) sh_0 rfl rfl rfl (Nat.le_of_ble_eq_true rfl) ?_
        refine ev_ifb_eq (tgt := 52) dX5_join_36 (by decide) (fun h36 => ?_) (fun h36 => ?_)
        · exact absurd (hu.symm.trans h36) (by decide)
        · refine ev_aload_n dX5_join_39 rfl 0 rfl ?_
          refine ev_getR dX5_join_40 C_X5 L_X5_12 (by decide) (by decide) sh_63 rfl ?_
          refine ev_iload_n dX5_join_43 rfl 1 rfl ?_
          refine ev_iload_n dX5_join_44 rfl 2 rfl ?_
          refine ev_iload_n dX5_join_45 rfl 3 rfl ?_
          refine ev_callVi (x := b2i (tb (σ 3 (s * 4 + ch)) n)) dX5_join_46 M_X5_136 Y_X4_isMember [.int (nI s), .int (nI n), .int (nI ch)] (c_X4_isMember s n ch (by omega) (by omega) (by omega)) (by decide) (Nat.le_of_ble_eq_true rfl) (by decide) sh_0 rfl rfl rfl (Nat.le_of_ble_eq_true rfl) ?_
          refine ev_ifb_eq (tgt := 55) dX5_join_49 (by decide) (fun h49 => ?_) (fun h49 => ?_)
          · exact absurd (hm0.symm.trans h49) (by decide)
          · refine ev_bipush dX5_join_52 (v := (-2)) (by decide) ?_
            exact ev_ireturn dX5_join_54 rfl rfl (leafI hQ rfl rfl)
      · exact absurd (hc1.symm.trans h22) (by decide)

set_option maxRecDepth 100000 in
set_option maxHeartbeats 1000000 in
theorem c_X5_join_old {l : Launch} {σ : av_S} (s : Nat) (n : Nat) (ch : Nat) (j : Nat) (c : Nat) (hs : s < 6) (hn0 : n < 10) (hs1 : sv (σ 0 0) (nI s) = true) (hn1 : sv (nI 10) (nI n) = true) (hc0 : ch < 4) (hc1 : sv (nI 4) (nI ch) = true) (hu : us (σ 2) s n = true) (hm0 : tb (σ 3 (s * 4 + ch)) n = false) (hh : hc (σ 1) (σ 3) s ch = true) (hj : σ 64 1 = nI j) (hj8 : j < 8) (hcc : σ 64 2 = nI c) (hc8 : c ≤ 8) : av_M l RX5 cX5_join 5 (some .int) 4 [.ref 63, .int (nI s), .int (nI n), .int (nI ch)] σ (some (.int (jbc (un (adM (σ 3) s n ch) (net (σ 1) s) ch)))) (av_set (hkeep σ j c) 3 (adM (σ 3) s n ch)) := by
  intro Q hQ
  show av_Ev l RX5 cX5_join 5 (some .int) av_E0 4 0 [(0, .ref 63), (1, .int (nI s)), (2, .int (nI n)), (3, .int (nI ch))] [] σ Q
  refine ev_aload_n dX5_join_0 rfl 0 rfl ?_
  refine ev_getR dX5_join_1 C_X5 L_X5_12 (by decide) (by decide) sh_63 rfl ?_
  refine ev_iload_n dX5_join_4 rfl 1 rfl ?_
  refine ev_callVi (x := b2i (sv (σ 0 0) (nI s))) dX5_join_5 M_X5_97 Y_X4_hasServer [.int (nI s)] (c_X4_hasServer (nI s) ) (by decide) (Nat.le_of_ble_eq_true rfl) (by decide) sh_0 rfl rfl rfl (Nat.le_of_ble_eq_true rfl) ?_
  refine ev_ifb_eq (tgt := 25) dX5_join_8 (by decide) (fun h8 => ?_) (fun h8 => ?_)
  · exact absurd (hs1.symm.trans h8) (by decide)
  · refine ev_iload_n dX5_join_11 rfl 2 rfl ?_
    refine ev_callSi (x := b2i (sv (nI 10) (nI n))) dX5_join_12 (Or.inl M_X5_101) Y_X5_isNick [.int (nI n)] (c_X5_isNick (nI n) ) (by decide) (Nat.le_of_ble_eq_true rfl) rfl rfl (Nat.le_of_ble_eq_true rfl) ?_
    refine ev_ifb_eq (tgt := 25) dX5_join_15 (by decide) (fun h15 => ?_) (fun h15 => ?_)
    · exact absurd (hn1.symm.trans h15) (by decide)
    · refine ev_iload_n dX5_join_18 rfl 3 rfl ?_
      refine ev_callSi (x := b2i (sv (nI 4) (nI ch))) dX5_join_19 (Or.inl M_X5_133) Y_X5_isChannel [.int (nI ch)] (c_X5_isChannel (nI ch) ) (by decide) (Nat.le_of_ble_eq_true rfl) rfl rfl (Nat.le_of_ble_eq_true rfl) ?_
      refine ev_ifb_ne (tgt := 27) dX5_join_22 (by decide) (fun h22 => ?_) (fun h22 => ?_)
      · refine ev_aload_n dX5_join_27 rfl 0 rfl ?_
        refine ev_getR dX5_join_28 C_X5 L_X5_12 (by decide) (by decide) sh_63 rfl ?_
        refine ev_iload_n dX5_join_31 rfl 1 rfl ?_
        refine ev_iload_n dX5_join_32 rfl 2 rfl ?_
        refine ev_callVi (x := b2i (us (σ 2) s n)) dX5_join_33 M_X5_111 Y_X4_hasUser [.int (nI s), .int (nI n)] (c_X4_hasUser s n (by omega) (by omega)) (by decide) (Nat.le_of_ble_eq_true rfl) (by decide) sh_0 rfl rfl rfl (Nat.le_of_ble_eq_true rfl) ?_
        refine ev_ifb_eq (tgt := 52) dX5_join_36 (by decide) (fun h36 => ?_) (fun h36 => ?_)
        · exact absurd (hu.symm.trans h36) (by decide)
        · refine ev_aload_n dX5_join_39 rfl 0 rfl ?_
          refine ev_getR dX5_join_40 C_X5 L_X5_12 (by decide) (by decide) sh_63 rfl ?_
          refine ev_iload_n dX5_join_43 rfl 1 rfl ?_
          refine ev_iload_n dX5_join_44 rfl 2 rfl ?_
          refine ev_iload_n dX5_join_45 rfl 3 rfl ?_
          refine ev_callVi (x := b2i (tb (σ 3 (s * 4 + ch)) n)) dX5_join_46 M_X5_136 Y_X4_isMember [.int (nI s), .int (nI n), .int (nI ch)] (c_X4_isMember s n ch (by omega) (by omega) (by omega)) (by decide) (Nat.le_of_ble_eq_true rfl) (by decide) sh_0 rfl rfl rfl (Nat.le_of_ble_eq_true rfl) ?_
          refine ev_ifb_eq (tgt := 55) dX5_join_49 (by decide) (fun h49 => ?_) (fun h49 => ?_)
          · refine ev_aload_n dX5_join_55 rfl 0 rfl ?_
            refine ev_getR dX5_join_56 C_X5 L_X5_12 (by decide) (by decide) sh_63 rfl ?_
            refine ev_iload_n dX5_join_59 rfl 1 rfl ?_
            refine ev_callVi (x := net (σ 1) s) dX5_join_60 M_X5_79 Y_X4_networkOf [.int (nI s)] (c_X4_networkOf s (by omega)) (by decide) (Nat.le_of_ble_eq_true rfl) (by decide) sh_0 rfl rfl rfl (Nat.le_of_ble_eq_true rfl) ?_
            refine ev_istore (lv' := [(4, .int (net (σ 1) s)), (0, .ref 63), (1, .int (nI s)), (2, .int (nI n)), (3, .int (nI ch))]) dX5_join_63 (by decide) rfl ?_
            refine ev_aload_n dX5_join_65 rfl 1 rfl ?_
            refine ev_getR dX5_join_66 C_X5 L_X5_19 (by decide) (by decide) sh_63 rfl ?_
            refine ev_aload_n dX5_join_69 rfl 1 rfl ?_
            refine ev_getR dX5_join_70 C_X5 L_X5_12 (by decide) (by decide) sh_63 rfl ?_
            refine ev_callVv (σ' := hkeep σ j c) dX5_join_73 M_X5_41 Y_X0_keep [.ref 0] (c_X0_keep j c (by first | exact hj | omega) (by first | exact hj8 | omega) (by first | exact hcc | omega) (by first | exact hc8 | omega)) (by decide) (Nat.le_of_ble_eq_true rfl) (by decide) sh_64 rfl rfl rfl (Nat.le_of_ble_eq_true rfl) ?_
            refine ev_aload_n dX5_join_76 rfl 1 rfl ?_
            refine ev_getR dX5_join_77 C_X5 L_X5_12 (by decide) (by decide) sh_63 rfl ?_
            refine ev_iload_n dX5_join_80 rfl 2 rfl ?_
            refine ev_iload_n dX5_join_81 rfl 4 rfl ?_
            refine ev_callVi (x := b2i (hc (σ 1) (σ 3) s ch)) dX5_join_82 M_X5_140 Y_X4_hasChannel [.int (nI s), .int (nI ch)] (c_X4_hasChannel s ch (by omega) (by omega)) (by decide) (Nat.le_of_ble_eq_true rfl) (by decide) sh_0 rfl rfl rfl (Nat.le_of_ble_eq_true rfl) ?_
            refine ev_ifb_ne (tgt := 116) dX5_join_85 (by decide) (fun h85 => ?_) (fun h85 => ?_)
            · refine ev_aload_n dX5_join_116 rfl 1 rfl ?_
              refine ev_getR dX5_join_117 C_X5 L_X5_12 (by decide) (by decide) sh_63 rfl ?_
              refine ev_iload_n dX5_join_120 rfl 2 rfl ?_
              refine ev_iload_n dX5_join_121 rfl 3 rfl ?_
              refine ev_iload_n dX5_join_122 rfl 4 rfl ?_
              refine ev_callVv dX5_join_123 M_X5_150 Y_X4_addMember [.int (nI s), .int (nI n), .int (nI ch)] (c_X4_addMember s n ch (by omega) (by omega) (by omega)) (by decide) (Nat.le_of_ble_eq_true rfl) (by decide) sh_0 rfl rfl rfl (Nat.le_of_ble_eq_true rfl) ?_
              refine ev_st (σ' := av_set (hkeep σ j c) 3 (adM (σ 3) s n ch)) (by first | rfl | (funext a; by_cases q3 : a = 3; (next => subst q3; rfl); simp only [av_set, q3, if_false]) | exact av_set_set _ _ _ _ | (funext a; unfold av_set; (repeat' split) <;> first | rfl | (exfalso; omega)) | (funext a; simp only [av_set, cpS]; (repeat' split) <;> first | rfl | (exfalso; omega))) ?_
              refine ev_aload_n dX5_join_126 rfl 1 rfl ?_
              refine ev_getR dX5_join_127 C_X5 L_X5_12 (by decide) (by decide) sh_63 rfl ?_
              refine ev_iload dX5_join_130 0 rfl ?_
              refine ev_iload_n dX5_join_132 rfl 4 rfl ?_
              refine ev_callVi (x := un (adM (σ 3) s n ch) (net (σ 1) s) ch) dX5_join_133 M_X5_153 Y_X4_membersIn [.int (net (σ 1) s), .int (nI ch)] (c_X4_membersIn (net (σ 1) s) ch (by omega)) (by decide) (Nat.le_of_ble_eq_true rfl) (by decide) sh_0 rfl rfl rfl (Nat.le_of_ble_eq_true rfl) ?_
              refine ev_callSi (x := jbc (un (adM (σ 3) s n ch) (net (σ 1) s) ch)) dX5_join_136 (Or.inl M_X5_82) Y_J6_bitCount_0f7a4 [.int (un (adM (σ 3) s n ch) (net (σ 1) s) ch)] (c_J6_bitCount_0f7a4 (un (adM (σ 3) s n ch) (net (σ 1) s) ch) ) (by decide) (Nat.le_of_ble_eq_true rfl) rfl rfl (Nat.le_of_ble_eq_true rfl) ?_
              exact ev_ireturn dX5_join_139 rfl rfl (leafI hQ rfl rfl)
            · exact absurd (hh.symm.trans h85) (by decide)
          · exact absurd (hm0.symm.trans h49) (by decide)
      · exact absurd (hc1.symm.trans h22) (by decide)

set_option maxRecDepth 100000 in
set_option maxHeartbeats 1000000 in
theorem c_X5_join_new {l : Launch} {σ : av_S} (s : Nat) (n : Nat) (ch : Nat) (j : Nat) (c : Nat) (hs : s < 6) (hn0 : n < 10) (hs1 : sv (σ 0 0) (nI s) = true) (hn1 : sv (nI 10) (nI n) = true) (hc0 : ch < 4) (hc1 : sv (nI 4) (nI ch) = true) (hu : us (σ 2) s n = true) (hm0 : tb (σ 3 (s * 4 + ch)) n = false) (hh : hc (σ 1) (σ 3) s ch = false) (hj : σ 64 1 = nI j) (hj8 : j < 8) (hcc : σ 64 2 = nI c) (hc8 : c ≤ 8) : av_M l RX5 cX5_join 5 (some .int) 4 [.ref 63, .int (nI s), .int (nI n), .int (nI ch)] σ (some (.int (jbc (un (adM (σ 3) s n ch) (net (σ 1) s) ch)))) (av_set (av_set (av_set (av_set (hkeep σ j c) 3 (adM (σ 3) s n ch)) 4 (adM (σ 4) s n ch)) 5 (ds (σ 5) (net (σ 1) s) ch (σ 0 1))) 6 (ds (σ 6) (net (σ 1) s) ch (nI 0))) := by
  intro Q hQ
  show av_Ev l RX5 cX5_join 5 (some .int) av_E0 4 0 [(0, .ref 63), (1, .int (nI s)), (2, .int (nI n)), (3, .int (nI ch))] [] σ Q
  refine ev_aload_n dX5_join_0 rfl 0 rfl ?_
  refine ev_getR dX5_join_1 C_X5 L_X5_12 (by decide) (by decide) sh_63 rfl ?_
  refine ev_iload_n dX5_join_4 rfl 1 rfl ?_
  refine ev_callVi (x := b2i (sv (σ 0 0) (nI s))) dX5_join_5 M_X5_97 Y_X4_hasServer [.int (nI s)] (c_X4_hasServer (nI s) ) (by decide) (Nat.le_of_ble_eq_true rfl) (by decide) sh_0 rfl rfl rfl (Nat.le_of_ble_eq_true rfl) ?_
  refine ev_ifb_eq (tgt := 25) dX5_join_8 (by decide) (fun h8 => ?_) (fun h8 => ?_)
  · exact absurd (hs1.symm.trans h8) (by decide)
  · refine ev_iload_n dX5_join_11 rfl 2 rfl ?_
    refine ev_callSi (x := b2i (sv (nI 10) (nI n))) dX5_join_12 (Or.inl M_X5_101) Y_X5_isNick [.int (nI n)] (c_X5_isNick (nI n) ) (by decide) (Nat.le_of_ble_eq_true rfl) rfl rfl (Nat.le_of_ble_eq_true rfl) ?_
    refine ev_ifb_eq (tgt := 25) dX5_join_15 (by decide) (fun h15 => ?_) (fun h15 => ?_)
    · exact absurd (hn1.symm.trans h15) (by decide)
    · refine ev_iload_n dX5_join_18 rfl 3 rfl ?_
      refine ev_callSi (x := b2i (sv (nI 4) (nI ch))) dX5_join_19 (Or.inl M_X5_133) Y_X5_isChannel [.int (nI ch)] (c_X5_isChannel (nI ch) ) (by decide) (Nat.le_of_ble_eq_true rfl) rfl rfl (Nat.le_of_ble_eq_true rfl) ?_
      refine ev_ifb_ne (tgt := 27) dX5_join_22 (by decide) (fun h22 => ?_) (fun h22 => ?_)
      · refine ev_aload_n dX5_join_27 rfl 0 rfl ?_
        refine ev_getR dX5_join_28 C_X5 L_X5_12 (by decide) (by decide) sh_63 rfl ?_
        refine ev_iload_n dX5_join_31 rfl 1 rfl ?_
        refine ev_iload_n dX5_join_32 rfl 2 rfl ?_
        refine ev_callVi (x := b2i (us (σ 2) s n)) dX5_join_33 M_X5_111 Y_X4_hasUser [.int (nI s), .int (nI n)] (c_X4_hasUser s n (by omega) (by omega)) (by decide) (Nat.le_of_ble_eq_true rfl) (by decide) sh_0 rfl rfl rfl (Nat.le_of_ble_eq_true rfl) ?_
        refine ev_ifb_eq (tgt := 52) dX5_join_36 (by decide) (fun h36 => ?_) (fun h36 => ?_)
        · exact absurd (hu.symm.trans h36) (by decide)
        · refine ev_aload_n dX5_join_39 rfl 0 rfl ?_
          refine ev_getR dX5_join_40 C_X5 L_X5_12 (by decide) (by decide) sh_63 rfl ?_
          refine ev_iload_n dX5_join_43 rfl 1 rfl ?_
          refine ev_iload_n dX5_join_44 rfl 2 rfl ?_
          refine ev_iload_n dX5_join_45 rfl 3 rfl ?_
          refine ev_callVi (x := b2i (tb (σ 3 (s * 4 + ch)) n)) dX5_join_46 M_X5_136 Y_X4_isMember [.int (nI s), .int (nI n), .int (nI ch)] (c_X4_isMember s n ch (by omega) (by omega) (by omega)) (by decide) (Nat.le_of_ble_eq_true rfl) (by decide) sh_0 rfl rfl rfl (Nat.le_of_ble_eq_true rfl) ?_
          refine ev_ifb_eq (tgt := 55) dX5_join_49 (by decide) (fun h49 => ?_) (fun h49 => ?_)
          · refine ev_aload_n dX5_join_55 rfl 0 rfl ?_
            refine ev_getR dX5_join_56 C_X5 L_X5_12 (by decide) (by decide) sh_63 rfl ?_
            refine ev_iload_n dX5_join_59 rfl 1 rfl ?_
            refine ev_callVi (x := net (σ 1) s) dX5_join_60 M_X5_79 Y_X4_networkOf [.int (nI s)] (c_X4_networkOf s (by omega)) (by decide) (Nat.le_of_ble_eq_true rfl) (by decide) sh_0 rfl rfl rfl (Nat.le_of_ble_eq_true rfl) ?_
            refine ev_istore (lv' := [(4, .int (net (σ 1) s)), (0, .ref 63), (1, .int (nI s)), (2, .int (nI n)), (3, .int (nI ch))]) dX5_join_63 (by decide) rfl ?_
            refine ev_aload_n dX5_join_65 rfl 1 rfl ?_
            refine ev_getR dX5_join_66 C_X5 L_X5_19 (by decide) (by decide) sh_63 rfl ?_
            refine ev_aload_n dX5_join_69 rfl 1 rfl ?_
            refine ev_getR dX5_join_70 C_X5 L_X5_12 (by decide) (by decide) sh_63 rfl ?_
            refine ev_callVv (σ' := hkeep σ j c) dX5_join_73 M_X5_41 Y_X0_keep [.ref 0] (c_X0_keep j c (by first | exact hj | omega) (by first | exact hj8 | omega) (by first | exact hcc | omega) (by first | exact hc8 | omega)) (by decide) (Nat.le_of_ble_eq_true rfl) (by decide) sh_64 rfl rfl rfl (Nat.le_of_ble_eq_true rfl) ?_
            refine ev_aload_n dX5_join_76 rfl 1 rfl ?_
            refine ev_getR dX5_join_77 C_X5 L_X5_12 (by decide) (by decide) sh_63 rfl ?_
            refine ev_iload_n dX5_join_80 rfl 2 rfl ?_
            refine ev_iload_n dX5_join_81 rfl 4 rfl ?_
            refine ev_callVi (x := b2i (hc (σ 1) (σ 3) s ch)) dX5_join_82 M_X5_140 Y_X4_hasChannel [.int (nI s), .int (nI ch)] (c_X4_hasChannel s ch (by omega) (by omega)) (by decide) (Nat.le_of_ble_eq_true rfl) (by decide) sh_0 rfl rfl rfl (Nat.le_of_ble_eq_true rfl) ?_
            refine ev_ifb_ne (tgt := 116) dX5_join_85 (by decide) (fun h85 => ?_) (fun h85 => ?_)
            · exact absurd (hh.symm.trans h85) (by decide)
            · refine ev_aload_n dX5_join_88 rfl 1 rfl ?_
              refine ev_getR dX5_join_89 C_X5 L_X5_12 (by decide) (by decide) sh_63 rfl ?_
              refine ev_iload dX5_join_92 0 rfl ?_
              refine ev_iload_n dX5_join_94 rfl 4 rfl ?_
              refine ev_aload_n dX5_join_95 rfl 1 rfl ?_
              refine ev_getR dX5_join_96 C_X5 L_X5_12 (by decide) (by decide) sh_63 rfl ?_
              refine ev_getI dX5_join_99 C_X4 L_X5_87 (by decide) (by decide) sh_0 rfl ?_
              refine ev_top (v := σ 0 1) (by first | rfl | (simp only [av_set, cpS]; (repeat' split) <;> first | rfl | (exfalso; omega))) ?_
              refine ev_iconst dX5_join_102 (v := nI 0) (by decide) ?_
              refine ev_callVv dX5_join_103 M_X5_143 Y_X4_describeChannel [.int (net (σ 1) s), .int (nI ch), .int (σ 0 1), .int (nI 0)] (c_X4_describeChannel (net (σ 1) s) ch (σ 0 1) (nI 0) (by omega)) (by decide) (Nat.le_of_ble_eq_true rfl) (by decide) sh_0 rfl rfl rfl (Nat.le_of_ble_eq_true rfl) ?_
              refine ev_st (σ' := av_set (av_set (hkeep σ j c) 5 (ds (σ 5) (net (σ 1) s) ch (σ 0 1))) 6 (ds (σ 6) (net (σ 1) s) ch (nI 0))) (by first | rfl | (funext a; by_cases q5 : a = 5; (next => subst q5; rfl); by_cases q6 : a = 6; (next => subst q6; rfl); simp only [av_set, q5, q6, if_false]) | exact av_set_set _ _ _ _ | (funext a; unfold av_set; (repeat' split) <;> first | rfl | (exfalso; omega)) | (funext a; simp only [av_set, cpS]; (repeat' split) <;> first | rfl | (exfalso; omega))) ?_
              refine ev_aload_n dX5_join_106 rfl 1 rfl ?_
              refine ev_getR dX5_join_107 C_X5 L_X5_12 (by decide) (by decide) sh_63 rfl ?_
              refine ev_iload_n dX5_join_110 rfl 2 rfl ?_
              refine ev_iload_n dX5_join_111 rfl 3 rfl ?_
              refine ev_iload_n dX5_join_112 rfl 4 rfl ?_
              refine ev_callVv dX5_join_113 M_X5_147 Y_X4_addOperator [.int (nI s), .int (nI n), .int (nI ch)] (c_X4_addOperator s n ch (by omega) (by omega) (by omega)) (by decide) (Nat.le_of_ble_eq_true rfl) (by decide) sh_0 rfl rfl rfl (Nat.le_of_ble_eq_true rfl) ?_
              refine ev_st (σ' := av_set (av_set (av_set (hkeep σ j c) 4 (adM (σ 4) s n ch)) 5 (ds (σ 5) (net (σ 1) s) ch (σ 0 1))) 6 (ds (σ 6) (net (σ 1) s) ch (nI 0))) (by first | rfl | (funext a; by_cases q4 : a = 4; (next => subst q4; rfl); by_cases q5 : a = 5; (next => subst q5; rfl); by_cases q6 : a = 6; (next => subst q6; rfl); simp only [av_set, q4, q5, q6, if_false]) | exact av_set_set _ _ _ _ | (funext a; unfold av_set; (repeat' split) <;> first | rfl | (exfalso; omega)) | (funext a; simp only [av_set, cpS]; (repeat' split) <;> first | rfl | (exfalso; omega))) ?_
              refine ev_aload_n dX5_join_116 rfl 1 rfl ?_
              refine ev_getR dX5_join_117 C_X5 L_X5_12 (by decide) (by decide) sh_63 rfl ?_
              refine ev_iload_n dX5_join_120 rfl 2 rfl ?_
              refine ev_iload_n dX5_join_121 rfl 3 rfl ?_
              refine ev_iload_n dX5_join_122 rfl 4 rfl ?_
              refine ev_callVv dX5_join_123 M_X5_150 Y_X4_addMember [.int (nI s), .int (nI n), .int (nI ch)] (c_X4_addMember s n ch (by omega) (by omega) (by omega)) (by decide) (Nat.le_of_ble_eq_true rfl) (by decide) sh_0 rfl rfl rfl (Nat.le_of_ble_eq_true rfl) ?_
              refine ev_st (σ' := av_set (av_set (av_set (av_set (hkeep σ j c) 3 (adM (σ 3) s n ch)) 4 (adM (σ 4) s n ch)) 5 (ds (σ 5) (net (σ 1) s) ch (σ 0 1))) 6 (ds (σ 6) (net (σ 1) s) ch (nI 0))) (by first | rfl | (funext a; by_cases q3 : a = 3; (next => subst q3; rfl); by_cases q4 : a = 4; (next => subst q4; rfl); by_cases q5 : a = 5; (next => subst q5; rfl); by_cases q6 : a = 6; (next => subst q6; rfl); simp only [av_set, q3, q4, q5, q6, if_false]) | exact av_set_set _ _ _ _ | (funext a; unfold av_set; (repeat' split) <;> first | rfl | (exfalso; omega)) | (funext a; simp only [av_set, cpS]; (repeat' split) <;> first | rfl | (exfalso; omega))) ?_
              refine ev_aload_n dX5_join_126 rfl 1 rfl ?_
              refine ev_getR dX5_join_127 C_X5 L_X5_12 (by decide) (by decide) sh_63 rfl ?_
              refine ev_iload dX5_join_130 0 rfl ?_
              refine ev_iload_n dX5_join_132 rfl 4 rfl ?_
              refine ev_callVi (x := un (adM (σ 3) s n ch) (net (σ 1) s) ch) dX5_join_133 M_X5_153 Y_X4_membersIn [.int (net (σ 1) s), .int (nI ch)] (c_X4_membersIn (net (σ 1) s) ch (by omega)) (by decide) (Nat.le_of_ble_eq_true rfl) (by decide) sh_0 rfl rfl rfl (Nat.le_of_ble_eq_true rfl) ?_
              refine ev_callSi (x := jbc (un (adM (σ 3) s n ch) (net (σ 1) s) ch)) dX5_join_136 (Or.inl M_X5_82) Y_J6_bitCount_0f7a4 [.int (un (adM (σ 3) s n ch) (net (σ 1) s) ch)] (c_J6_bitCount_0f7a4 (un (adM (σ 3) s n ch) (net (σ 1) s) ch) ) (by decide) (Nat.le_of_ble_eq_true rfl) rfl rfl (Nat.le_of_ble_eq_true rfl) ?_
              exact ev_ireturn dX5_join_139 rfl rfl (leafI hQ rfl rfl)
          · exact absurd (hm0.symm.trans h49) (by decide)
      · exact absurd (hc1.symm.trans h22) (by decide)

set_option maxRecDepth 100000 in
set_option maxHeartbeats 1000000 in
theorem c_X5_leaveChannel {l : Launch} {σ : av_S} (s : Nat) (n : Nat) (ch : Nat) (j : Nat) (c : Nat) (hs : s < 6) (hn0 : n < 10) (hc0 : ch < 4) (hj : σ 64 1 = nI j) (hj8 : j < 8) (hcc : σ 64 2 = nI c) (hc8 : c ≤ 8) : av_M l RX5 cX5_leaveChannel 4 (some .int) 3 [.ref 63, .int (nI s), .int (nI n), .int (nI ch)] σ (some (.int (jbc (un (rmM (σ 3) s n ch) (net (σ 1) s) ch)))) (av_set (av_set (hkeep σ j c) 3 (rmM (σ 3) s n ch)) 4 (rmM (σ 4) s n ch)) := by
  intro Q hQ
  show av_Ev l RX5 cX5_leaveChannel 4 (some .int) av_E0 3 0 [(0, .ref 63), (1, .int (nI s)), (2, .int (nI n)), (3, .int (nI ch))] [] σ Q
  refine ev_aload_n dX5_leaveChannel_0 rfl 0 rfl ?_
  refine ev_getR dX5_leaveChannel_1 C_X5 L_X5_19 (by decide) (by decide) sh_63 rfl ?_
  refine ev_aload_n dX5_leaveChannel_4 rfl 0 rfl ?_
  refine ev_getR dX5_leaveChannel_5 C_X5 L_X5_12 (by decide) (by decide) sh_63 rfl ?_
  refine ev_callVv (σ' := hkeep σ j c) dX5_leaveChannel_8 M_X5_41 Y_X0_keep [.ref 0] (c_X0_keep j c (by first | exact hj | omega) (by first | exact hj8 | omega) (by first | exact hcc | omega) (by first | exact hc8 | omega)) (by decide) (Nat.le_of_ble_eq_true rfl) (by decide) sh_64 rfl rfl rfl (Nat.le_of_ble_eq_true rfl) ?_
  refine ev_aload_n dX5_leaveChannel_11 rfl 0 rfl ?_
  refine ev_getR dX5_leaveChannel_12 C_X5 L_X5_12 (by decide) (by decide) sh_63 rfl ?_
  refine ev_iload_n dX5_leaveChannel_15 rfl 1 rfl ?_
  refine ev_iload_n dX5_leaveChannel_16 rfl 2 rfl ?_
  refine ev_iload_n dX5_leaveChannel_17 rfl 3 rfl ?_
  refine ev_callVv dX5_leaveChannel_18 M_X5_163 Y_X4_removeMember [.int (nI s), .int (nI n), .int (nI ch)] (c_X4_removeMember s n ch (by omega) (by omega) (by omega)) (by decide) (Nat.le_of_ble_eq_true rfl) (by decide) sh_0 rfl rfl rfl (Nat.le_of_ble_eq_true rfl) ?_
  refine ev_st (σ' := av_set (av_set (hkeep σ j c) 3 (rmM (σ 3) s n ch)) 4 (rmM (σ 4) s n ch)) (by first | rfl | (funext a; by_cases q3 : a = 3; (next => subst q3; rfl); by_cases q4 : a = 4; (next => subst q4; rfl); simp only [av_set, q3, q4, if_false]) | exact av_set_set _ _ _ _ | (funext a; unfold av_set; (repeat' split) <;> first | rfl | (exfalso; omega)) | (funext a; simp only [av_set, cpS]; (repeat' split) <;> first | rfl | (exfalso; omega))) ?_
  refine ev_aload_n dX5_leaveChannel_21 rfl 0 rfl ?_
  refine ev_getR dX5_leaveChannel_22 C_X5 L_X5_12 (by decide) (by decide) sh_63 rfl ?_
  refine ev_aload_n dX5_leaveChannel_25 rfl 0 rfl ?_
  refine ev_getR dX5_leaveChannel_26 C_X5 L_X5_12 (by decide) (by decide) sh_63 rfl ?_
  refine ev_iload_n dX5_leaveChannel_29 rfl 1 rfl ?_
  refine ev_callVi (x := net (σ 1) s) dX5_leaveChannel_30 M_X5_79 Y_X4_networkOf [.int (nI s)] (c_X4_networkOf s (by omega)) (by decide) (Nat.le_of_ble_eq_true rfl) (by decide) sh_0 rfl rfl rfl (Nat.le_of_ble_eq_true rfl) ?_
  refine ev_iload_n dX5_leaveChannel_33 rfl 3 rfl ?_
  refine ev_callVi (x := un (rmM (σ 3) s n ch) (net (σ 1) s) ch) dX5_leaveChannel_34 M_X5_153 Y_X4_membersIn [.int (net (σ 1) s), .int (nI ch)] (c_X4_membersIn (net (σ 1) s) ch (by omega)) (by decide) (Nat.le_of_ble_eq_true rfl) (by decide) sh_0 rfl rfl rfl (Nat.le_of_ble_eq_true rfl) ?_
  refine ev_callSi (x := jbc (un (rmM (σ 3) s n ch) (net (σ 1) s) ch)) dX5_leaveChannel_37 (Or.inl M_X5_82) Y_J6_bitCount_0f7a4 [.int (un (rmM (σ 3) s n ch) (net (σ 1) s) ch)] (c_J6_bitCount_0f7a4 (un (rmM (σ 3) s n ch) (net (σ 1) s) ch) ) (by decide) (Nat.le_of_ble_eq_true rfl) rfl rfl (Nat.le_of_ble_eq_true rfl) ?_
  exact ev_ireturn dX5_leaveChannel_40 rfl rfl (leafI hQ rfl rfl)

set_option maxRecDepth 100000 in
set_option maxHeartbeats 1000000 in
theorem c_X5_part_bad {l : Launch} {σ : av_S} (x : Int32) (y : Int32) (z : Int32) (hx : (sv (σ 0 0) x && sv (nI 10) y && sv (nI 4) z) = false) : av_M l RX5 cX5_part 4 (some .int) 1 [.ref 63, .int x, .int y, .int z] σ (some (.int (-1))) σ := by
  intro Q hQ
  show av_Ev l RX5 cX5_part 4 (some .int) av_E0 1 0 [(0, .ref 63), (1, .int x), (2, .int y), (3, .int z)] [] σ Q
  refine ev_aload_n dX5_part_0 rfl 0 rfl ?_
  refine ev_getR dX5_part_1 C_X5 L_X5_12 (by decide) (by decide) sh_63 rfl ?_
  refine ev_iload_n dX5_part_4 rfl 1 rfl ?_
  refine ev_callVi (x := b2i (sv (σ 0 0) x)) dX5_part_5 M_X5_97 Y_X4_hasServer [.int x] (c_X4_hasServer x ) (by decide) (Nat.le_of_ble_eq_true rfl) (by decide) sh_0 rfl rfl rfl (Nat.le_of_ble_eq_true rfl) ?_
  refine ev_ifb_eq (tgt := 25) dX5_part_8 (by decide) (fun h8 => ?_) (fun h8 => ?_)
  · refine ev_iconst dX5_part_25 (v := (-1)) (by decide) ?_
    exact ev_ireturn dX5_part_26 rfl rfl (leafI hQ rfl rfl)
  · refine ev_iload_n dX5_part_11 rfl 2 rfl ?_
    refine ev_callSi (x := b2i (sv (nI 10) y)) dX5_part_12 (Or.inl M_X5_101) Y_X5_isNick [.int y] (c_X5_isNick y ) (by decide) (Nat.le_of_ble_eq_true rfl) rfl rfl (Nat.le_of_ble_eq_true rfl) ?_
    refine ev_ifb_eq (tgt := 25) dX5_part_15 (by decide) (fun h15 => ?_) (fun h15 => ?_)
    · refine ev_iconst dX5_part_25 (v := (-1)) (by decide) ?_
      exact ev_ireturn dX5_part_26 rfl rfl (leafI hQ rfl rfl)
    · refine ev_iload_n dX5_part_18 rfl 3 rfl ?_
      refine ev_callSi (x := b2i (sv (nI 4) z)) dX5_part_19 (Or.inl M_X5_133) Y_X5_isChannel [.int z] (c_X5_isChannel z ) (by decide) (Nat.le_of_ble_eq_true rfl) rfl rfl (Nat.le_of_ble_eq_true rfl) ?_
      refine ev_ifb_ne (tgt := 27) dX5_part_22 (by decide) (fun h22 => ?_) (fun h22 => ?_)
      · exact absurd hx (by simp [h8, h15, h22])
      · refine ev_iconst dX5_part_25 (v := (-1)) (by decide) ?_
        exact ev_ireturn dX5_part_26 rfl rfl (leafI hQ rfl rfl)

set_option maxRecDepth 100000 in
set_option maxHeartbeats 1000000 in
theorem c_X5_part_st {l : Launch} {σ : av_S} (s : Nat) (n : Nat) (ch : Nat) (hs : s < 6) (hn0 : n < 10) (hs1 : sv (σ 0 0) (nI s) = true) (hn1 : sv (nI 10) (nI n) = true) (hc0 : ch < 4) (hc1 : sv (nI 4) (nI ch) = true) (hm0 : tb (σ 3 (s * 4 + ch)) n = false) : av_M l RX5 cX5_part 4 (some .int) 2 [.ref 63, .int (nI s), .int (nI n), .int (nI ch)] σ (some (.int (-2))) σ := by
  intro Q hQ
  show av_Ev l RX5 cX5_part 4 (some .int) av_E0 2 0 [(0, .ref 63), (1, .int (nI s)), (2, .int (nI n)), (3, .int (nI ch))] [] σ Q
  refine ev_aload_n dX5_part_0 rfl 0 rfl ?_
  refine ev_getR dX5_part_1 C_X5 L_X5_12 (by decide) (by decide) sh_63 rfl ?_
  refine ev_iload_n dX5_part_4 rfl 1 rfl ?_
  refine ev_callVi (x := b2i (sv (σ 0 0) (nI s))) dX5_part_5 M_X5_97 Y_X4_hasServer [.int (nI s)] (c_X4_hasServer (nI s) ) (by decide) (Nat.le_of_ble_eq_true rfl) (by decide) sh_0 rfl rfl rfl (Nat.le_of_ble_eq_true rfl) ?_
  refine ev_ifb_eq (tgt := 25) dX5_part_8 (by decide) (fun h8 => ?_) (fun h8 => ?_)
  · exact absurd (hs1.symm.trans h8) (by decide)
  · refine ev_iload_n dX5_part_11 rfl 2 rfl ?_
    refine ev_callSi (x := b2i (sv (nI 10) (nI n))) dX5_part_12 (Or.inl M_X5_101) Y_X5_isNick [.int (nI n)] (c_X5_isNick (nI n) ) (by decide) (Nat.le_of_ble_eq_true rfl) rfl rfl (Nat.le_of_ble_eq_true rfl) ?_
    refine ev_ifb_eq (tgt := 25) dX5_part_15 (by decide) (fun h15 => ?_) (fun h15 => ?_)
    · exact absurd (hn1.symm.trans h15) (by decide)
    · refine ev_iload_n dX5_part_18 rfl 3 rfl ?_
      refine ev_callSi (x := b2i (sv (nI 4) (nI ch))) dX5_part_19 (Or.inl M_X5_133) Y_X5_isChannel [.int (nI ch)] (c_X5_isChannel (nI ch) ) (by decide) (Nat.le_of_ble_eq_true rfl) rfl rfl (Nat.le_of_ble_eq_true rfl) ?_
      refine ev_ifb_ne (tgt := 27) dX5_part_22 (by decide) (fun h22 => ?_) (fun h22 => ?_)
      · refine ev_aload_n dX5_part_27 rfl 0 rfl ?_
        refine ev_getR dX5_part_28 C_X5 L_X5_12 (by decide) (by decide) sh_63 rfl ?_
        refine ev_iload_n dX5_part_31 rfl 1 rfl ?_
        refine ev_iload_n dX5_part_32 rfl 2 rfl ?_
        refine ev_iload_n dX5_part_33 rfl 3 rfl ?_
        refine ev_callVi (x := b2i (tb (σ 3 (s * 4 + ch)) n)) dX5_part_34 M_X5_136 Y_X4_isMember [.int (nI s), .int (nI n), .int (nI ch)] (c_X4_isMember s n ch (by omega) (by omega) (by omega)) (by decide) (Nat.le_of_ble_eq_true rfl) (by decide) sh_0 rfl rfl rfl (Nat.le_of_ble_eq_true rfl) ?_
        refine ev_ifb_ne (tgt := 43) dX5_part_37 (by decide) (fun h37 => ?_) (fun h37 => ?_)
        · exact absurd (hm0.symm.trans h37) (by decide)
        · refine ev_bipush dX5_part_40 (v := (-2)) (by decide) ?_
          exact ev_ireturn dX5_part_42 rfl rfl (leafI hQ rfl rfl)
      · exact absurd (hc1.symm.trans h22) (by decide)

set_option maxRecDepth 100000 in
set_option maxHeartbeats 1000000 in
theorem c_X5_part_ok {l : Launch} {σ : av_S} (s : Nat) (n : Nat) (ch : Nat) (j : Nat) (c : Nat) (hs : s < 6) (hn0 : n < 10) (hs1 : sv (σ 0 0) (nI s) = true) (hn1 : sv (nI 10) (nI n) = true) (hc0 : ch < 4) (hc1 : sv (nI 4) (nI ch) = true) (hm0 : tb (σ 3 (s * 4 + ch)) n = true) (hj : σ 64 1 = nI j) (hj8 : j < 8) (hcc : σ 64 2 = nI c) (hc8 : c ≤ 8) : av_M l RX5 cX5_part 4 (some .int) 4 [.ref 63, .int (nI s), .int (nI n), .int (nI ch)] σ (some (.int (jbc (un (rmM (σ 3) s n ch) (net (σ 1) s) ch)))) (av_set (av_set (hkeep σ j c) 3 (rmM (σ 3) s n ch)) 4 (rmM (σ 4) s n ch)) := by
  intro Q hQ
  show av_Ev l RX5 cX5_part 4 (some .int) av_E0 4 0 [(0, .ref 63), (1, .int (nI s)), (2, .int (nI n)), (3, .int (nI ch))] [] σ Q
  refine ev_aload_n dX5_part_0 rfl 0 rfl ?_
  refine ev_getR dX5_part_1 C_X5 L_X5_12 (by decide) (by decide) sh_63 rfl ?_
  refine ev_iload_n dX5_part_4 rfl 1 rfl ?_
  refine ev_callVi (x := b2i (sv (σ 0 0) (nI s))) dX5_part_5 M_X5_97 Y_X4_hasServer [.int (nI s)] (c_X4_hasServer (nI s) ) (by decide) (Nat.le_of_ble_eq_true rfl) (by decide) sh_0 rfl rfl rfl (Nat.le_of_ble_eq_true rfl) ?_
  refine ev_ifb_eq (tgt := 25) dX5_part_8 (by decide) (fun h8 => ?_) (fun h8 => ?_)
  · exact absurd (hs1.symm.trans h8) (by decide)
  · refine ev_iload_n dX5_part_11 rfl 2 rfl ?_
    refine ev_callSi (x := b2i (sv (nI 10) (nI n))) dX5_part_12 (Or.inl M_X5_101) Y_X5_isNick [.int (nI n)] (c_X5_isNick (nI n) ) (by decide) (Nat.le_of_ble_eq_true rfl) rfl rfl (Nat.le_of_ble_eq_true rfl) ?_
    refine ev_ifb_eq (tgt := 25) dX5_part_15 (by decide) (fun h15 => ?_) (fun h15 => ?_)
    · exact absurd (hn1.symm.trans h15) (by decide)
    · refine ev_iload_n dX5_part_18 rfl 3 rfl ?_
      refine ev_callSi (x := b2i (sv (nI 4) (nI ch))) dX5_part_19 (Or.inl M_X5_133) Y_X5_isChannel [.int (nI ch)] (c_X5_isChannel (nI ch) ) (by decide) (Nat.le_of_ble_eq_true rfl) rfl rfl (Nat.le_of_ble_eq_true rfl) ?_
      refine ev_ifb_ne (tgt := 27) dX5_part_22 (by decide) (fun h22 => ?_) (fun h22 => ?_)
      · refine ev_aload_n dX5_part_27 rfl 0 rfl ?_
        refine ev_getR dX5_part_28 C_X5 L_X5_12 (by decide) (by decide) sh_63 rfl ?_
        refine ev_iload_n dX5_part_31 rfl 1 rfl ?_
        refine ev_iload_n dX5_part_32 rfl 2 rfl ?_
        refine ev_iload_n dX5_part_33 rfl 3 rfl ?_
        refine ev_callVi (x := b2i (tb (σ 3 (s * 4 + ch)) n)) dX5_part_34 M_X5_136 Y_X4_isMember [.int (nI s), .int (nI n), .int (nI ch)] (c_X4_isMember s n ch (by omega) (by omega) (by omega)) (by decide) (Nat.le_of_ble_eq_true rfl) (by decide) sh_0 rfl rfl rfl (Nat.le_of_ble_eq_true rfl) ?_
        refine ev_ifb_ne (tgt := 43) dX5_part_37 (by decide) (fun h37 => ?_) (fun h37 => ?_)
        · refine ev_aload_n dX5_part_43 rfl 0 rfl ?_
          refine ev_iload_n dX5_part_44 rfl 1 rfl ?_
          refine ev_iload_n dX5_part_45 rfl 2 rfl ?_
          refine ev_iload_n dX5_part_46 rfl 3 rfl ?_
          refine ev_callVi (x := jbc (un (rmM (σ 3) s n ch) (net (σ 1) s) ch)) (σ' := av_set (av_set (hkeep σ j c) 3 (rmM (σ 3) s n ch)) 4 (rmM (σ 4) s n ch)) dX5_part_47 M_X5_156 Y_X5_leaveChannel [.int (nI s), .int (nI n), .int (nI ch)] (c_X5_leaveChannel s n ch j c (by omega) (by omega) (by omega) (by first | exact hj | omega) (by first | exact hj8 | omega) (by first | exact hcc | omega) (by first | exact hc8 | omega)) (by decide) (Nat.le_of_ble_eq_true rfl) (by decide) sh_63 rfl rfl rfl (Nat.le_of_ble_eq_true rfl) ?_
          exact ev_ireturn dX5_part_50 rfl rfl (leafI hQ rfl rfl)
        · exact absurd (hm0.symm.trans h37) (by decide)
      · exact absurd (hc1.symm.trans h22) (by decide)

set_option maxRecDepth 100000 in
set_option maxHeartbeats 1000000 in
theorem c_X5_kick_bad {l : Launch} {σ : av_S} (x : Int32) (y : Int32) (z : Int32) (w : Int32) (hx : (sv (σ 0 0) x && sv (nI 10) y && sv (nI 4) z && sv (nI 10) w) = false) : av_M l RX5 cX5_kick 6 (some .int) 1 [.ref 63, .int x, .int y, .int z, .int w] σ (some (.int (-1))) σ := by
  intro Q hQ
  show av_Ev l RX5 cX5_kick 6 (some .int) av_E0 1 0 [(0, .ref 63), (1, .int x), (2, .int y), (3, .int z), (4, .int w)] [] σ Q
  refine ev_aload_n dX5_kick_0 rfl 0 rfl ?_
  refine ev_getR dX5_kick_1 C_X5 L_X5_12 (by decide) (by decide) sh_63 rfl ?_
  refine ev_iload_n dX5_kick_4 rfl 1 rfl ?_
  refine ev_callVi (x := b2i (sv (σ 0 0) x)) dX5_kick_5 M_X5_97 Y_X4_hasServer [.int x] (c_X4_hasServer x ) (by decide) (Nat.le_of_ble_eq_true rfl) (by decide) sh_0 rfl rfl rfl (Nat.le_of_ble_eq_true rfl) ?_
  refine ev_ifb_eq (tgt := 33) dX5_kick_8 (by decide) (fun h8 => ?_) (fun h8 => ?_)
  · refine ev_iconst dX5_kick_33 (v := (-1)) (by decide) ?_
    exact ev_ireturn dX5_kick_34 rfl rfl (leafI hQ rfl rfl)
  · refine ev_iload_n dX5_kick_11 rfl 2 rfl ?_
    refine ev_callSi (x := b2i (sv (nI 10) y)) dX5_kick_12 (Or.inl M_X5_101) Y_X5_isNick [.int y] (c_X5_isNick y ) (by decide) (Nat.le_of_ble_eq_true rfl) rfl rfl (Nat.le_of_ble_eq_true rfl) ?_
    refine ev_ifb_eq (tgt := 33) dX5_kick_15 (by decide) (fun h15 => ?_) (fun h15 => ?_)
    · refine ev_iconst dX5_kick_33 (v := (-1)) (by decide) ?_
      exact ev_ireturn dX5_kick_34 rfl rfl (leafI hQ rfl rfl)
    · refine ev_iload_n dX5_kick_18 rfl 3 rfl ?_
      refine ev_callSi (x := b2i (sv (nI 4) z)) dX5_kick_19 (Or.inl M_X5_133) Y_X5_isChannel [.int z] (c_X5_isChannel z ) (by decide) (Nat.le_of_ble_eq_true rfl) rfl rfl (Nat.le_of_ble_eq_true rfl) ?_
      refine ev_ifb_eq (tgt := 33) dX5_kick_22 (by decide) (fun h22 => ?_) (fun h22 => ?_)
      · refine ev_iconst dX5_kick_33 (v := (-1)) (by decide) ?_
        exact ev_ireturn dX5_kick_34 rfl rfl (leafI hQ rfl rfl)
      · refine ev_iload dX5_kick_25 4 rfl ?_
        refine ev_callSi (x := b2i (sv (nI 10) w)) dX5_kick_27 (Or.inl M_X5_101) Y_X5_isNick [.int w] (c_X5_isNick w ) (by decide) (Nat.le_of_ble_eq_true rfl) rfl rfl (Nat.le_of_ble_eq_true rfl) ?_
        refine ev_ifb_ne (tgt := 35) dX5_kick_30 (by decide) (fun h30 => ?_) (fun h30 => ?_)
        · exact absurd hx (by simp [h8, h15, h22, h30])
        · refine ev_iconst dX5_kick_33 (v := (-1)) (by decide) ?_
          exact ev_ireturn dX5_kick_34 rfl rfl (leafI hQ rfl rfl)

set_option maxRecDepth 100000 in
set_option maxHeartbeats 1000000 in
theorem c_X5_kick_st1 {l : Launch} {σ : av_S} (s : Nat) (n : Nat) (ch : Nat) (g : Nat) (hs : s < 6) (hn0 : n < 10) (hs1 : sv (σ 0 0) (nI s) = true) (hn1 : sv (nI 10) (nI n) = true) (hc0 : ch < 4) (hc1 : sv (nI 4) (nI ch) = true) (hg0 : g < 10) (hg1 : sv (nI 10) (nI g) = true) (hp : tb (σ 4 (s * 4 + ch)) n = false) : av_M l RX5 cX5_kick 6 (some .int) 2 [.ref 63, .int (nI s), .int (nI n), .int (nI ch), .int (nI g)] σ (some (.int (-2))) σ := by
  intro Q hQ
  show av_Ev l RX5 cX5_kick 6 (some .int) av_E0 2 0 [(0, .ref 63), (1, .int (nI s)), (2, .int (nI n)), (3, .int (nI ch)), (4, .int (nI g))] [] σ Q
  refine ev_aload_n dX5_kick_0 rfl 0 rfl ?_
  refine ev_getR dX5_kick_1 C_X5 L_X5_12 (by decide) (by decide) sh_63 rfl ?_
  refine ev_iload_n dX5_kick_4 rfl 1 rfl ?_
  refine ev_callVi (x := b2i (sv (σ 0 0) (nI s))) dX5_kick_5 M_X5_97 Y_X4_hasServer [.int (nI s)] (c_X4_hasServer (nI s) ) (by decide) (Nat.le_of_ble_eq_true rfl) (by decide) sh_0 rfl rfl rfl (Nat.le_of_ble_eq_true rfl) ?_
  refine ev_ifb_eq (tgt := 33) dX5_kick_8 (by decide) (fun h8 => ?_) (fun h8 => ?_)
  · exact absurd (hs1.symm.trans h8) (by decide)
  · refine ev_iload_n dX5_kick_11 rfl 2 rfl ?_
    refine ev_callSi (x := b2i (sv (nI 10) (nI n))) dX5_kick_12 (Or.inl M_X5_101) Y_X5_isNick [.int (nI n)] (c_X5_isNick (nI n) ) (by decide) (Nat.le_of_ble_eq_true rfl) rfl rfl (Nat.le_of_ble_eq_true rfl) ?_
    refine ev_ifb_eq (tgt := 33) dX5_kick_15 (by decide) (fun h15 => ?_) (fun h15 => ?_)
    · exact absurd (hn1.symm.trans h15) (by decide)
    · refine ev_iload_n dX5_kick_18 rfl 3 rfl ?_
      refine ev_callSi (x := b2i (sv (nI 4) (nI ch))) dX5_kick_19 (Or.inl M_X5_133) Y_X5_isChannel [.int (nI ch)] (c_X5_isChannel (nI ch) ) (by decide) (Nat.le_of_ble_eq_true rfl) rfl rfl (Nat.le_of_ble_eq_true rfl) ?_
      refine ev_ifb_eq (tgt := 33) dX5_kick_22 (by decide) (fun h22 => ?_) (fun h22 => ?_)
      · exact absurd (hc1.symm.trans h22) (by decide)
      · refine ev_iload dX5_kick_25 4 rfl ?_
        refine ev_callSi (x := b2i (sv (nI 10) (nI g))) dX5_kick_27 (Or.inl M_X5_101) Y_X5_isNick [.int (nI g)] (c_X5_isNick (nI g) ) (by decide) (Nat.le_of_ble_eq_true rfl) rfl rfl (Nat.le_of_ble_eq_true rfl) ?_
        refine ev_ifb_ne (tgt := 35) dX5_kick_30 (by decide) (fun h30 => ?_) (fun h30 => ?_)
        · refine ev_aload_n dX5_kick_35 rfl 0 rfl ?_
          refine ev_getR dX5_kick_36 C_X5 L_X5_12 (by decide) (by decide) sh_63 rfl ?_
          refine ev_iload_n dX5_kick_39 rfl 1 rfl ?_
          refine ev_iload_n dX5_kick_40 rfl 2 rfl ?_
          refine ev_iload_n dX5_kick_41 rfl 3 rfl ?_
          refine ev_callVi (x := b2i (tb (σ 4 (s * 4 + ch)) n)) dX5_kick_42 M_X5_160 Y_X4_isOperator [.int (nI s), .int (nI n), .int (nI ch)] (c_X4_isOperator s n ch (by omega) (by omega) (by omega)) (by decide) (Nat.le_of_ble_eq_true rfl) (by decide) sh_0 rfl rfl rfl (Nat.le_of_ble_eq_true rfl) ?_
          refine ev_ifb_ne (tgt := 51) dX5_kick_45 (by decide) (fun h45 => ?_) (fun h45 => ?_)
          · exact absurd (hp.symm.trans h45) (by decide)
          · refine ev_bipush dX5_kick_48 (v := (-2)) (by decide) ?_
            exact ev_ireturn dX5_kick_50 rfl rfl (leafI hQ rfl rfl)
        · exact absurd (hg1.symm.trans h30) (by decide)

set_option maxRecDepth 100000 in
set_option maxHeartbeats 1000000 in
theorem c_X5_kick_st2 {l : Launch} {σ : av_S} (s : Nat) (n : Nat) (ch : Nat) (g : Nat) (hs : s < 6) (hn0 : n < 10) (hs1 : sv (σ 0 0) (nI s) = true) (hn1 : sv (nI 10) (nI n) = true) (hc0 : ch < 4) (hc1 : sv (nI 4) (nI ch) = true) (hg0 : g < 10) (hg1 : sv (nI 10) (nI g) = true) (hp : tb (σ 4 (s * 4 + ch)) n = true) (ho : hm (σ 2) (net (σ 1) s) g = none) : av_M l RX5 cX5_kick 6 (some .int) 3 [.ref 63, .int (nI s), .int (nI n), .int (nI ch), .int (nI g)] σ (some (.int (-2))) σ := by
  intro Q hQ
  show av_Ev l RX5 cX5_kick 6 (some .int) av_E0 3 0 [(0, .ref 63), (1, .int (nI s)), (2, .int (nI n)), (3, .int (nI ch)), (4, .int (nI g))] [] σ Q
  refine ev_aload_n dX5_kick_0 rfl 0 rfl ?_
  refine ev_getR dX5_kick_1 C_X5 L_X5_12 (by decide) (by decide) sh_63 rfl ?_
  refine ev_iload_n dX5_kick_4 rfl 1 rfl ?_
  refine ev_callVi (x := b2i (sv (σ 0 0) (nI s))) dX5_kick_5 M_X5_97 Y_X4_hasServer [.int (nI s)] (c_X4_hasServer (nI s) ) (by decide) (Nat.le_of_ble_eq_true rfl) (by decide) sh_0 rfl rfl rfl (Nat.le_of_ble_eq_true rfl) ?_
  refine ev_ifb_eq (tgt := 33) dX5_kick_8 (by decide) (fun h8 => ?_) (fun h8 => ?_)
  · exact absurd (hs1.symm.trans h8) (by decide)
  · refine ev_iload_n dX5_kick_11 rfl 2 rfl ?_
    refine ev_callSi (x := b2i (sv (nI 10) (nI n))) dX5_kick_12 (Or.inl M_X5_101) Y_X5_isNick [.int (nI n)] (c_X5_isNick (nI n) ) (by decide) (Nat.le_of_ble_eq_true rfl) rfl rfl (Nat.le_of_ble_eq_true rfl) ?_
    refine ev_ifb_eq (tgt := 33) dX5_kick_15 (by decide) (fun h15 => ?_) (fun h15 => ?_)
    · exact absurd (hn1.symm.trans h15) (by decide)
    · refine ev_iload_n dX5_kick_18 rfl 3 rfl ?_
      refine ev_callSi (x := b2i (sv (nI 4) (nI ch))) dX5_kick_19 (Or.inl M_X5_133) Y_X5_isChannel [.int (nI ch)] (c_X5_isChannel (nI ch) ) (by decide) (Nat.le_of_ble_eq_true rfl) rfl rfl (Nat.le_of_ble_eq_true rfl) ?_
      refine ev_ifb_eq (tgt := 33) dX5_kick_22 (by decide) (fun h22 => ?_) (fun h22 => ?_)
      · exact absurd (hc1.symm.trans h22) (by decide)
      · refine ev_iload dX5_kick_25 4 rfl ?_
        refine ev_callSi (x := b2i (sv (nI 10) (nI g))) dX5_kick_27 (Or.inl M_X5_101) Y_X5_isNick [.int (nI g)] (c_X5_isNick (nI g) ) (by decide) (Nat.le_of_ble_eq_true rfl) rfl rfl (Nat.le_of_ble_eq_true rfl) ?_
        refine ev_ifb_ne (tgt := 35) dX5_kick_30 (by decide) (fun h30 => ?_) (fun h30 => ?_)
        · refine ev_aload_n dX5_kick_35 rfl 0 rfl ?_
          refine ev_getR dX5_kick_36 C_X5 L_X5_12 (by decide) (by decide) sh_63 rfl ?_
          refine ev_iload_n dX5_kick_39 rfl 1 rfl ?_
          refine ev_iload_n dX5_kick_40 rfl 2 rfl ?_
          refine ev_iload_n dX5_kick_41 rfl 3 rfl ?_
          refine ev_callVi (x := b2i (tb (σ 4 (s * 4 + ch)) n)) dX5_kick_42 M_X5_160 Y_X4_isOperator [.int (nI s), .int (nI n), .int (nI ch)] (c_X4_isOperator s n ch (by omega) (by omega) (by omega)) (by decide) (Nat.le_of_ble_eq_true rfl) (by decide) sh_0 rfl rfl rfl (Nat.le_of_ble_eq_true rfl) ?_
          refine ev_ifb_ne (tgt := 51) dX5_kick_45 (by decide) (fun h45 => ?_) (fun h45 => ?_)
          · refine ev_aload_n dX5_kick_51 rfl 0 rfl ?_
            refine ev_getR dX5_kick_52 C_X5 L_X5_12 (by decide) (by decide) sh_63 rfl ?_
            refine ev_aload_n dX5_kick_55 rfl 0 rfl ?_
            refine ev_getR dX5_kick_56 C_X5 L_X5_12 (by decide) (by decide) sh_63 rfl ?_
            refine ev_iload_n dX5_kick_59 rfl 1 rfl ?_
            refine ev_callVi (x := net (σ 1) s) dX5_kick_60 M_X5_79 Y_X4_networkOf [.int (nI s)] (c_X4_networkOf s (by omega)) (by decide) (Nat.le_of_ble_eq_true rfl) (by decide) sh_0 rfl rfl rfl (Nat.le_of_ble_eq_true rfl) ?_
            refine ev_iload dX5_kick_63 4 rfl ?_
            refine ev_callVi (x := oI (hm (σ 2) (net (σ 1) s) g)) dX5_kick_65 M_X5_104 Y_X4_homeIn [.int (net (σ 1) s), .int (nI g)] (c_X4_homeIn (net (σ 1) s) g (by omega)) (by decide) (Nat.le_of_ble_eq_true rfl) (by decide) sh_0 rfl rfl rfl (Nat.le_of_ble_eq_true rfl) ?_
            refine ev_top (v := (-1)) (by rw [ho]; rfl) ?_
            refine ev_istore (lv' := [(5, .int (-1)), (0, .ref 63), (1, .int (nI s)), (2, .int (nI n)), (3, .int (nI ch)), (4, .int (nI g))]) dX5_kick_68 (by decide) rfl ?_
            refine ev_iload dX5_kick_70 0 rfl ?_
            refine ev_iconst dX5_kick_72 (v := (-1)) (by decide) ?_
            refine ev_icmp_eq (tgt := 91) dX5_kick_73 (by decide) (fun h73 => ?_) (fun h73 => ?_)
            · refine ev_bipush dX5_kick_91 (v := (-2)) (by decide) ?_
              exact ev_ireturn dX5_kick_93 rfl rfl (leafI hQ rfl rfl)
            · exact absurd rfl h73
          · exact absurd (hp.symm.trans h45) (by decide)
        · exact absurd (hg1.symm.trans h30) (by decide)

set_option maxRecDepth 100000 in
set_option maxHeartbeats 1000000 in
theorem c_X5_kick_st3 {l : Launch} {σ : av_S} (s : Nat) (n : Nat) (ch : Nat) (g : Nat) (u : Nat) (hs : s < 6) (hn0 : n < 10) (hs1 : sv (σ 0 0) (nI s) = true) (hn1 : sv (nI 10) (nI n) = true) (hc0 : ch < 4) (hc1 : sv (nI 4) (nI ch) = true) (hg0 : g < 10) (hg1 : sv (nI 10) (nI g) = true) (hp : tb (σ 4 (s * 4 + ch)) n = true) (ho : hm (σ 2) (net (σ 1) s) g = some u) (hu6 : u < 6) (hm0 : tb (σ 3 (u * 4 + ch)) g = false) : av_M l RX5 cX5_kick 6 (some .int) 3 [.ref 63, .int (nI s), .int (nI n), .int (nI ch), .int (nI g)] σ (some (.int (-2))) σ := by
  intro Q hQ
  show av_Ev l RX5 cX5_kick 6 (some .int) av_E0 3 0 [(0, .ref 63), (1, .int (nI s)), (2, .int (nI n)), (3, .int (nI ch)), (4, .int (nI g))] [] σ Q
  refine ev_aload_n dX5_kick_0 rfl 0 rfl ?_
  refine ev_getR dX5_kick_1 C_X5 L_X5_12 (by decide) (by decide) sh_63 rfl ?_
  refine ev_iload_n dX5_kick_4 rfl 1 rfl ?_
  refine ev_callVi (x := b2i (sv (σ 0 0) (nI s))) dX5_kick_5 M_X5_97 Y_X4_hasServer [.int (nI s)] (c_X4_hasServer (nI s) ) (by decide) (Nat.le_of_ble_eq_true rfl) (by decide) sh_0 rfl rfl rfl (Nat.le_of_ble_eq_true rfl) ?_
  refine ev_ifb_eq (tgt := 33) dX5_kick_8 (by decide) (fun h8 => ?_) (fun h8 => ?_)
  · exact absurd (hs1.symm.trans h8) (by decide)
  · refine ev_iload_n dX5_kick_11 rfl 2 rfl ?_
    refine ev_callSi (x := b2i (sv (nI 10) (nI n))) dX5_kick_12 (Or.inl M_X5_101) Y_X5_isNick [.int (nI n)] (c_X5_isNick (nI n) ) (by decide) (Nat.le_of_ble_eq_true rfl) rfl rfl (Nat.le_of_ble_eq_true rfl) ?_
    refine ev_ifb_eq (tgt := 33) dX5_kick_15 (by decide) (fun h15 => ?_) (fun h15 => ?_)
    · exact absurd (hn1.symm.trans h15) (by decide)
    · refine ev_iload_n dX5_kick_18 rfl 3 rfl ?_
      refine ev_callSi (x := b2i (sv (nI 4) (nI ch))) dX5_kick_19 (Or.inl M_X5_133) Y_X5_isChannel [.int (nI ch)] (c_X5_isChannel (nI ch) ) (by decide) (Nat.le_of_ble_eq_true rfl) rfl rfl (Nat.le_of_ble_eq_true rfl) ?_
      refine ev_ifb_eq (tgt := 33) dX5_kick_22 (by decide) (fun h22 => ?_) (fun h22 => ?_)
      · exact absurd (hc1.symm.trans h22) (by decide)
      · refine ev_iload dX5_kick_25 4 rfl ?_
        refine ev_callSi (x := b2i (sv (nI 10) (nI g))) dX5_kick_27 (Or.inl M_X5_101) Y_X5_isNick [.int (nI g)] (c_X5_isNick (nI g) ) (by decide) (Nat.le_of_ble_eq_true rfl) rfl rfl (Nat.le_of_ble_eq_true rfl) ?_
        refine ev_ifb_ne (tgt := 35) dX5_kick_30 (by decide) (fun h30 => ?_) (fun h30 => ?_)
        · refine ev_aload_n dX5_kick_35 rfl 0 rfl ?_
          refine ev_getR dX5_kick_36 C_X5 L_X5_12 (by decide) (by decide) sh_63 rfl ?_
          refine ev_iload_n dX5_kick_39 rfl 1 rfl ?_
          refine ev_iload_n dX5_kick_40 rfl 2 rfl ?_
          refine ev_iload_n dX5_kick_41 rfl 3 rfl ?_
          refine ev_callVi (x := b2i (tb (σ 4 (s * 4 + ch)) n)) dX5_kick_42 M_X5_160 Y_X4_isOperator [.int (nI s), .int (nI n), .int (nI ch)] (c_X4_isOperator s n ch (by omega) (by omega) (by omega)) (by decide) (Nat.le_of_ble_eq_true rfl) (by decide) sh_0 rfl rfl rfl (Nat.le_of_ble_eq_true rfl) ?_
          refine ev_ifb_ne (tgt := 51) dX5_kick_45 (by decide) (fun h45 => ?_) (fun h45 => ?_)
          · refine ev_aload_n dX5_kick_51 rfl 0 rfl ?_
            refine ev_getR dX5_kick_52 C_X5 L_X5_12 (by decide) (by decide) sh_63 rfl ?_
            refine ev_aload_n dX5_kick_55 rfl 0 rfl ?_
            refine ev_getR dX5_kick_56 C_X5 L_X5_12 (by decide) (by decide) sh_63 rfl ?_
            refine ev_iload_n dX5_kick_59 rfl 1 rfl ?_
            refine ev_callVi (x := net (σ 1) s) dX5_kick_60 M_X5_79 Y_X4_networkOf [.int (nI s)] (c_X4_networkOf s (by omega)) (by decide) (Nat.le_of_ble_eq_true rfl) (by decide) sh_0 rfl rfl rfl (Nat.le_of_ble_eq_true rfl) ?_
            refine ev_iload dX5_kick_63 4 rfl ?_
            refine ev_callVi (x := oI (hm (σ 2) (net (σ 1) s) g)) dX5_kick_65 M_X5_104 Y_X4_homeIn [.int (net (σ 1) s), .int (nI g)] (c_X4_homeIn (net (σ 1) s) g (by omega)) (by decide) (Nat.le_of_ble_eq_true rfl) (by decide) sh_0 rfl rfl rfl (Nat.le_of_ble_eq_true rfl) ?_
            refine ev_top (v := nI u) (by rw [ho]; rfl) ?_
            refine ev_istore (lv' := [(5, .int (nI u)), (0, .ref 63), (1, .int (nI s)), (2, .int (nI n)), (3, .int (nI ch)), (4, .int (nI g))]) dX5_kick_68 (by decide) rfl ?_
            refine ev_iload dX5_kick_70 0 rfl ?_
            refine ev_iconst dX5_kick_72 (v := (-1)) (by decide) ?_
            refine ev_icmp_eq (tgt := 91) dX5_kick_73 (by decide) (fun h73 => ?_) (fun h73 => ?_)
            · exact absurd h73 (nI_neg (by omega) (by decide))
            · refine ev_aload_n dX5_kick_76 rfl 1 rfl ?_
              refine ev_getR dX5_kick_77 C_X5 L_X5_12 (by decide) (by decide) sh_63 rfl ?_
              refine ev_iload dX5_kick_80 0 rfl ?_
              refine ev_iload dX5_kick_82 5 rfl ?_
              refine ev_iload_n dX5_kick_84 rfl 4 rfl ?_
              refine ev_callVi (x := b2i (tb (σ 3 (u * 4 + ch)) g)) dX5_kick_85 M_X5_136 Y_X4_isMember [.int (nI u), .int (nI g), .int (nI ch)] (c_X4_isMember u g ch (by omega) (by omega) (by omega)) (by decide) (Nat.le_of_ble_eq_true rfl) (by decide) sh_0 rfl rfl rfl (Nat.le_of_ble_eq_true rfl) ?_
              refine ev_ifb_ne (tgt := 94) dX5_kick_88 (by decide) (fun h88 => ?_) (fun h88 => ?_)
              · exact absurd (hm0.symm.trans h88) (by decide)
              · refine ev_bipush dX5_kick_91 (v := (-2)) (by decide) ?_
                exact ev_ireturn dX5_kick_93 rfl rfl (leafI hQ rfl rfl)
          · exact absurd (hp.symm.trans h45) (by decide)
        · exact absurd (hg1.symm.trans h30) (by decide)

set_option maxRecDepth 100000 in
set_option maxHeartbeats 1000000 in
theorem c_X5_kick_ok {l : Launch} {σ : av_S} (s : Nat) (n : Nat) (ch : Nat) (g : Nat) (u : Nat) (j : Nat) (c : Nat) (hs : s < 6) (hn0 : n < 10) (hs1 : sv (σ 0 0) (nI s) = true) (hn1 : sv (nI 10) (nI n) = true) (hc0 : ch < 4) (hc1 : sv (nI 4) (nI ch) = true) (hg0 : g < 10) (hg1 : sv (nI 10) (nI g) = true) (hp : tb (σ 4 (s * 4 + ch)) n = true) (ho : hm (σ 2) (net (σ 1) s) g = some u) (hu6 : u < 6) (hm0 : tb (σ 3 (u * 4 + ch)) g = true) (hj : σ 64 1 = nI j) (hj8 : j < 8) (hcc : σ 64 2 = nI c) (hc8 : c ≤ 8) : av_M l RX5 cX5_kick 6 (some .int) 4 [.ref 63, .int (nI s), .int (nI n), .int (nI ch), .int (nI g)] σ (some (.int (jbc (un (rmM (σ 3) u g ch) (net (σ 1) u) ch)))) (av_set (av_set (hkeep σ j c) 3 (rmM (σ 3) u g ch)) 4 (rmM (σ 4) u g ch)) := by
  intro Q hQ
  show av_Ev l RX5 cX5_kick 6 (some .int) av_E0 4 0 [(0, .ref 63), (1, .int (nI s)), (2, .int (nI n)), (3, .int (nI ch)), (4, .int (nI g))] [] σ Q
  refine ev_aload_n dX5_kick_0 rfl 0 rfl ?_
  refine ev_getR dX5_kick_1 C_X5 L_X5_12 (by decide) (by decide) sh_63 rfl ?_
  refine ev_iload_n dX5_kick_4 rfl 1 rfl ?_
  refine ev_callVi (x := b2i (sv (σ 0 0) (nI s))) dX5_kick_5 M_X5_97 Y_X4_hasServer [.int (nI s)] (c_X4_hasServer (nI s) ) (by decide) (Nat.le_of_ble_eq_true rfl) (by decide) sh_0 rfl rfl rfl (Nat.le_of_ble_eq_true rfl) ?_
  refine ev_ifb_eq (tgt := 33) dX5_kick_8 (by decide) (fun h8 => ?_) (fun h8 => ?_)
  · exact absurd (hs1.symm.trans h8) (by decide)
  · refine ev_iload_n dX5_kick_11 rfl 2 rfl ?_
    refine ev_callSi (x := b2i (sv (nI 10) (nI n))) dX5_kick_12 (Or.inl M_X5_101) Y_X5_isNick [.int (nI n)] (c_X5_isNick (nI n) ) (by decide) (Nat.le_of_ble_eq_true rfl) rfl rfl (Nat.le_of_ble_eq_true rfl) ?_
    refine ev_ifb_eq (tgt := 33) dX5_kick_15 (by decide) (fun h15 => ?_) (fun h15 => ?_)
    · exact absurd (hn1.symm.trans h15) (by decide)
    · refine ev_iload_n dX5_kick_18 rfl 3 rfl ?_
      refine ev_callSi (x := b2i (sv (nI 4) (nI ch))) dX5_kick_19 (Or.inl M_X5_133) Y_X5_isChannel [.int (nI ch)] (c_X5_isChannel (nI ch) ) (by decide) (Nat.le_of_ble_eq_true rfl) rfl rfl (Nat.le_of_ble_eq_true rfl) ?_
      refine ev_ifb_eq (tgt := 33) dX5_kick_22 (by decide) (fun h22 => ?_) (fun h22 => ?_)
      · exact absurd (hc1.symm.trans h22) (by decide)
      · refine ev_iload dX5_kick_25 4 rfl ?_
        refine ev_callSi (x := b2i (sv (nI 10) (nI g))) dX5_kick_27 (Or.inl M_X5_101) Y_X5_isNick [.int (nI g)] (c_X5_isNick (nI g) ) (by decide) (Nat.le_of_ble_eq_true rfl) rfl rfl (Nat.le_of_ble_eq_true rfl) ?_
        refine ev_ifb_ne (tgt := 35) dX5_kick_30 (by decide) (fun h30 => ?_) (fun h30 => ?_)
        · refine ev_aload_n dX5_kick_35 rfl 0 rfl ?_
          refine ev_getR dX5_kick_36 C_X5 L_X5_12 (by decide) (by decide) sh_63 rfl ?_
          refine ev_iload_n dX5_kick_39 rfl 1 rfl ?_
          refine ev_iload_n dX5_kick_40 rfl 2 rfl ?_
          refine ev_iload_n dX5_kick_41 rfl 3 rfl ?_
          refine ev_callVi (x := b2i (tb (σ 4 (s * 4 + ch)) n)) dX5_kick_42 M_X5_160 Y_X4_isOperator [.int (nI s), .int (nI n), .int (nI ch)] (c_X4_isOperator s n ch (by omega) (by omega) (by omega)) (by decide) (Nat.le_of_ble_eq_true rfl) (by decide) sh_0 rfl rfl rfl (Nat.le_of_ble_eq_true rfl) ?_
          refine ev_ifb_ne (tgt := 51) dX5_kick_45 (by decide) (fun h45 => ?_) (fun h45 => ?_)
          · refine ev_aload_n dX5_kick_51 rfl 0 rfl ?_
            refine ev_getR dX5_kick_52 C_X5 L_X5_12 (by decide) (by decide) sh_63 rfl ?_
            refine ev_aload_n dX5_kick_55 rfl 0 rfl ?_
            refine ev_getR dX5_kick_56 C_X5 L_X5_12 (by decide) (by decide) sh_63 rfl ?_
            refine ev_iload_n dX5_kick_59 rfl 1 rfl ?_
            refine ev_callVi (x := net (σ 1) s) dX5_kick_60 M_X5_79 Y_X4_networkOf [.int (nI s)] (c_X4_networkOf s (by omega)) (by decide) (Nat.le_of_ble_eq_true rfl) (by decide) sh_0 rfl rfl rfl (Nat.le_of_ble_eq_true rfl) ?_
            refine ev_iload dX5_kick_63 4 rfl ?_
            refine ev_callVi (x := oI (hm (σ 2) (net (σ 1) s) g)) dX5_kick_65 M_X5_104 Y_X4_homeIn [.int (net (σ 1) s), .int (nI g)] (c_X4_homeIn (net (σ 1) s) g (by omega)) (by decide) (Nat.le_of_ble_eq_true rfl) (by decide) sh_0 rfl rfl rfl (Nat.le_of_ble_eq_true rfl) ?_
            refine ev_top (v := nI u) (by rw [ho]; rfl) ?_
            refine ev_istore (lv' := [(5, .int (nI u)), (0, .ref 63), (1, .int (nI s)), (2, .int (nI n)), (3, .int (nI ch)), (4, .int (nI g))]) dX5_kick_68 (by decide) rfl ?_
            refine ev_iload dX5_kick_70 0 rfl ?_
            refine ev_iconst dX5_kick_72 (v := (-1)) (by decide) ?_
            refine ev_icmp_eq (tgt := 91) dX5_kick_73 (by decide) (fun h73 => ?_) (fun h73 => ?_)
            · exact absurd h73 (nI_neg (by omega) (by decide))
            · refine ev_aload_n dX5_kick_76 rfl 1 rfl ?_
              refine ev_getR dX5_kick_77 C_X5 L_X5_12 (by decide) (by decide) sh_63 rfl ?_
              refine ev_iload dX5_kick_80 0 rfl ?_
              refine ev_iload dX5_kick_82 5 rfl ?_
              refine ev_iload_n dX5_kick_84 rfl 4 rfl ?_
              refine ev_callVi (x := b2i (tb (σ 3 (u * 4 + ch)) g)) dX5_kick_85 M_X5_136 Y_X4_isMember [.int (nI u), .int (nI g), .int (nI ch)] (c_X4_isMember u g ch (by omega) (by omega) (by omega)) (by decide) (Nat.le_of_ble_eq_true rfl) (by decide) sh_0 rfl rfl rfl (Nat.le_of_ble_eq_true rfl) ?_
              refine ev_ifb_ne (tgt := 94) dX5_kick_88 (by decide) (fun h88 => ?_) (fun h88 => ?_)
              · refine ev_aload_n dX5_kick_94 rfl 1 rfl ?_
                refine ev_iload dX5_kick_95 0 rfl ?_
                refine ev_iload dX5_kick_97 5 rfl ?_
                refine ev_iload_n dX5_kick_99 rfl 4 rfl ?_
                refine ev_callVi (x := jbc (un (rmM (σ 3) u g ch) (net (σ 1) u) ch)) (σ' := av_set (av_set (hkeep σ j c) 3 (rmM (σ 3) u g ch)) 4 (rmM (σ 4) u g ch)) dX5_kick_100 M_X5_156 Y_X5_leaveChannel [.int (nI u), .int (nI g), .int (nI ch)] (c_X5_leaveChannel u g ch j c (by omega) (by omega) (by omega) (by first | exact hj | omega) (by first | exact hj8 | omega) (by first | exact hcc | omega) (by first | exact hc8 | omega)) (by decide) (Nat.le_of_ble_eq_true rfl) (by decide) sh_63 rfl rfl rfl (Nat.le_of_ble_eq_true rfl) ?_
                exact ev_ireturn dX5_kick_103 rfl rfl (leafI hQ rfl rfl)
              · exact absurd (hm0.symm.trans h88) (by decide)
          · exact absurd (hp.symm.trans h45) (by decide)
        · exact absurd (hg1.symm.trans h30) (by decide)

set_option maxRecDepth 100000 in
set_option maxHeartbeats 1000000 in
theorem c_X5_append_bad {l : Launch} {σ : av_S} (x : Int32) (hx : ¬ (¬ x < 0 ∧ x ≤ nI 255)) : av_M l RX5 cX5_appendCharacter 2 (some .int) 0 [.ref 63, .int x] σ (some (.int (-1))) σ := by
  intro Q hQ
  show av_Ev l RX5 cX5_appendCharacter 2 (some .int) av_E0 0 0 [(0, .ref 63), (1, .int x)] [] σ Q
  refine ev_iload_n dX5_appendCharacter_0 rfl 1 rfl ?_
  refine ev_if_lt (tgt := 11) dX5_appendCharacter_1 (by decide) (fun h1 => ?_) (fun h1 => ?_)
  · refine ev_iconst dX5_appendCharacter_11 (v := (-1)) (by decide) ?_
    exact ev_ireturn dX5_appendCharacter_12 rfl rfl (leafI hQ rfl rfl)
  · refine ev_iload_n dX5_appendCharacter_4 rfl 1 rfl ?_
    refine ev_sipush dX5_appendCharacter_5 (v := nI 255) (by decide) ?_
    refine ev_icmp_le (tgt := 13) dX5_appendCharacter_8 (by decide) (fun h8 => ?_) (fun h8 => ?_)
    · exact absurd ⟨h1, h8⟩ hx
    · refine ev_iconst dX5_appendCharacter_11 (v := (-1)) (by decide) ?_
      exact ev_ireturn dX5_appendCharacter_12 rfl rfl (leafI hQ rfl rfl)

set_option maxRecDepth 100000 in
set_option maxHeartbeats 1000000 in
theorem c_X5_append_lim {l : Launch} {σ : av_S} (x : Nat) (n : Nat) (h6 : x ≤ 255) (hn : σ 66 1 = nI n) (hn4 : n ≤ 40) (hf : decide (40 ≤ n) = true) : av_M l RX5 cX5_appendCharacter 2 (some .int) 1 [.ref 63, .int (nI x)] σ (some (.int (-3))) σ := by
  intro Q hQ
  show av_Ev l RX5 cX5_appendCharacter 2 (some .int) av_E0 1 0 [(0, .ref 63), (1, .int (nI x))] [] σ Q
  refine ev_iload_n dX5_appendCharacter_0 rfl 1 rfl ?_
  refine ev_nif_lt (tgt := 11) dX5_appendCharacter_1 (by decide) (by omega) ?_
  refine ev_iload_n dX5_appendCharacter_4 rfl 1 rfl ?_
  refine ev_sipush dX5_appendCharacter_5 (v := nI 255) (by decide) ?_
  refine ev_ncmp_le (tgt := 13) dX5_appendCharacter_8 (by decide) (by omega) (by omega) (fun h8 => ?_) (fun h8 => ?_)
  · refine ev_aload_n dX5_appendCharacter_13 rfl 0 rfl ?_
    refine ev_getR dX5_appendCharacter_14 C_X5 L_X5_26 (by decide) (by decide) sh_63 rfl ?_
    refine ev_callVi (x := b2i (decide (40 ≤ n))) dX5_appendCharacter_17 M_X5_166 Y_X2_isFull [] (c_X2_isFull n (by first | exact hn | omega) (by first | exact hn4 | omega)) (by decide) (Nat.le_of_ble_eq_true rfl) (by decide) sh_66 rfl rfl rfl (Nat.le_of_ble_eq_true rfl) ?_
    refine ev_ifb_eq (tgt := 26) dX5_appendCharacter_20 (by decide) (fun h20 => ?_) (fun h20 => ?_)
    · exact absurd (hf.symm.trans h20) (by decide)
    · refine ev_bipush dX5_appendCharacter_23 (v := (-3)) (by decide) ?_
      exact ev_ireturn dX5_appendCharacter_25 rfl rfl (leafI hQ rfl rfl)
  · exact absurd h8 (by omega)

set_option maxRecDepth 100000 in
set_option maxHeartbeats 1000000 in
theorem c_X5_append_ok {l : Launch} {σ : av_S} (x : Nat) (n : Nat) (h6 : x ≤ 255) (hn : σ 66 1 = nI n) (hn4 : n ≤ 40) (hf : decide (40 ≤ n) = false) (hn40 : n < 40) : av_M l RX5 cX5_appendCharacter 2 (some .int) 2 [.ref 63, .int (nI x)] σ (some (.int (nI (n + 1)))) (av_set (av_set σ 66 (upd (σ 66) 1 (nI (n + 1)))) 67 (upd (σ 67) n (nI x))) := by
  intro Q hQ
  show av_Ev l RX5 cX5_appendCharacter 2 (some .int) av_E0 2 0 [(0, .ref 63), (1, .int (nI x))] [] σ Q
  refine ev_iload_n dX5_appendCharacter_0 rfl 1 rfl ?_
  refine ev_nif_lt (tgt := 11) dX5_appendCharacter_1 (by decide) (by omega) ?_
  refine ev_iload_n dX5_appendCharacter_4 rfl 1 rfl ?_
  refine ev_sipush dX5_appendCharacter_5 (v := nI 255) (by decide) ?_
  refine ev_ncmp_le (tgt := 13) dX5_appendCharacter_8 (by decide) (by omega) (by omega) (fun h8 => ?_) (fun h8 => ?_)
  · refine ev_aload_n dX5_appendCharacter_13 rfl 0 rfl ?_
    refine ev_getR dX5_appendCharacter_14 C_X5 L_X5_26 (by decide) (by decide) sh_63 rfl ?_
    refine ev_callVi (x := b2i (decide (40 ≤ n))) dX5_appendCharacter_17 M_X5_166 Y_X2_isFull [] (c_X2_isFull n (by first | exact hn | omega) (by first | exact hn4 | omega)) (by decide) (Nat.le_of_ble_eq_true rfl) (by decide) sh_66 rfl rfl rfl (Nat.le_of_ble_eq_true rfl) ?_
    refine ev_ifb_eq (tgt := 26) dX5_appendCharacter_20 (by decide) (fun h20 => ?_) (fun h20 => ?_)
    · refine ev_aload_n dX5_appendCharacter_26 rfl 0 rfl ?_
      refine ev_getR dX5_appendCharacter_27 C_X5 L_X5_26 (by decide) (by decide) sh_63 rfl ?_
      refine ev_iload_n dX5_appendCharacter_30 rfl 1 rfl ?_
      refine ev_i2c dX5_appendCharacter_31 ?_
      refine ev_top (v := nI x) (by rw [pk_char, pk_tn (by omega), Nat.mod_eq_of_lt (by omega)]) ?_
      refine ev_callVv (σ' := av_set (av_set σ 66 (upd (σ 66) 1 (nI (n + 1)))) 67 (upd (σ 67) n (nI x))) dX5_appendCharacter_32 M_X5_170 Y_X2_add [.int (nI x)] (c_X2_add (nI x) n (nar_c (by omega)) (by first | exact hn | omega) (by omega)) (by decide) (Nat.le_of_ble_eq_true rfl) (by decide) sh_66 rfl rfl rfl (Nat.le_of_ble_eq_true rfl) ?_
      refine ev_aload_n dX5_appendCharacter_35 rfl 0 rfl ?_
      refine ev_getR dX5_appendCharacter_36 C_X5 L_X5_26 (by decide) (by decide) sh_63 rfl ?_
      refine ev_getI dX5_appendCharacter_39 C_X2 L_X5_174 (by decide) (by decide) sh_66 rfl ?_
      refine ev_top (v := nI (n + 1)) (by first | rfl | (simp only [av_set, cpS]; (repeat' split) <;> first | rfl | (exfalso; omega))) ?_
      exact ev_ireturn dX5_appendCharacter_42 rfl rfl (leafI hQ rfl rfl)
    · exact absurd (hf.symm.trans h20) (by decide)
  · exact absurd h8 (by omega)

set_option maxRecDepth 100000 in
set_option maxHeartbeats 1000000 in
theorem c_X5_clearText {l : Launch} {σ : av_S} (n : Nat) (hn : σ 66 1 = nI n) (hn4 : n ≤ 40) : av_M l RX5 cX5_clearText 2 (some .int) 1 [.ref 63] σ (some (.int (nI n))) (av_set σ 66 (upd (σ 66) 1 (nI 0))) := by
  intro Q hQ
  show av_Ev l RX5 cX5_clearText 2 (some .int) av_E0 1 0 [(0, .ref 63)] [] σ Q
  refine ev_aload_n dX5_clearText_0 rfl 0 rfl ?_
  refine ev_getR dX5_clearText_1 C_X5 L_X5_26 (by decide) (by decide) sh_63 rfl ?_
  refine ev_getI dX5_clearText_4 C_X2 L_X5_174 (by decide) (by decide) sh_66 rfl ?_
  refine ev_top (v := nI n) hn ?_
  refine ev_istore_n (lv' := [(1, .int (nI n)), (0, .ref 63)]) dX5_clearText_7 rfl (by decide) rfl ?_
  refine ev_aload_n dX5_clearText_8 rfl 1 rfl ?_
  refine ev_getR dX5_clearText_9 C_X5 L_X5_26 (by decide) (by decide) sh_63 rfl ?_
  refine ev_callVv (σ' := av_set σ 66 (upd (σ 66) 1 (nI 0))) dX5_clearText_12 M_X5_177 Y_X2_empty [] (c_X2_empty  ) (by decide) (Nat.le_of_ble_eq_true rfl) (by decide) sh_66 rfl rfl rfl (Nat.le_of_ble_eq_true rfl) ?_
  refine ev_iload_n dX5_clearText_15 rfl 0 rfl ?_
  exact ev_ireturn dX5_clearText_16 rfl rfl (leafI hQ rfl rfl)

set_option maxRecDepth 100000 in
set_option maxHeartbeats 1000000 in
theorem c_X5_applyModes_bad {l : Launch} {σ : av_S} (x : Int32) (y : Int32) (z : Int32) (hx : (sv (σ 0 0) x && sv (nI 10) y && sv (nI 4) z) = false) : av_M l RX5 cX5_applyModes 7 (some .int) 1 [.ref 63, .int x, .int y, .int z] σ (some (.int (-1))) σ := by
  intro Q hQ
  show av_Ev l RX5 cX5_applyModes 7 (some .int) av_E0 1 0 [(0, .ref 63), (1, .int x), (2, .int y), (3, .int z)] [] σ Q
  refine ev_aload_n dX5_applyModes_0 rfl 0 rfl ?_
  refine ev_getR dX5_applyModes_1 C_X5 L_X5_12 (by decide) (by decide) sh_63 rfl ?_
  refine ev_iload_n dX5_applyModes_4 rfl 1 rfl ?_
  refine ev_callVi (x := b2i (sv (σ 0 0) x)) dX5_applyModes_5 M_X5_97 Y_X4_hasServer [.int x] (c_X4_hasServer x ) (by decide) (Nat.le_of_ble_eq_true rfl) (by decide) sh_0 rfl rfl rfl (Nat.le_of_ble_eq_true rfl) ?_
  refine ev_ifb_eq (tgt := 25) dX5_applyModes_8 (by decide) (fun h8 => ?_) (fun h8 => ?_)
  · refine ev_iconst dX5_applyModes_25 (v := (-1)) (by decide) ?_
    exact ev_ireturn dX5_applyModes_26 rfl rfl (leafI hQ rfl rfl)
  · refine ev_iload_n dX5_applyModes_11 rfl 2 rfl ?_
    refine ev_callSi (x := b2i (sv (nI 10) y)) dX5_applyModes_12 (Or.inl M_X5_101) Y_X5_isNick [.int y] (c_X5_isNick y ) (by decide) (Nat.le_of_ble_eq_true rfl) rfl rfl (Nat.le_of_ble_eq_true rfl) ?_
    refine ev_ifb_eq (tgt := 25) dX5_applyModes_15 (by decide) (fun h15 => ?_) (fun h15 => ?_)
    · refine ev_iconst dX5_applyModes_25 (v := (-1)) (by decide) ?_
      exact ev_ireturn dX5_applyModes_26 rfl rfl (leafI hQ rfl rfl)
    · refine ev_iload_n dX5_applyModes_18 rfl 3 rfl ?_
      refine ev_callSi (x := b2i (sv (nI 4) z)) dX5_applyModes_19 (Or.inl M_X5_133) Y_X5_isChannel [.int z] (c_X5_isChannel z ) (by decide) (Nat.le_of_ble_eq_true rfl) rfl rfl (Nat.le_of_ble_eq_true rfl) ?_
      refine ev_ifb_ne (tgt := 27) dX5_applyModes_22 (by decide) (fun h22 => ?_) (fun h22 => ?_)
      · exact absurd hx (by simp [h8, h15, h22])
      · refine ev_iconst dX5_applyModes_25 (v := (-1)) (by decide) ?_
        exact ev_ireturn dX5_applyModes_26 rfl rfl (leafI hQ rfl rfl)

set_option maxRecDepth 100000 in
set_option maxHeartbeats 1000000 in
theorem c_X5_applyModes_st {l : Launch} {σ : av_S} (s : Nat) (q : Nat) (ch : Nat) (hs : s < 6) (hq0 : q < 10) (hs1 : sv (σ 0 0) (nI s) = true) (hq1 : sv (nI 10) (nI q) = true) (hc0 : ch < 4) (hc1 : sv (nI 4) (nI ch) = true) (hp : tb (σ 4 (s * 4 + ch)) q = false) : av_M l RX5 cX5_applyModes 7 (some .int) 2 [.ref 63, .int (nI s), .int (nI q), .int (nI ch)] σ (some (.int (-2))) σ := by
  intro Q hQ
  show av_Ev l RX5 cX5_applyModes 7 (some .int) av_E0 2 0 [(0, .ref 63), (1, .int (nI s)), (2, .int (nI q)), (3, .int (nI ch))] [] σ Q
  refine ev_aload_n dX5_applyModes_0 rfl 0 rfl ?_
  refine ev_getR dX5_applyModes_1 C_X5 L_X5_12 (by decide) (by decide) sh_63 rfl ?_
  refine ev_iload_n dX5_applyModes_4 rfl 1 rfl ?_
  refine ev_callVi (x := b2i (sv (σ 0 0) (nI s))) dX5_applyModes_5 M_X5_97 Y_X4_hasServer [.int (nI s)] (c_X4_hasServer (nI s) ) (by decide) (Nat.le_of_ble_eq_true rfl) (by decide) sh_0 rfl rfl rfl (Nat.le_of_ble_eq_true rfl) ?_
  refine ev_ifb_eq (tgt := 25) dX5_applyModes_8 (by decide) (fun h8 => ?_) (fun h8 => ?_)
  · exact absurd (hs1.symm.trans h8) (by decide)
  · refine ev_iload_n dX5_applyModes_11 rfl 2 rfl ?_
    refine ev_callSi (x := b2i (sv (nI 10) (nI q))) dX5_applyModes_12 (Or.inl M_X5_101) Y_X5_isNick [.int (nI q)] (c_X5_isNick (nI q) ) (by decide) (Nat.le_of_ble_eq_true rfl) rfl rfl (Nat.le_of_ble_eq_true rfl) ?_
    refine ev_ifb_eq (tgt := 25) dX5_applyModes_15 (by decide) (fun h15 => ?_) (fun h15 => ?_)
    · exact absurd (hq1.symm.trans h15) (by decide)
    · refine ev_iload_n dX5_applyModes_18 rfl 3 rfl ?_
      refine ev_callSi (x := b2i (sv (nI 4) (nI ch))) dX5_applyModes_19 (Or.inl M_X5_133) Y_X5_isChannel [.int (nI ch)] (c_X5_isChannel (nI ch) ) (by decide) (Nat.le_of_ble_eq_true rfl) rfl rfl (Nat.le_of_ble_eq_true rfl) ?_
      refine ev_ifb_ne (tgt := 27) dX5_applyModes_22 (by decide) (fun h22 => ?_) (fun h22 => ?_)
      · refine ev_aload_n dX5_applyModes_27 rfl 0 rfl ?_
        refine ev_getR dX5_applyModes_28 C_X5 L_X5_12 (by decide) (by decide) sh_63 rfl ?_
        refine ev_iload_n dX5_applyModes_31 rfl 1 rfl ?_
        refine ev_iload_n dX5_applyModes_32 rfl 2 rfl ?_
        refine ev_iload_n dX5_applyModes_33 rfl 3 rfl ?_
        refine ev_callVi (x := b2i (tb (σ 4 (s * 4 + ch)) q)) dX5_applyModes_34 M_X5_160 Y_X4_isOperator [.int (nI s), .int (nI q), .int (nI ch)] (c_X4_isOperator s q ch (by omega) (by omega) (by omega)) (by decide) (Nat.le_of_ble_eq_true rfl) (by decide) sh_0 rfl rfl rfl (Nat.le_of_ble_eq_true rfl) ?_
        refine ev_ifb_ne (tgt := 43) dX5_applyModes_37 (by decide) (fun h37 => ?_) (fun h37 => ?_)
        · exact absurd (hp.symm.trans h37) (by decide)
        · refine ev_bipush dX5_applyModes_40 (v := (-2)) (by decide) ?_
          exact ev_ireturn dX5_applyModes_42 rfl rfl (leafI hQ rfl rfl)
      · exact absurd (hc1.symm.trans h22) (by decide)

set_option maxRecDepth 100000 in
set_option maxHeartbeats 1000000 in
theorem c_X5_applyModes_err {l : Launch} {σ : av_S} (s : Nat) (q : Nat) (ch : Nat) (u : Nat) (t : Nat → Nat) (n : Nat) (hs : s < 6) (hq0 : q < 10) (hs1 : sv (σ 0 0) (nI s) = true) (hq1 : sv (nI 10) (nI q) = true) (hc0 : ch < 4) (hc1 : sv (nI 4) (nI ch) = true) (hp : tb (σ 4 (s * 4 + ch)) q = true) (hn : σ 66 1 = nI n) (hn4 : n ≤ 40) (ht : ∀ i, i < n → σ 67 i = nI (t i) ∧ t i < 256) (ho : eo t n (un (σ 3) (net (σ 1) s) ch) = some u) (hu : u ≤ 40) : av_M l RX5 cX5_applyModes 7 (some .int) 6 [.ref 63, .int (nI s), .int (nI q), .int (nI ch)] σ (some (.int ((-10) - nI u))) σ := by
  intro Q hQ
  show av_Ev l RX5 cX5_applyModes 7 (some .int) av_E0 6 0 [(0, .ref 63), (1, .int (nI s)), (2, .int (nI q)), (3, .int (nI ch))] [] σ Q
  refine ev_aload_n dX5_applyModes_0 rfl 0 rfl ?_
  refine ev_getR dX5_applyModes_1 C_X5 L_X5_12 (by decide) (by decide) sh_63 rfl ?_
  refine ev_iload_n dX5_applyModes_4 rfl 1 rfl ?_
  refine ev_callVi (x := b2i (sv (σ 0 0) (nI s))) dX5_applyModes_5 M_X5_97 Y_X4_hasServer [.int (nI s)] (c_X4_hasServer (nI s) ) (by decide) (Nat.le_of_ble_eq_true rfl) (by decide) sh_0 rfl rfl rfl (Nat.le_of_ble_eq_true rfl) ?_
  refine ev_ifb_eq (tgt := 25) dX5_applyModes_8 (by decide) (fun h8 => ?_) (fun h8 => ?_)
  · exact absurd (hs1.symm.trans h8) (by decide)
  · refine ev_iload_n dX5_applyModes_11 rfl 2 rfl ?_
    refine ev_callSi (x := b2i (sv (nI 10) (nI q))) dX5_applyModes_12 (Or.inl M_X5_101) Y_X5_isNick [.int (nI q)] (c_X5_isNick (nI q) ) (by decide) (Nat.le_of_ble_eq_true rfl) rfl rfl (Nat.le_of_ble_eq_true rfl) ?_
    refine ev_ifb_eq (tgt := 25) dX5_applyModes_15 (by decide) (fun h15 => ?_) (fun h15 => ?_)
    · exact absurd (hq1.symm.trans h15) (by decide)
    · refine ev_iload_n dX5_applyModes_18 rfl 3 rfl ?_
      refine ev_callSi (x := b2i (sv (nI 4) (nI ch))) dX5_applyModes_19 (Or.inl M_X5_133) Y_X5_isChannel [.int (nI ch)] (c_X5_isChannel (nI ch) ) (by decide) (Nat.le_of_ble_eq_true rfl) rfl rfl (Nat.le_of_ble_eq_true rfl) ?_
      refine ev_ifb_ne (tgt := 27) dX5_applyModes_22 (by decide) (fun h22 => ?_) (fun h22 => ?_)
      · refine ev_aload_n dX5_applyModes_27 rfl 0 rfl ?_
        refine ev_getR dX5_applyModes_28 C_X5 L_X5_12 (by decide) (by decide) sh_63 rfl ?_
        refine ev_iload_n dX5_applyModes_31 rfl 1 rfl ?_
        refine ev_iload_n dX5_applyModes_32 rfl 2 rfl ?_
        refine ev_iload_n dX5_applyModes_33 rfl 3 rfl ?_
        refine ev_callVi (x := b2i (tb (σ 4 (s * 4 + ch)) q)) dX5_applyModes_34 M_X5_160 Y_X4_isOperator [.int (nI s), .int (nI q), .int (nI ch)] (c_X4_isOperator s q ch (by omega) (by first | exact hn | omega) (by omega)) (by decide) (Nat.le_of_ble_eq_true rfl) (by decide) sh_0 rfl rfl rfl (Nat.le_of_ble_eq_true rfl) ?_
        refine ev_ifb_ne (tgt := 43) dX5_applyModes_37 (by decide) (fun h37 => ?_) (fun h37 => ?_)
        · refine ev_aload_n dX5_applyModes_43 rfl 0 rfl ?_
          refine ev_getR dX5_applyModes_44 C_X5 L_X5_12 (by decide) (by decide) sh_63 rfl ?_
          refine ev_iload_n dX5_applyModes_47 rfl 1 rfl ?_
          refine ev_callVi (x := net (σ 1) s) dX5_applyModes_48 M_X5_79 Y_X4_networkOf [.int (nI s)] (c_X4_networkOf s (by omega)) (by decide) (Nat.le_of_ble_eq_true rfl) (by decide) sh_0 rfl rfl rfl (Nat.le_of_ble_eq_true rfl) ?_
          refine ev_istore (lv' := [(4, .int (net (σ 1) s)), (0, .ref 63), (1, .int (nI s)), (2, .int (nI q)), (3, .int (nI ch))]) dX5_applyModes_51 (by decide) rfl ?_
          refine ev_aload_n dX5_applyModes_53 rfl 1 rfl ?_
          refine ev_getR dX5_applyModes_54 C_X5 L_X5_26 (by decide) (by decide) sh_63 rfl ?_
          refine ev_aload_n dX5_applyModes_57 rfl 1 rfl ?_
          refine ev_getR dX5_applyModes_58 C_X5 L_X5_12 (by decide) (by decide) sh_63 rfl ?_
          refine ev_iload dX5_applyModes_61 0 rfl ?_
          refine ev_iload_n dX5_applyModes_63 rfl 4 rfl ?_
          refine ev_callVi (x := un (σ 3) (net (σ 1) s) ch) dX5_applyModes_64 M_X5_153 Y_X4_membersIn [.int (net (σ 1) s), .int (nI ch)] (c_X4_membersIn (net (σ 1) s) ch (by omega)) (by decide) (Nat.le_of_ble_eq_true rfl) (by decide) sh_0 rfl rfl rfl (Nat.le_of_ble_eq_true rfl) ?_
          refine ev_callVi (x := oI (eo t n (un (σ 3) (net (σ 1) s) ch))) dX5_applyModes_67 M_X5_180 Y_X2_errorOffset [.int (un (σ 3) (net (σ 1) s) ch)] (c_X2_errorOffset (un (σ 3) (net (σ 1) s) ch) t n (by first | exact hn | omega) (by first | exact hn4 | omega) (by first | exact ht | omega)) (by decide) (Nat.le_of_ble_eq_true rfl) (by decide) sh_66 rfl rfl rfl (Nat.le_of_ble_eq_true rfl) ?_
          refine ev_top (v := nI u) (by rw [ho]; rfl) ?_
          refine ev_istore (lv' := [(5, .int (nI u)), (4, .int (net (σ 1) s)), (0, .ref 63), (1, .int (nI s)), (2, .int (nI q)), (3, .int (nI ch))]) dX5_applyModes_70 (by decide) rfl ?_
          refine ev_iload dX5_applyModes_72 0 rfl ?_
          refine ev_iconst dX5_applyModes_74 (v := (-1)) (by decide) ?_
          refine ev_icmp_eq (tgt := 84) dX5_applyModes_75 (by decide) (fun h75 => ?_) (fun h75 => ?_)
          · exact absurd h75 (nI_neg (by omega) (by decide))
          · refine ev_bipush dX5_applyModes_78 (v := (-10)) (by decide) ?_
            refine ev_iload dX5_applyModes_80 0 rfl ?_
            refine ev_isub dX5_applyModes_82 ?_
            exact ev_ireturn dX5_applyModes_83 rfl rfl (leafI hQ (by first | rfl | (simp [h8, h15, h22, h37, h75]; done)) rfl)
        · exact absurd (hp.symm.trans h37) (by decide)
      · exact absurd (hc1.symm.trans h22) (by decide)

set_option maxRecDepth 100000 in
set_option maxHeartbeats 1000000 in
theorem c_X5_applyModes_ok {l : Launch} {σ : av_S} (s : Nat) (q : Nat) (ch : Nat) (t : Nat → Nat) (n : Nat) (j : Nat) (c : Nat) (hs : s < 6) (hq0 : q < 10) (hs1 : sv (σ 0 0) (nI s) = true) (hq1 : sv (nI 10) (nI q) = true) (hc0 : ch < 4) (hc1 : sv (nI 4) (nI ch) = true) (hp : tb (σ 4 (s * 4 + ch)) q = true) (hn : σ 66 1 = nI n) (hn4 : n ≤ 40) (ht : ∀ i, i < n → σ 67 i = nI (t i) ∧ t i < 256) (ho : eo t n (un (σ 3) (net (σ 1) s) ch) = none) (hj : σ 64 1 = nI j) (hj8 : j < 8) (hcc : σ 64 2 = nI c) (hc8 : c ≤ 8) : av_M l RX5 cX5_applyModes 7 (some .int) 6 [.ref 63, .int (nI s), .int (nI q), .int (nI ch)] σ (some (.int (nI (ci t n)))) (av_set (av_set (av_set (av_set (hkeep σ j c) 4 (so (σ 3) (σ 4) (net (σ 1) s) ch ((oa t n (un (σ 4) (net (σ 1) s) ch, false)).1))) 5 (ds (σ 5) (net (σ 1) s) ch (σ 5 (s * 4 + ch)))) 6 (ds (σ 6) (net (σ 1) s) ch ((ma t n (σ 6 (s * 4 + ch), false)).1))) 66 (upd (σ 66) 1 (nI 0))) := by
  intro Q hQ
  show av_Ev l RX5 cX5_applyModes 7 (some .int) av_E0 6 0 [(0, .ref 63), (1, .int (nI s)), (2, .int (nI q)), (3, .int (nI ch))] [] σ Q
  refine ev_aload_n dX5_applyModes_0 rfl 0 rfl ?_
  refine ev_getR dX5_applyModes_1 C_X5 L_X5_12 (by decide) (by decide) sh_63 rfl ?_
  refine ev_iload_n dX5_applyModes_4 rfl 1 rfl ?_
  refine ev_callVi (x := b2i (sv (σ 0 0) (nI s))) dX5_applyModes_5 M_X5_97 Y_X4_hasServer [.int (nI s)] (c_X4_hasServer (nI s) ) (by decide) (Nat.le_of_ble_eq_true rfl) (by decide) sh_0 rfl rfl rfl (Nat.le_of_ble_eq_true rfl) ?_
  refine ev_ifb_eq (tgt := 25) dX5_applyModes_8 (by decide) (fun h8 => ?_) (fun h8 => ?_)
  · exact absurd (hs1.symm.trans h8) (by decide)
  · refine ev_iload_n dX5_applyModes_11 rfl 2 rfl ?_
    refine ev_callSi (x := b2i (sv (nI 10) (nI q))) dX5_applyModes_12 (Or.inl M_X5_101) Y_X5_isNick [.int (nI q)] (c_X5_isNick (nI q) ) (by decide) (Nat.le_of_ble_eq_true rfl) rfl rfl (Nat.le_of_ble_eq_true rfl) ?_
    refine ev_ifb_eq (tgt := 25) dX5_applyModes_15 (by decide) (fun h15 => ?_) (fun h15 => ?_)
    · exact absurd (hq1.symm.trans h15) (by decide)
    · refine ev_iload_n dX5_applyModes_18 rfl 3 rfl ?_
      refine ev_callSi (x := b2i (sv (nI 4) (nI ch))) dX5_applyModes_19 (Or.inl M_X5_133) Y_X5_isChannel [.int (nI ch)] (c_X5_isChannel (nI ch) ) (by decide) (Nat.le_of_ble_eq_true rfl) rfl rfl (Nat.le_of_ble_eq_true rfl) ?_
      refine ev_ifb_ne (tgt := 27) dX5_applyModes_22 (by decide) (fun h22 => ?_) (fun h22 => ?_)
      · refine ev_aload_n dX5_applyModes_27 rfl 0 rfl ?_
        refine ev_getR dX5_applyModes_28 C_X5 L_X5_12 (by decide) (by decide) sh_63 rfl ?_
        refine ev_iload_n dX5_applyModes_31 rfl 1 rfl ?_
        refine ev_iload_n dX5_applyModes_32 rfl 2 rfl ?_
        refine ev_iload_n dX5_applyModes_33 rfl 3 rfl ?_
        refine ev_callVi (x := b2i (tb (σ 4 (s * 4 + ch)) q)) dX5_applyModes_34 M_X5_160 Y_X4_isOperator [.int (nI s), .int (nI q), .int (nI ch)] (c_X4_isOperator s q ch (by omega) (by first | exact hn | omega) (by omega)) (by decide) (Nat.le_of_ble_eq_true rfl) (by decide) sh_0 rfl rfl rfl (Nat.le_of_ble_eq_true rfl) ?_
        refine ev_ifb_ne (tgt := 43) dX5_applyModes_37 (by decide) (fun h37 => ?_) (fun h37 => ?_)
        · refine ev_aload_n dX5_applyModes_43 rfl 0 rfl ?_
          refine ev_getR dX5_applyModes_44 C_X5 L_X5_12 (by decide) (by decide) sh_63 rfl ?_
          refine ev_iload_n dX5_applyModes_47 rfl 1 rfl ?_
          refine ev_callVi (x := net (σ 1) s) dX5_applyModes_48 M_X5_79 Y_X4_networkOf [.int (nI s)] (c_X4_networkOf s (by omega)) (by decide) (Nat.le_of_ble_eq_true rfl) (by decide) sh_0 rfl rfl rfl (Nat.le_of_ble_eq_true rfl) ?_
          refine ev_istore (lv' := [(4, .int (net (σ 1) s)), (0, .ref 63), (1, .int (nI s)), (2, .int (nI q)), (3, .int (nI ch))]) dX5_applyModes_51 (by decide) rfl ?_
          refine ev_aload_n dX5_applyModes_53 rfl 1 rfl ?_
          refine ev_getR dX5_applyModes_54 C_X5 L_X5_26 (by decide) (by decide) sh_63 rfl ?_
          refine ev_aload_n dX5_applyModes_57 rfl 1 rfl ?_
          refine ev_getR dX5_applyModes_58 C_X5 L_X5_12 (by decide) (by decide) sh_63 rfl ?_
          refine ev_iload dX5_applyModes_61 0 rfl ?_
          refine ev_iload_n dX5_applyModes_63 rfl 4 rfl ?_
          refine ev_callVi (x := un (σ 3) (net (σ 1) s) ch) dX5_applyModes_64 M_X5_153 Y_X4_membersIn [.int (net (σ 1) s), .int (nI ch)] (c_X4_membersIn (net (σ 1) s) ch (by omega)) (by decide) (Nat.le_of_ble_eq_true rfl) (by decide) sh_0 rfl rfl rfl (Nat.le_of_ble_eq_true rfl) ?_
          refine ev_callVi (x := oI (eo t n (un (σ 3) (net (σ 1) s) ch))) dX5_applyModes_67 M_X5_180 Y_X2_errorOffset [.int (un (σ 3) (net (σ 1) s) ch)] (c_X2_errorOffset (un (σ 3) (net (σ 1) s) ch) t n (by first | exact hn | omega) (by first | exact hn4 | omega) (by first | exact ht | omega)) (by decide) (Nat.le_of_ble_eq_true rfl) (by decide) sh_66 rfl rfl rfl (Nat.le_of_ble_eq_true rfl) ?_
          refine ev_top (v := (-1)) (by rw [ho]; rfl) ?_
          refine ev_istore (lv' := [(5, .int (-1)), (4, .int (net (σ 1) s)), (0, .ref 63), (1, .int (nI s)), (2, .int (nI q)), (3, .int (nI ch))]) dX5_applyModes_70 (by decide) rfl ?_
          refine ev_iload dX5_applyModes_72 0 rfl ?_
          refine ev_iconst dX5_applyModes_74 (v := (-1)) (by decide) ?_
          refine ev_icmp_eq (tgt := 84) dX5_applyModes_75 (by decide) (fun h75 => ?_) (fun h75 => ?_)
          · refine ev_aload_n dX5_applyModes_84 rfl 2 rfl ?_
            refine ev_getR dX5_applyModes_85 C_X5 L_X5_19 (by decide) (by decide) sh_63 rfl ?_
            refine ev_aload_n dX5_applyModes_88 rfl 2 rfl ?_
            refine ev_getR dX5_applyModes_89 C_X5 L_X5_12 (by decide) (by decide) sh_63 rfl ?_
            refine ev_callVv (σ' := hkeep σ j c) dX5_applyModes_92 M_X5_41 Y_X0_keep [.ref 0] (c_X0_keep j c (by first | exact hj | omega) (by first | exact hj8 | omega) (by first | exact hcc | omega) (by first | exact hc8 | omega)) (by decide) (Nat.le_of_ble_eq_true rfl) (by decide) sh_64 rfl rfl rfl (Nat.le_of_ble_eq_true rfl) ?_
            refine ev_aload_n dX5_applyModes_95 rfl 2 rfl ?_
            refine ev_getR dX5_applyModes_96 C_X5 L_X5_12 (by decide) (by decide) sh_63 rfl ?_
            refine ev_iload dX5_applyModes_99 1 rfl ?_
            refine ev_iload_n dX5_applyModes_101 rfl 5 rfl ?_
            refine ev_aload_n dX5_applyModes_102 rfl 2 rfl ?_
            refine ev_getR dX5_applyModes_103 C_X5 L_X5_12 (by decide) (by decide) sh_63 rfl ?_
            refine ev_iload_n dX5_applyModes_106 rfl 3 rfl ?_
            refine ev_iload_n dX5_applyModes_107 rfl 5 rfl ?_
            refine ev_callVi (x := σ 5 (s * 4 + ch)) dX5_applyModes_108 M_X5_183 Y_X4_timeOfChannel [.int (nI s), .int (nI ch)] (c_X4_timeOfChannel s ch (by omega) (by omega)) (by decide) (Nat.le_of_ble_eq_true rfl) (by decide) sh_0 rfl rfl rfl (Nat.le_of_ble_eq_true rfl) ?_
            refine ev_aload_n dX5_applyModes_111 rfl 2 rfl ?_
            refine ev_getR dX5_applyModes_112 C_X5 L_X5_26 (by decide) (by decide) sh_63 rfl ?_
            refine ev_aload_n dX5_applyModes_115 rfl 2 rfl ?_
            refine ev_getR dX5_applyModes_116 C_X5 L_X5_12 (by decide) (by decide) sh_63 rfl ?_
            refine ev_iload_n dX5_applyModes_119 rfl 3 rfl ?_
            refine ev_iload_n dX5_applyModes_120 rfl 5 rfl ?_
            refine ev_callVi (x := σ 6 (s * 4 + ch)) dX5_applyModes_121 M_X5_186 Y_X4_modesOfChannel [.int (nI s), .int (nI ch)] (c_X4_modesOfChannel s ch (by omega) (by omega)) (by decide) (Nat.le_of_ble_eq_true rfl) (by decide) sh_0 rfl rfl rfl (Nat.le_of_ble_eq_true rfl) ?_
            refine ev_callVi (x := (ma t n ((σ 6 (s * 4 + ch)), false)).1) dX5_applyModes_124 M_X5_189 Y_X2_modesAfter [.int (σ 6 (s * 4 + ch))] (c_X2_modesAfter (σ 6 (s * 4 + ch)) t n (by first | exact hn | omega) (by first | exact hn4 | omega) (by first | exact ht | omega)) (by decide) (Nat.le_of_ble_eq_true rfl) (by decide) sh_66 rfl rfl rfl (Nat.le_of_ble_eq_true rfl) ?_
            refine ev_callVv dX5_applyModes_127 M_X5_143 Y_X4_describeChannel [.int (net (σ 1) s), .int (nI ch), .int (σ 5 (s * 4 + ch)), .int ((ma t n ((σ 6 (s * 4 + ch)), false)).1)] (c_X4_describeChannel (net (σ 1) s) ch (σ 5 (s * 4 + ch)) ((ma t n ((σ 6 (s * 4 + ch)), false)).1) (by omega)) (by decide) (Nat.le_of_ble_eq_true rfl) (by decide) sh_0 rfl rfl rfl (Nat.le_of_ble_eq_true rfl) ?_
            refine ev_st (σ' := av_set (av_set (hkeep σ j c) 5 (ds (σ 5) (net (σ 1) s) ch (σ 5 (s * 4 + ch)))) 6 (ds (σ 6) (net (σ 1) s) ch ((ma t n ((σ 6 (s * 4 + ch)), false)).1))) (by first | rfl | (funext a; by_cases q5 : a = 5; (next => subst q5; rfl); by_cases q6 : a = 6; (next => subst q6; rfl); simp only [av_set, q5, q6, if_false]) | exact av_set_set _ _ _ _ | (funext a; unfold av_set; (repeat' split) <;> first | rfl | (exfalso; omega)) | (funext a; simp only [av_set, cpS]; (repeat' split) <;> first | rfl | (exfalso; omega))) ?_
            refine ev_aload_n dX5_applyModes_130 rfl 2 rfl ?_
            refine ev_getR dX5_applyModes_131 C_X5 L_X5_12 (by decide) (by decide) sh_63 rfl ?_
            refine ev_iload dX5_applyModes_134 1 rfl ?_
            refine ev_iload_n dX5_applyModes_136 rfl 5 rfl ?_
            refine ev_aload_n dX5_applyModes_137 rfl 2 rfl ?_
            refine ev_getR dX5_applyModes_138 C_X5 L_X5_26 (by decide) (by decide) sh_63 rfl ?_
            refine ev_aload_n dX5_applyModes_141 rfl 2 rfl ?_
            refine ev_getR dX5_applyModes_142 C_X5 L_X5_12 (by decide) (by decide) sh_63 rfl ?_
            refine ev_iload dX5_applyModes_145 1 rfl ?_
            refine ev_iload_n dX5_applyModes_147 rfl 5 rfl ?_
            refine ev_callVi (x := un (σ 4) (net (σ 1) s) ch) dX5_applyModes_148 M_X5_192 Y_X4_operatorsIn [.int (net (σ 1) s), .int (nI ch)] (c_X4_operatorsIn (net (σ 1) s) ch (by omega)) (by decide) (Nat.le_of_ble_eq_true rfl) (by decide) sh_0 rfl rfl rfl (Nat.le_of_ble_eq_true rfl) ?_
            refine ev_callVi (x := (oa t n ((un (σ 4) (net (σ 1) s) ch), false)).1) dX5_applyModes_151 M_X5_195 Y_X2_operatorsAfter [.int (un (σ 4) (net (σ 1) s) ch)] (c_X2_operatorsAfter (un (σ 4) (net (σ 1) s) ch) t n (by first | exact hn | omega) (by first | exact hn4 | omega) (by first | exact ht | omega)) (by decide) (Nat.le_of_ble_eq_true rfl) (by decide) sh_66 rfl rfl rfl (Nat.le_of_ble_eq_true rfl) ?_
            refine ev_callVv dX5_applyModes_154 M_X5_198 Y_X4_setOperators [.int (net (σ 1) s), .int (nI ch), .int ((oa t n ((un (σ 4) (net (σ 1) s) ch), false)).1)] (c_X4_setOperators (net (σ 1) s) ch ((oa t n ((un (σ 4) (net (σ 1) s) ch), false)).1) (by omega)) (by decide) (Nat.le_of_ble_eq_true rfl) (by decide) sh_0 rfl rfl rfl (Nat.le_of_ble_eq_true rfl) ?_
            refine ev_st (σ' := av_set (av_set (av_set (hkeep σ j c) 4 (so (σ 3) (σ 4) (net (σ 1) s) ch ((oa t n ((un (σ 4) (net (σ 1) s) ch), false)).1))) 5 (ds (σ 5) (net (σ 1) s) ch (σ 5 (s * 4 + ch)))) 6 (ds (σ 6) (net (σ 1) s) ch ((ma t n ((σ 6 (s * 4 + ch)), false)).1))) (by first | rfl | (funext a; by_cases q4 : a = 4; (next => subst q4; rfl); by_cases q5 : a = 5; (next => subst q5; rfl); by_cases q6 : a = 6; (next => subst q6; rfl); simp only [av_set, q4, q5, q6, if_false]) | exact av_set_set _ _ _ _ | (funext a; unfold av_set; (repeat' split) <;> first | rfl | (exfalso; omega)) | (funext a; simp only [av_set, cpS]; (repeat' split) <;> first | rfl | (exfalso; omega))) ?_
            refine ev_aload_n dX5_applyModes_157 rfl 2 rfl ?_
            refine ev_getR dX5_applyModes_158 C_X5 L_X5_26 (by decide) (by decide) sh_63 rfl ?_
            refine ev_callVi (x := nI (ci t n)) dX5_applyModes_161 M_X5_201 Y_X2_countItems [] (c_X2_countItems t n (by first | exact hn | omega) (by first | exact hn4 | omega) (by first | exact ht | omega)) (by decide) (Nat.le_of_ble_eq_true rfl) (by decide) sh_66 rfl rfl rfl (Nat.le_of_ble_eq_true rfl) ?_
            refine ev_istore (lv' := [(6, .int (nI (ci t n))), (5, .int (-1)), (4, .int (net (σ 1) s)), (0, .ref 63), (1, .int (nI s)), (2, .int (nI q)), (3, .int (nI ch))]) dX5_applyModes_164 (by decide) rfl ?_
            refine ev_aload_n dX5_applyModes_166 rfl 3 rfl ?_
            refine ev_getR dX5_applyModes_167 C_X5 L_X5_26 (by decide) (by decide) sh_63 rfl ?_
            refine ev_callVv dX5_applyModes_170 M_X5_177 Y_X2_empty [] (c_X2_empty  ) (by decide) (Nat.le_of_ble_eq_true rfl) (by decide) sh_66 rfl rfl rfl (Nat.le_of_ble_eq_true rfl) ?_
            refine ev_st (σ' := av_set (av_set (av_set (av_set (hkeep σ j c) 4 (so (σ 3) (σ 4) (net (σ 1) s) ch ((oa t n ((un (σ 4) (net (σ 1) s) ch), false)).1))) 5 (ds (σ 5) (net (σ 1) s) ch (σ 5 (s * 4 + ch)))) 6 (ds (σ 6) (net (σ 1) s) ch ((ma t n ((σ 6 (s * 4 + ch)), false)).1))) 66 (upd (σ 66) 1 (nI 0))) (by first | rfl | (funext a; by_cases q4 : a = 4; (next => subst q4; rfl); by_cases q5 : a = 5; (next => subst q5; rfl); by_cases q6 : a = 6; (next => subst q6; rfl); by_cases q66 : a = 66; (next => subst q66; rfl); simp only [av_set, q4, q5, q6, q66, if_false]) | exact av_set_set _ _ _ _ | (funext a; unfold av_set; (repeat' split) <;> first | rfl | (exfalso; omega)) | (funext a; simp only [av_set, cpS]; (repeat' split) <;> first | rfl | (exfalso; omega))) ?_
            refine ev_iload dX5_applyModes_173 0 rfl ?_
            exact ev_ireturn dX5_applyModes_175 rfl rfl (leafI hQ rfl rfl)
          · exact absurd rfl h75
        · exact absurd (hp.symm.trans h37) (by decide)
      · exact absurd (hc1.symm.trans h22) (by decide)

set_option maxRecDepth 100000 in
set_option maxHeartbeats 1000000 in
theorem c_X5_members_bad {l : Launch} {σ : av_S} (x : Int32) (y : Int32) (hx : (sv (σ 0 0) x && sv (nI 4) y) = false) : av_M l RX5 cX5_members 3 (some .int) 1 [.ref 63, .int x, .int y] σ (some (.int (-1))) σ := by
  intro Q hQ
  show av_Ev l RX5 cX5_members 3 (some .int) av_E0 1 0 [(0, .ref 63), (1, .int x), (2, .int y)] [] σ Q
  refine ev_aload_n dX5_members_0 rfl 0 rfl ?_
  refine ev_getR dX5_members_1 C_X5 L_X5_12 (by decide) (by decide) sh_63 rfl ?_
  refine ev_iload_n dX5_members_4 rfl 1 rfl ?_
  refine ev_callVi (x := b2i (sv (σ 0 0) x)) dX5_members_5 M_X5_97 Y_X4_hasServer [.int x] (c_X4_hasServer x ) (by decide) (Nat.le_of_ble_eq_true rfl) (by decide) sh_0 rfl rfl rfl (Nat.le_of_ble_eq_true rfl) ?_
  refine ev_ifb_eq (tgt := 18) dX5_members_8 (by decide) (fun h8 => ?_) (fun h8 => ?_)
  · refine ev_iconst dX5_members_18 (v := (-1)) (by decide) ?_
    exact ev_ireturn dX5_members_19 rfl rfl (leafI hQ rfl rfl)
  · refine ev_iload_n dX5_members_11 rfl 2 rfl ?_
    refine ev_callSi (x := b2i (sv (nI 4) y)) dX5_members_12 (Or.inl M_X5_133) Y_X5_isChannel [.int y] (c_X5_isChannel y ) (by decide) (Nat.le_of_ble_eq_true rfl) rfl rfl (Nat.le_of_ble_eq_true rfl) ?_
    refine ev_ifb_ne (tgt := 20) dX5_members_15 (by decide) (fun h15 => ?_) (fun h15 => ?_)
    · exact absurd hx (by simp [h8, h15])
    · refine ev_iconst dX5_members_18 (v := (-1)) (by decide) ?_
      exact ev_ireturn dX5_members_19 rfl rfl (leafI hQ rfl rfl)

set_option maxRecDepth 100000 in
set_option maxHeartbeats 1000000 in
theorem c_X5_members_ok {l : Launch} {σ : av_S} (s : Nat) (ch : Nat) (hs : s < 6) (hc0 : ch < 4) (hs1 : sv (σ 0 0) (nI s) = true) (hc1 : sv (nI 4) (nI ch) = true) : av_M l RX5 cX5_members 3 (some .int) 3 [.ref 63, .int (nI s), .int (nI ch)] σ (some (.int (un (σ 3) (net (σ 1) s) ch))) σ := by
  intro Q hQ
  show av_Ev l RX5 cX5_members 3 (some .int) av_E0 3 0 [(0, .ref 63), (1, .int (nI s)), (2, .int (nI ch))] [] σ Q
  refine ev_aload_n dX5_members_0 rfl 0 rfl ?_
  refine ev_getR dX5_members_1 C_X5 L_X5_12 (by decide) (by decide) sh_63 rfl ?_
  refine ev_iload_n dX5_members_4 rfl 1 rfl ?_
  refine ev_callVi (x := b2i (sv (σ 0 0) (nI s))) dX5_members_5 M_X5_97 Y_X4_hasServer [.int (nI s)] (c_X4_hasServer (nI s) ) (by decide) (Nat.le_of_ble_eq_true rfl) (by decide) sh_0 rfl rfl rfl (Nat.le_of_ble_eq_true rfl) ?_
  refine ev_ifb_eq (tgt := 18) dX5_members_8 (by decide) (fun h8 => ?_) (fun h8 => ?_)
  · exact absurd (hs1.symm.trans h8) (by decide)
  · refine ev_iload_n dX5_members_11 rfl 2 rfl ?_
    refine ev_callSi (x := b2i (sv (nI 4) (nI ch))) dX5_members_12 (Or.inl M_X5_133) Y_X5_isChannel [.int (nI ch)] (c_X5_isChannel (nI ch) ) (by decide) (Nat.le_of_ble_eq_true rfl) rfl rfl (Nat.le_of_ble_eq_true rfl) ?_
    refine ev_ifb_ne (tgt := 20) dX5_members_15 (by decide) (fun h15 => ?_) (fun h15 => ?_)
    · refine ev_aload_n dX5_members_20 rfl 0 rfl ?_
      refine ev_getR dX5_members_21 C_X5 L_X5_12 (by decide) (by decide) sh_63 rfl ?_
      refine ev_aload_n dX5_members_24 rfl 0 rfl ?_
      refine ev_getR dX5_members_25 C_X5 L_X5_12 (by decide) (by decide) sh_63 rfl ?_
      refine ev_iload_n dX5_members_28 rfl 1 rfl ?_
      refine ev_callVi (x := net (σ 1) s) dX5_members_29 M_X5_79 Y_X4_networkOf [.int (nI s)] (c_X4_networkOf s (by omega)) (by decide) (Nat.le_of_ble_eq_true rfl) (by decide) sh_0 rfl rfl rfl (Nat.le_of_ble_eq_true rfl) ?_
      refine ev_iload_n dX5_members_32 rfl 2 rfl ?_
      refine ev_callVi (x := un (σ 3) (net (σ 1) s) ch) dX5_members_33 M_X5_153 Y_X4_membersIn [.int (net (σ 1) s), .int (nI ch)] (c_X4_membersIn (net (σ 1) s) ch (by omega)) (by decide) (Nat.le_of_ble_eq_true rfl) (by decide) sh_0 rfl rfl rfl (Nat.le_of_ble_eq_true rfl) ?_
      exact ev_ireturn dX5_members_36 rfl rfl (leafI hQ rfl rfl)
    · exact absurd (hc1.symm.trans h15) (by decide)

set_option maxRecDepth 100000 in
set_option maxHeartbeats 1000000 in
theorem c_X5_operators_bad {l : Launch} {σ : av_S} (x : Int32) (y : Int32) (hx : (sv (σ 0 0) x && sv (nI 4) y) = false) : av_M l RX5 cX5_operators 3 (some .int) 1 [.ref 63, .int x, .int y] σ (some (.int (-1))) σ := by
  intro Q hQ
  show av_Ev l RX5 cX5_operators 3 (some .int) av_E0 1 0 [(0, .ref 63), (1, .int x), (2, .int y)] [] σ Q
  refine ev_aload_n dX5_operators_0 rfl 0 rfl ?_
  refine ev_getR dX5_operators_1 C_X5 L_X5_12 (by decide) (by decide) sh_63 rfl ?_
  refine ev_iload_n dX5_operators_4 rfl 1 rfl ?_
  refine ev_callVi (x := b2i (sv (σ 0 0) x)) dX5_operators_5 M_X5_97 Y_X4_hasServer [.int x] (c_X4_hasServer x ) (by decide) (Nat.le_of_ble_eq_true rfl) (by decide) sh_0 rfl rfl rfl (Nat.le_of_ble_eq_true rfl) ?_
  refine ev_ifb_eq (tgt := 18) dX5_operators_8 (by decide) (fun h8 => ?_) (fun h8 => ?_)
  · refine ev_iconst dX5_operators_18 (v := (-1)) (by decide) ?_
    exact ev_ireturn dX5_operators_19 rfl rfl (leafI hQ rfl rfl)
  · refine ev_iload_n dX5_operators_11 rfl 2 rfl ?_
    refine ev_callSi (x := b2i (sv (nI 4) y)) dX5_operators_12 (Or.inl M_X5_133) Y_X5_isChannel [.int y] (c_X5_isChannel y ) (by decide) (Nat.le_of_ble_eq_true rfl) rfl rfl (Nat.le_of_ble_eq_true rfl) ?_
    refine ev_ifb_ne (tgt := 20) dX5_operators_15 (by decide) (fun h15 => ?_) (fun h15 => ?_)
    · exact absurd hx (by simp [h8, h15])
    · refine ev_iconst dX5_operators_18 (v := (-1)) (by decide) ?_
      exact ev_ireturn dX5_operators_19 rfl rfl (leafI hQ rfl rfl)

set_option maxRecDepth 100000 in
set_option maxHeartbeats 1000000 in
theorem c_X5_operators_ok {l : Launch} {σ : av_S} (s : Nat) (ch : Nat) (hs : s < 6) (hc0 : ch < 4) (hs1 : sv (σ 0 0) (nI s) = true) (hc1 : sv (nI 4) (nI ch) = true) : av_M l RX5 cX5_operators 3 (some .int) 3 [.ref 63, .int (nI s), .int (nI ch)] σ (some (.int (un (σ 4) (net (σ 1) s) ch))) σ := by
  intro Q hQ
  show av_Ev l RX5 cX5_operators 3 (some .int) av_E0 3 0 [(0, .ref 63), (1, .int (nI s)), (2, .int (nI ch))] [] σ Q
  refine ev_aload_n dX5_operators_0 rfl 0 rfl ?_
  refine ev_getR dX5_operators_1 C_X5 L_X5_12 (by decide) (by decide) sh_63 rfl ?_
  refine ev_iload_n dX5_operators_4 rfl 1 rfl ?_
  refine ev_callVi (x := b2i (sv (σ 0 0) (nI s))) dX5_operators_5 M_X5_97 Y_X4_hasServer [.int (nI s)] (c_X4_hasServer (nI s) ) (by decide) (Nat.le_of_ble_eq_true rfl) (by decide) sh_0 rfl rfl rfl (Nat.le_of_ble_eq_true rfl) ?_
  refine ev_ifb_eq (tgt := 18) dX5_operators_8 (by decide) (fun h8 => ?_) (fun h8 => ?_)
  · exact absurd (hs1.symm.trans h8) (by decide)
  · refine ev_iload_n dX5_operators_11 rfl 2 rfl ?_
    refine ev_callSi (x := b2i (sv (nI 4) (nI ch))) dX5_operators_12 (Or.inl M_X5_133) Y_X5_isChannel [.int (nI ch)] (c_X5_isChannel (nI ch) ) (by decide) (Nat.le_of_ble_eq_true rfl) rfl rfl (Nat.le_of_ble_eq_true rfl) ?_
    refine ev_ifb_ne (tgt := 20) dX5_operators_15 (by decide) (fun h15 => ?_) (fun h15 => ?_)
    · refine ev_aload_n dX5_operators_20 rfl 0 rfl ?_
      refine ev_getR dX5_operators_21 C_X5 L_X5_12 (by decide) (by decide) sh_63 rfl ?_
      refine ev_aload_n dX5_operators_24 rfl 0 rfl ?_
      refine ev_getR dX5_operators_25 C_X5 L_X5_12 (by decide) (by decide) sh_63 rfl ?_
      refine ev_iload_n dX5_operators_28 rfl 1 rfl ?_
      refine ev_callVi (x := net (σ 1) s) dX5_operators_29 M_X5_79 Y_X4_networkOf [.int (nI s)] (c_X4_networkOf s (by omega)) (by decide) (Nat.le_of_ble_eq_true rfl) (by decide) sh_0 rfl rfl rfl (Nat.le_of_ble_eq_true rfl) ?_
      refine ev_iload_n dX5_operators_32 rfl 2 rfl ?_
      refine ev_callVi (x := un (σ 4) (net (σ 1) s) ch) dX5_operators_33 M_X5_192 Y_X4_operatorsIn [.int (net (σ 1) s), .int (nI ch)] (c_X4_operatorsIn (net (σ 1) s) ch (by omega)) (by decide) (Nat.le_of_ble_eq_true rfl) (by decide) sh_0 rfl rfl rfl (Nat.le_of_ble_eq_true rfl) ?_
      exact ev_ireturn dX5_operators_36 rfl rfl (leafI hQ rfl rfl)
    · exact absurd (hc1.symm.trans h15) (by decide)

set_option maxRecDepth 100000 in
set_option maxHeartbeats 1000000 in
theorem c_X5_modes_bad {l : Launch} {σ : av_S} (x : Int32) (y : Int32) (hx : (sv (σ 0 0) x && sv (nI 4) y) = false) : av_M l RX5 cX5_modes 3 (some .int) 1 [.ref 63, .int x, .int y] σ (some (.int (-1))) σ := by
  intro Q hQ
  show av_Ev l RX5 cX5_modes 3 (some .int) av_E0 1 0 [(0, .ref 63), (1, .int x), (2, .int y)] [] σ Q
  refine ev_aload_n dX5_modes_0 rfl 0 rfl ?_
  refine ev_getR dX5_modes_1 C_X5 L_X5_12 (by decide) (by decide) sh_63 rfl ?_
  refine ev_iload_n dX5_modes_4 rfl 1 rfl ?_
  refine ev_callVi (x := b2i (sv (σ 0 0) x)) dX5_modes_5 M_X5_97 Y_X4_hasServer [.int x] (c_X4_hasServer x ) (by decide) (Nat.le_of_ble_eq_true rfl) (by decide) sh_0 rfl rfl rfl (Nat.le_of_ble_eq_true rfl) ?_
  refine ev_ifb_eq (tgt := 18) dX5_modes_8 (by decide) (fun h8 => ?_) (fun h8 => ?_)
  · refine ev_iconst dX5_modes_18 (v := (-1)) (by decide) ?_
    exact ev_ireturn dX5_modes_19 rfl rfl (leafI hQ rfl rfl)
  · refine ev_iload_n dX5_modes_11 rfl 2 rfl ?_
    refine ev_callSi (x := b2i (sv (nI 4) y)) dX5_modes_12 (Or.inl M_X5_133) Y_X5_isChannel [.int y] (c_X5_isChannel y ) (by decide) (Nat.le_of_ble_eq_true rfl) rfl rfl (Nat.le_of_ble_eq_true rfl) ?_
    refine ev_ifb_ne (tgt := 20) dX5_modes_15 (by decide) (fun h15 => ?_) (fun h15 => ?_)
    · exact absurd hx (by simp [h8, h15])
    · refine ev_iconst dX5_modes_18 (v := (-1)) (by decide) ?_
      exact ev_ireturn dX5_modes_19 rfl rfl (leafI hQ rfl rfl)

set_option maxRecDepth 100000 in
set_option maxHeartbeats 1000000 in
theorem c_X5_modes_no {l : Launch} {σ : av_S} (s : Nat) (ch : Nat) (hs : s < 6) (hc0 : ch < 4) (hs1 : sv (σ 0 0) (nI s) = true) (hc1 : sv (nI 4) (nI ch) = true) (hh : hc (σ 1) (σ 3) s ch = false) : av_M l RX5 cX5_modes 3 (some .int) 4 [.ref 63, .int (nI s), .int (nI ch)] σ (some (.int (-9))) σ := by
  intro Q hQ
  show av_Ev l RX5 cX5_modes 3 (some .int) av_E0 4 0 [(0, .ref 63), (1, .int (nI s)), (2, .int (nI ch))] [] σ Q
  refine ev_aload_n dX5_modes_0 rfl 0 rfl ?_
  refine ev_getR dX5_modes_1 C_X5 L_X5_12 (by decide) (by decide) sh_63 rfl ?_
  refine ev_iload_n dX5_modes_4 rfl 1 rfl ?_
  refine ev_callVi (x := b2i (sv (σ 0 0) (nI s))) dX5_modes_5 M_X5_97 Y_X4_hasServer [.int (nI s)] (c_X4_hasServer (nI s) ) (by decide) (Nat.le_of_ble_eq_true rfl) (by decide) sh_0 rfl rfl rfl (Nat.le_of_ble_eq_true rfl) ?_
  refine ev_ifb_eq (tgt := 18) dX5_modes_8 (by decide) (fun h8 => ?_) (fun h8 => ?_)
  · exact absurd (hs1.symm.trans h8) (by decide)
  · refine ev_iload_n dX5_modes_11 rfl 2 rfl ?_
    refine ev_callSi (x := b2i (sv (nI 4) (nI ch))) dX5_modes_12 (Or.inl M_X5_133) Y_X5_isChannel [.int (nI ch)] (c_X5_isChannel (nI ch) ) (by decide) (Nat.le_of_ble_eq_true rfl) rfl rfl (Nat.le_of_ble_eq_true rfl) ?_
    refine ev_ifb_ne (tgt := 20) dX5_modes_15 (by decide) (fun h15 => ?_) (fun h15 => ?_)
    · refine ev_aload_n dX5_modes_20 rfl 0 rfl ?_
      refine ev_getR dX5_modes_21 C_X5 L_X5_12 (by decide) (by decide) sh_63 rfl ?_
      refine ev_iload_n dX5_modes_24 rfl 1 rfl ?_
      refine ev_iload_n dX5_modes_25 rfl 2 rfl ?_
      refine ev_callVi (x := b2i (hc (σ 1) (σ 3) s ch)) dX5_modes_26 M_X5_140 Y_X4_hasChannel [.int (nI s), .int (nI ch)] (c_X4_hasChannel s ch (by omega) (by omega)) (by decide) (Nat.le_of_ble_eq_true rfl) (by decide) sh_0 rfl rfl rfl (Nat.le_of_ble_eq_true rfl) ?_
      refine ev_ifb_ne (tgt := 35) dX5_modes_29 (by decide) (fun h29 => ?_) (fun h29 => ?_)
      · exact absurd (hh.symm.trans h29) (by decide)
      · refine ev_bipush dX5_modes_32 (v := (-9)) (by decide) ?_
        exact ev_ireturn dX5_modes_34 rfl rfl (leafI hQ rfl rfl)
    · exact absurd (hc1.symm.trans h15) (by decide)

set_option maxRecDepth 100000 in
set_option maxHeartbeats 1000000 in
theorem c_X5_modes_ok {l : Launch} {σ : av_S} (s : Nat) (ch : Nat) (hs : s < 6) (hc0 : ch < 4) (hs1 : sv (σ 0 0) (nI s) = true) (hc1 : sv (nI 4) (nI ch) = true) (hh : hc (σ 1) (σ 3) s ch = true) : av_M l RX5 cX5_modes 3 (some .int) 4 [.ref 63, .int (nI s), .int (nI ch)] σ (some (.int (σ 6 (s * 4 + ch)))) σ := by
  intro Q hQ
  show av_Ev l RX5 cX5_modes 3 (some .int) av_E0 4 0 [(0, .ref 63), (1, .int (nI s)), (2, .int (nI ch))] [] σ Q
  refine ev_aload_n dX5_modes_0 rfl 0 rfl ?_
  refine ev_getR dX5_modes_1 C_X5 L_X5_12 (by decide) (by decide) sh_63 rfl ?_
  refine ev_iload_n dX5_modes_4 rfl 1 rfl ?_
  refine ev_callVi (x := b2i (sv (σ 0 0) (nI s))) dX5_modes_5 M_X5_97 Y_X4_hasServer [.int (nI s)] (c_X4_hasServer (nI s) ) (by decide) (Nat.le_of_ble_eq_true rfl) (by decide) sh_0 rfl rfl rfl (Nat.le_of_ble_eq_true rfl) ?_
  refine ev_ifb_eq (tgt := 18) dX5_modes_8 (by decide) (fun h8 => ?_) (fun h8 => ?_)
  · exact absurd (hs1.symm.trans h8) (by decide)
  · refine ev_iload_n dX5_modes_11 rfl 2 rfl ?_
    refine ev_callSi (x := b2i (sv (nI 4) (nI ch))) dX5_modes_12 (Or.inl M_X5_133) Y_X5_isChannel [.int (nI ch)] (c_X5_isChannel (nI ch) ) (by decide) (Nat.le_of_ble_eq_true rfl) rfl rfl (Nat.le_of_ble_eq_true rfl) ?_
    refine ev_ifb_ne (tgt := 20) dX5_modes_15 (by decide) (fun h15 => ?_) (fun h15 => ?_)
    · refine ev_aload_n dX5_modes_20 rfl 0 rfl ?_
      refine ev_getR dX5_modes_21 C_X5 L_X5_12 (by decide) (by decide) sh_63 rfl ?_
      refine ev_iload_n dX5_modes_24 rfl 1 rfl ?_
      refine ev_iload_n dX5_modes_25 rfl 2 rfl ?_
      refine ev_callVi (x := b2i (hc (σ 1) (σ 3) s ch)) dX5_modes_26 M_X5_140 Y_X4_hasChannel [.int (nI s), .int (nI ch)] (c_X4_hasChannel s ch (by omega) (by omega)) (by decide) (Nat.le_of_ble_eq_true rfl) (by decide) sh_0 rfl rfl rfl (Nat.le_of_ble_eq_true rfl) ?_
      refine ev_ifb_ne (tgt := 35) dX5_modes_29 (by decide) (fun h29 => ?_) (fun h29 => ?_)
      · refine ev_aload_n dX5_modes_35 rfl 0 rfl ?_
        refine ev_getR dX5_modes_36 C_X5 L_X5_12 (by decide) (by decide) sh_63 rfl ?_
        refine ev_iload_n dX5_modes_39 rfl 1 rfl ?_
        refine ev_iload_n dX5_modes_40 rfl 2 rfl ?_
        refine ev_callVi (x := σ 6 (s * 4 + ch)) dX5_modes_41 M_X5_186 Y_X4_modesOfChannel [.int (nI s), .int (nI ch)] (c_X4_modesOfChannel s ch (by omega) (by omega)) (by decide) (Nat.le_of_ble_eq_true rfl) (by decide) sh_0 rfl rfl rfl (Nat.le_of_ble_eq_true rfl) ?_
        exact ev_ireturn dX5_modes_44 rfl rfl (leafI hQ rfl rfl)
      · exact absurd (hh.symm.trans h29) (by decide)
    · exact absurd (hc1.symm.trans h15) (by decide)

set_option maxRecDepth 100000 in
set_option maxHeartbeats 1000000 in
theorem c_X5_channelTimestamp_bad {l : Launch} {σ : av_S} (x : Int32) (y : Int32) (hx : (sv (σ 0 0) x && sv (nI 4) y) = false) : av_M l RX5 cX5_channelTimestamp 3 (some .int) 1 [.ref 63, .int x, .int y] σ (some (.int (-1))) σ := by
  intro Q hQ
  show av_Ev l RX5 cX5_channelTimestamp 3 (some .int) av_E0 1 0 [(0, .ref 63), (1, .int x), (2, .int y)] [] σ Q
  refine ev_aload_n dX5_channelTimestamp_0 rfl 0 rfl ?_
  refine ev_getR dX5_channelTimestamp_1 C_X5 L_X5_12 (by decide) (by decide) sh_63 rfl ?_
  refine ev_iload_n dX5_channelTimestamp_4 rfl 1 rfl ?_
  refine ev_callVi (x := b2i (sv (σ 0 0) x)) dX5_channelTimestamp_5 M_X5_97 Y_X4_hasServer [.int x] (c_X4_hasServer x ) (by decide) (Nat.le_of_ble_eq_true rfl) (by decide) sh_0 rfl rfl rfl (Nat.le_of_ble_eq_true rfl) ?_
  refine ev_ifb_eq (tgt := 18) dX5_channelTimestamp_8 (by decide) (fun h8 => ?_) (fun h8 => ?_)
  · refine ev_iconst dX5_channelTimestamp_18 (v := (-1)) (by decide) ?_
    exact ev_ireturn dX5_channelTimestamp_19 rfl rfl (leafI hQ rfl rfl)
  · refine ev_iload_n dX5_channelTimestamp_11 rfl 2 rfl ?_
    refine ev_callSi (x := b2i (sv (nI 4) y)) dX5_channelTimestamp_12 (Or.inl M_X5_133) Y_X5_isChannel [.int y] (c_X5_isChannel y ) (by decide) (Nat.le_of_ble_eq_true rfl) rfl rfl (Nat.le_of_ble_eq_true rfl) ?_
    refine ev_ifb_ne (tgt := 20) dX5_channelTimestamp_15 (by decide) (fun h15 => ?_) (fun h15 => ?_)
    · exact absurd hx (by simp [h8, h15])
    · refine ev_iconst dX5_channelTimestamp_18 (v := (-1)) (by decide) ?_
      exact ev_ireturn dX5_channelTimestamp_19 rfl rfl (leafI hQ rfl rfl)

set_option maxRecDepth 100000 in
set_option maxHeartbeats 1000000 in
theorem c_X5_channelTimestamp_no {l : Launch} {σ : av_S} (s : Nat) (ch : Nat) (hs : s < 6) (hc0 : ch < 4) (hs1 : sv (σ 0 0) (nI s) = true) (hc1 : sv (nI 4) (nI ch) = true) (hh : hc (σ 1) (σ 3) s ch = false) : av_M l RX5 cX5_channelTimestamp 3 (some .int) 4 [.ref 63, .int (nI s), .int (nI ch)] σ (some (.int (-9))) σ := by
  intro Q hQ
  show av_Ev l RX5 cX5_channelTimestamp 3 (some .int) av_E0 4 0 [(0, .ref 63), (1, .int (nI s)), (2, .int (nI ch))] [] σ Q
  refine ev_aload_n dX5_channelTimestamp_0 rfl 0 rfl ?_
  refine ev_getR dX5_channelTimestamp_1 C_X5 L_X5_12 (by decide) (by decide) sh_63 rfl ?_
  refine ev_iload_n dX5_channelTimestamp_4 rfl 1 rfl ?_
  refine ev_callVi (x := b2i (sv (σ 0 0) (nI s))) dX5_channelTimestamp_5 M_X5_97 Y_X4_hasServer [.int (nI s)] (c_X4_hasServer (nI s) ) (by decide) (Nat.le_of_ble_eq_true rfl) (by decide) sh_0 rfl rfl rfl (Nat.le_of_ble_eq_true rfl) ?_
  refine ev_ifb_eq (tgt := 18) dX5_channelTimestamp_8 (by decide) (fun h8 => ?_) (fun h8 => ?_)
  · exact absurd (hs1.symm.trans h8) (by decide)
  · refine ev_iload_n dX5_channelTimestamp_11 rfl 2 rfl ?_
    refine ev_callSi (x := b2i (sv (nI 4) (nI ch))) dX5_channelTimestamp_12 (Or.inl M_X5_133) Y_X5_isChannel [.int (nI ch)] (c_X5_isChannel (nI ch) ) (by decide) (Nat.le_of_ble_eq_true rfl) rfl rfl (Nat.le_of_ble_eq_true rfl) ?_
    refine ev_ifb_ne (tgt := 20) dX5_channelTimestamp_15 (by decide) (fun h15 => ?_) (fun h15 => ?_)
    · refine ev_aload_n dX5_channelTimestamp_20 rfl 0 rfl ?_
      refine ev_getR dX5_channelTimestamp_21 C_X5 L_X5_12 (by decide) (by decide) sh_63 rfl ?_
      refine ev_iload_n dX5_channelTimestamp_24 rfl 1 rfl ?_
      refine ev_iload_n dX5_channelTimestamp_25 rfl 2 rfl ?_
      refine ev_callVi (x := b2i (hc (σ 1) (σ 3) s ch)) dX5_channelTimestamp_26 M_X5_140 Y_X4_hasChannel [.int (nI s), .int (nI ch)] (c_X4_hasChannel s ch (by omega) (by omega)) (by decide) (Nat.le_of_ble_eq_true rfl) (by decide) sh_0 rfl rfl rfl (Nat.le_of_ble_eq_true rfl) ?_
      refine ev_ifb_ne (tgt := 35) dX5_channelTimestamp_29 (by decide) (fun h29 => ?_) (fun h29 => ?_)
      · exact absurd (hh.symm.trans h29) (by decide)
      · refine ev_bipush dX5_channelTimestamp_32 (v := (-9)) (by decide) ?_
        exact ev_ireturn dX5_channelTimestamp_34 rfl rfl (leafI hQ rfl rfl)
    · exact absurd (hc1.symm.trans h15) (by decide)

set_option maxRecDepth 100000 in
set_option maxHeartbeats 1000000 in
theorem c_X5_channelTimestamp_ok {l : Launch} {σ : av_S} (s : Nat) (ch : Nat) (hs : s < 6) (hc0 : ch < 4) (hs1 : sv (σ 0 0) (nI s) = true) (hc1 : sv (nI 4) (nI ch) = true) (hh : hc (σ 1) (σ 3) s ch = true) : av_M l RX5 cX5_channelTimestamp 3 (some .int) 4 [.ref 63, .int (nI s), .int (nI ch)] σ (some (.int (σ 5 (s * 4 + ch)))) σ := by
  intro Q hQ
  show av_Ev l RX5 cX5_channelTimestamp 3 (some .int) av_E0 4 0 [(0, .ref 63), (1, .int (nI s)), (2, .int (nI ch))] [] σ Q
  refine ev_aload_n dX5_channelTimestamp_0 rfl 0 rfl ?_
  refine ev_getR dX5_channelTimestamp_1 C_X5 L_X5_12 (by decide) (by decide) sh_63 rfl ?_
  refine ev_iload_n dX5_channelTimestamp_4 rfl 1 rfl ?_
  refine ev_callVi (x := b2i (sv (σ 0 0) (nI s))) dX5_channelTimestamp_5 M_X5_97 Y_X4_hasServer [.int (nI s)] (c_X4_hasServer (nI s) ) (by decide) (Nat.le_of_ble_eq_true rfl) (by decide) sh_0 rfl rfl rfl (Nat.le_of_ble_eq_true rfl) ?_
  refine ev_ifb_eq (tgt := 18) dX5_channelTimestamp_8 (by decide) (fun h8 => ?_) (fun h8 => ?_)
  · exact absurd (hs1.symm.trans h8) (by decide)
  · refine ev_iload_n dX5_channelTimestamp_11 rfl 2 rfl ?_
    refine ev_callSi (x := b2i (sv (nI 4) (nI ch))) dX5_channelTimestamp_12 (Or.inl M_X5_133) Y_X5_isChannel [.int (nI ch)] (c_X5_isChannel (nI ch) ) (by decide) (Nat.le_of_ble_eq_true rfl) rfl rfl (Nat.le_of_ble_eq_true rfl) ?_
    refine ev_ifb_ne (tgt := 20) dX5_channelTimestamp_15 (by decide) (fun h15 => ?_) (fun h15 => ?_)
    · refine ev_aload_n dX5_channelTimestamp_20 rfl 0 rfl ?_
      refine ev_getR dX5_channelTimestamp_21 C_X5 L_X5_12 (by decide) (by decide) sh_63 rfl ?_
      refine ev_iload_n dX5_channelTimestamp_24 rfl 1 rfl ?_
      refine ev_iload_n dX5_channelTimestamp_25 rfl 2 rfl ?_
      refine ev_callVi (x := b2i (hc (σ 1) (σ 3) s ch)) dX5_channelTimestamp_26 M_X5_140 Y_X4_hasChannel [.int (nI s), .int (nI ch)] (c_X4_hasChannel s ch (by omega) (by omega)) (by decide) (Nat.le_of_ble_eq_true rfl) (by decide) sh_0 rfl rfl rfl (Nat.le_of_ble_eq_true rfl) ?_
      refine ev_ifb_ne (tgt := 35) dX5_channelTimestamp_29 (by decide) (fun h29 => ?_) (fun h29 => ?_)
      · refine ev_aload_n dX5_channelTimestamp_35 rfl 0 rfl ?_
        refine ev_getR dX5_channelTimestamp_36 C_X5 L_X5_12 (by decide) (by decide) sh_63 rfl ?_
        refine ev_iload_n dX5_channelTimestamp_39 rfl 1 rfl ?_
        refine ev_iload_n dX5_channelTimestamp_40 rfl 2 rfl ?_
        refine ev_callVi (x := σ 5 (s * 4 + ch)) dX5_channelTimestamp_41 M_X5_183 Y_X4_timeOfChannel [.int (nI s), .int (nI ch)] (c_X4_timeOfChannel s ch (by omega) (by omega)) (by decide) (Nat.le_of_ble_eq_true rfl) (by decide) sh_0 rfl rfl rfl (Nat.le_of_ble_eq_true rfl) ?_
        exact ev_ireturn dX5_channelTimestamp_44 rfl rfl (leafI hQ rfl rfl)
      · exact absurd (hh.symm.trans h29) (by decide)
    · exact absurd (hc1.symm.trans h15) (by decide)

set_option maxRecDepth 100000 in
set_option maxHeartbeats 1000000 in
theorem c_X5_lastDeprived {l : Launch} {σ : av_S}   : av_M l RX5 cX5_lastDeprived 1 (some .int) 0 [.ref 63] σ (some (.int (σ 0 2))) σ := by
  intro Q hQ
  show av_Ev l RX5 cX5_lastDeprived 1 (some .int) av_E0 0 0 [(0, .ref 63)] [] σ Q
  refine ev_aload_n dX5_lastDeprived_0 rfl 0 rfl ?_
  refine ev_getR dX5_lastDeprived_1 C_X5 L_X5_12 (by decide) (by decide) sh_63 rfl ?_
  refine ev_getI dX5_lastDeprived_4 C_X4 L_X5_205 (by decide) (by decide) sh_0 rfl ?_
  exact ev_ireturn dX5_lastDeprived_7 rfl rfl (leafI hQ rfl rfl)

set_option maxRecDepth 100000 in
set_option maxHeartbeats 1000000 in
theorem c_X5_lastDropped {l : Launch} {σ : av_S}   : av_M l RX5 cX5_lastDropped 1 (some .int) 0 [.ref 63] σ (some (.int (σ 0 3))) σ := by
  intro Q hQ
  show av_Ev l RX5 cX5_lastDropped 1 (some .int) av_E0 0 0 [(0, .ref 63)] [] σ Q
  refine ev_aload_n dX5_lastDropped_0 rfl 0 rfl ?_
  refine ev_getR dX5_lastDropped_1 C_X5 L_X5_12 (by decide) (by decide) sh_63 rfl ?_
  refine ev_getI dX5_lastDropped_4 C_X4 L_X5_208 (by decide) (by decide) sh_0 rfl ?_
  exact ev_ireturn dX5_lastDropped_7 rfl rfl (leafI hQ rfl rfl)

set_option maxRecDepth 100000 in
set_option maxHeartbeats 1000000 in
theorem c_X5_burstSize_bad {l : Launch} {σ : av_S} (x : Int32) (y : Int32) (hx : (sv (σ 0 0) x && sv (σ 0 0) y) = false) : av_M l RX5 cX5_burstSize 3 (some .int) 2 [.ref 63, .int x, .int y] σ (some (.int (-1))) σ := by
  intro Q hQ
  show av_Ev l RX5 cX5_burstSize 3 (some .int) av_E0 2 0 [(0, .ref 63), (1, .int x), (2, .int y)] [] σ Q
  refine ev_aload_n dX5_burstSize_0 rfl 0 rfl ?_
  refine ev_getR dX5_burstSize_1 C_X5 L_X5_12 (by decide) (by decide) sh_63 rfl ?_
  refine ev_iload_n dX5_burstSize_4 rfl 1 rfl ?_
  refine ev_iload_n dX5_burstSize_5 rfl 2 rfl ?_
  refine ev_callVi (x := b2i (sv (σ 0 0) x && sv (σ 0 0) y)) dX5_burstSize_6 M_X5_49 Y_X4_hasServers [.int x, .int y] (c_X4_hasServers x y ) (by decide) (Nat.le_of_ble_eq_true rfl) (by decide) sh_0 rfl rfl rfl (Nat.le_of_ble_eq_true rfl) ?_
  refine ev_ifb_ne (tgt := 14) dX5_burstSize_9 (by decide) (fun h9 => ?_) (fun h9 => ?_)
  · exact absurd hx (by simp [h9])
  · refine ev_iconst dX5_burstSize_12 (v := (-1)) (by decide) ?_
    exact ev_ireturn dX5_burstSize_13 rfl rfl (leafI hQ rfl rfl)

set_option maxRecDepth 100000 in
set_option maxHeartbeats 1000000 in
theorem c_X5_burstSize_st {l : Launch} {σ : av_S} (a : Nat) (b : Nat) (ha : a < 6) (hb : b < 6) (hs : (sv (σ 0 0) (nI a) && sv (σ 0 0) (nI b)) = true) (hsh : tb (net (σ 1) a) b = true) : av_M l RX5 cX5_burstSize 3 (some .int) 4 [.ref 63, .int (nI a), .int (nI b)] σ (some (.int (-2))) σ := by
  intro Q hQ
  show av_Ev l RX5 cX5_burstSize 3 (some .int) av_E0 4 0 [(0, .ref 63), (1, .int (nI a)), (2, .int (nI b))] [] σ Q
  refine ev_aload_n dX5_burstSize_0 rfl 0 rfl ?_
  refine ev_getR dX5_burstSize_1 C_X5 L_X5_12 (by decide) (by decide) sh_63 rfl ?_
  refine ev_iload_n dX5_burstSize_4 rfl 1 rfl ?_
  refine ev_iload_n dX5_burstSize_5 rfl 2 rfl ?_
  refine ev_callVi (x := b2i (sv (σ 0 0) (nI a) && sv (σ 0 0) (nI b))) dX5_burstSize_6 M_X5_49 Y_X4_hasServers [.int (nI a), .int (nI b)] (c_X4_hasServers (nI a) (nI b) ) (by decide) (Nat.le_of_ble_eq_true rfl) (by decide) sh_0 rfl rfl rfl (Nat.le_of_ble_eq_true rfl) ?_
  refine ev_ifb_ne (tgt := 14) dX5_burstSize_9 (by decide) (fun h9 => ?_) (fun h9 => ?_)
  · refine ev_aload_n dX5_burstSize_14 rfl 0 rfl ?_
    refine ev_getR dX5_burstSize_15 C_X5 L_X5_12 (by decide) (by decide) sh_63 rfl ?_
    refine ev_iload_n dX5_burstSize_18 rfl 1 rfl ?_
    refine ev_iload_n dX5_burstSize_19 rfl 2 rfl ?_
    refine ev_callVi (x := b2i (tb (net (σ 1) a) b)) dX5_burstSize_20 M_X5_53 Y_X4_shareNetwork [.int (nI a), .int (nI b)] (c_X4_shareNetwork a b (by omega) (by omega)) (by decide) (Nat.le_of_ble_eq_true rfl) (by decide) sh_0 rfl rfl rfl (Nat.le_of_ble_eq_true rfl) ?_
    refine ev_ifb_eq (tgt := 29) dX5_burstSize_23 (by decide) (fun h23 => ?_) (fun h23 => ?_)
    · exact absurd (hsh.symm.trans h23) (by decide)
    · refine ev_bipush dX5_burstSize_26 (v := (-2)) (by decide) ?_
      exact ev_ireturn dX5_burstSize_28 rfl rfl (leafI hQ rfl rfl)
  · exact absurd (hs.symm.trans h9) (by decide)

set_option maxRecDepth 100000 in
set_option maxHeartbeats 1000000 in
theorem c_X5_burstSize_ok {l : Launch} {σ : av_S} (a : Nat) (b : Nat) (ha : a < 6) (hb : b < 6) (hs : (sv (σ 0 0) (nI a) && sv (σ 0 0) (nI b)) = true) (hsh : tb (net (σ 1) a) b = false) : av_M l RX5 cX5_burstSize 3 (some .int) 4 [.ref 63, .int (nI a), .int (nI b)] σ (some (.int (cm (σ 1) (σ 2) (σ 3) (σ 6) a + cm (σ 1) (σ 2) (σ 3) (σ 6) b))) σ := by
  intro Q hQ
  show av_Ev l RX5 cX5_burstSize 3 (some .int) av_E0 4 0 [(0, .ref 63), (1, .int (nI a)), (2, .int (nI b))] [] σ Q
  refine ev_aload_n dX5_burstSize_0 rfl 0 rfl ?_
  refine ev_getR dX5_burstSize_1 C_X5 L_X5_12 (by decide) (by decide) sh_63 rfl ?_
  refine ev_iload_n dX5_burstSize_4 rfl 1 rfl ?_
  refine ev_iload_n dX5_burstSize_5 rfl 2 rfl ?_
  refine ev_callVi (x := b2i (sv (σ 0 0) (nI a) && sv (σ 0 0) (nI b))) dX5_burstSize_6 M_X5_49 Y_X4_hasServers [.int (nI a), .int (nI b)] (c_X4_hasServers (nI a) (nI b) ) (by decide) (Nat.le_of_ble_eq_true rfl) (by decide) sh_0 rfl rfl rfl (Nat.le_of_ble_eq_true rfl) ?_
  refine ev_ifb_ne (tgt := 14) dX5_burstSize_9 (by decide) (fun h9 => ?_) (fun h9 => ?_)
  · refine ev_aload_n dX5_burstSize_14 rfl 0 rfl ?_
    refine ev_getR dX5_burstSize_15 C_X5 L_X5_12 (by decide) (by decide) sh_63 rfl ?_
    refine ev_iload_n dX5_burstSize_18 rfl 1 rfl ?_
    refine ev_iload_n dX5_burstSize_19 rfl 2 rfl ?_
    refine ev_callVi (x := b2i (tb (net (σ 1) a) b)) dX5_burstSize_20 M_X5_53 Y_X4_shareNetwork [.int (nI a), .int (nI b)] (c_X4_shareNetwork a b (by omega) (by omega)) (by decide) (Nat.le_of_ble_eq_true rfl) (by decide) sh_0 rfl rfl rfl (Nat.le_of_ble_eq_true rfl) ?_
    refine ev_ifb_eq (tgt := 29) dX5_burstSize_23 (by decide) (fun h23 => ?_) (fun h23 => ?_)
    · refine ev_aload_n dX5_burstSize_29 rfl 0 rfl ?_
      refine ev_getR dX5_burstSize_30 C_X5 L_X5_12 (by decide) (by decide) sh_63 rfl ?_
      refine ev_iload_n dX5_burstSize_33 rfl 1 rfl ?_
      refine ev_callVi (x := cm (σ 1) (σ 2) (σ 3) (σ 6) a) dX5_burstSize_34 M_X5_211 Y_X4_countMessages [.int (nI a)] (c_X4_countMessages a (by omega)) (by decide) (Nat.le_of_ble_eq_true rfl) (by decide) sh_0 rfl rfl rfl (Nat.le_of_ble_eq_true rfl) ?_
      refine ev_aload_n dX5_burstSize_37 rfl 0 rfl ?_
      refine ev_getR dX5_burstSize_38 C_X5 L_X5_12 (by decide) (by decide) sh_63 rfl ?_
      refine ev_iload_n dX5_burstSize_41 rfl 2 rfl ?_
      refine ev_callVi (x := cm (σ 1) (σ 2) (σ 3) (σ 6) b) dX5_burstSize_42 M_X5_211 Y_X4_countMessages [.int (nI b)] (c_X4_countMessages b (by omega)) (by decide) (Nat.le_of_ble_eq_true rfl) (by decide) sh_0 rfl rfl rfl (Nat.le_of_ble_eq_true rfl) ?_
      refine ev_iadd dX5_burstSize_45 ?_
      exact ev_ireturn dX5_burstSize_46 rfl rfl (leafI hQ (by first | rfl | (simp [h9, h23]; done)) rfl)
    · exact absurd (hsh.symm.trans h23) (by decide)
  · exact absurd (hs.symm.trans h9) (by decide)

set_option maxRecDepth 100000 in
set_option maxHeartbeats 1000000 in
theorem c_X5_killsIfConnected_bad {l : Launch} {σ : av_S} (x : Int32) (y : Int32) (hx : (sv (σ 0 0) x && sv (σ 0 0) y) = false) : av_M l RX5 cX5_killsIfConnected 3 (some .int) 2 [.ref 63, .int x, .int y] σ (some (.int (-1))) σ := by
  intro Q hQ
  show av_Ev l RX5 cX5_killsIfConnected 3 (some .int) av_E0 2 0 [(0, .ref 63), (1, .int x), (2, .int y)] [] σ Q
  refine ev_aload_n dX5_killsIfConnected_0 rfl 0 rfl ?_
  refine ev_getR dX5_killsIfConnected_1 C_X5 L_X5_12 (by decide) (by decide) sh_63 rfl ?_
  refine ev_iload_n dX5_killsIfConnected_4 rfl 1 rfl ?_
  refine ev_iload_n dX5_killsIfConnected_5 rfl 2 rfl ?_
  refine ev_callVi (x := b2i (sv (σ 0 0) x && sv (σ 0 0) y)) dX5_killsIfConnected_6 M_X5_49 Y_X4_hasServers [.int x, .int y] (c_X4_hasServers x y ) (by decide) (Nat.le_of_ble_eq_true rfl) (by decide) sh_0 rfl rfl rfl (Nat.le_of_ble_eq_true rfl) ?_
  refine ev_ifb_ne (tgt := 14) dX5_killsIfConnected_9 (by decide) (fun h9 => ?_) (fun h9 => ?_)
  · exact absurd hx (by simp [h9])
  · refine ev_iconst dX5_killsIfConnected_12 (v := (-1)) (by decide) ?_
    exact ev_ireturn dX5_killsIfConnected_13 rfl rfl (leafI hQ rfl rfl)

set_option maxRecDepth 100000 in
set_option maxHeartbeats 1000000 in
theorem c_X5_killsIfConnected_st {l : Launch} {σ : av_S} (a : Nat) (b : Nat) (ha : a < 6) (hb : b < 6) (hs : (sv (σ 0 0) (nI a) && sv (σ 0 0) (nI b)) = true) (hsh : tb (net (σ 1) a) b = true) : av_M l RX5 cX5_killsIfConnected 3 (some .int) 4 [.ref 63, .int (nI a), .int (nI b)] σ (some (.int (-2))) σ := by
  intro Q hQ
  show av_Ev l RX5 cX5_killsIfConnected 3 (some .int) av_E0 4 0 [(0, .ref 63), (1, .int (nI a)), (2, .int (nI b))] [] σ Q
  refine ev_aload_n dX5_killsIfConnected_0 rfl 0 rfl ?_
  refine ev_getR dX5_killsIfConnected_1 C_X5 L_X5_12 (by decide) (by decide) sh_63 rfl ?_
  refine ev_iload_n dX5_killsIfConnected_4 rfl 1 rfl ?_
  refine ev_iload_n dX5_killsIfConnected_5 rfl 2 rfl ?_
  refine ev_callVi (x := b2i (sv (σ 0 0) (nI a) && sv (σ 0 0) (nI b))) dX5_killsIfConnected_6 M_X5_49 Y_X4_hasServers [.int (nI a), .int (nI b)] (c_X4_hasServers (nI a) (nI b) ) (by decide) (Nat.le_of_ble_eq_true rfl) (by decide) sh_0 rfl rfl rfl (Nat.le_of_ble_eq_true rfl) ?_
  refine ev_ifb_ne (tgt := 14) dX5_killsIfConnected_9 (by decide) (fun h9 => ?_) (fun h9 => ?_)
  · refine ev_aload_n dX5_killsIfConnected_14 rfl 0 rfl ?_
    refine ev_getR dX5_killsIfConnected_15 C_X5 L_X5_12 (by decide) (by decide) sh_63 rfl ?_
    refine ev_iload_n dX5_killsIfConnected_18 rfl 1 rfl ?_
    refine ev_iload_n dX5_killsIfConnected_19 rfl 2 rfl ?_
    refine ev_callVi (x := b2i (tb (net (σ 1) a) b)) dX5_killsIfConnected_20 M_X5_53 Y_X4_shareNetwork [.int (nI a), .int (nI b)] (c_X4_shareNetwork a b (by omega) (by omega)) (by decide) (Nat.le_of_ble_eq_true rfl) (by decide) sh_0 rfl rfl rfl (Nat.le_of_ble_eq_true rfl) ?_
    refine ev_ifb_eq (tgt := 29) dX5_killsIfConnected_23 (by decide) (fun h23 => ?_) (fun h23 => ?_)
    · exact absurd (hsh.symm.trans h23) (by decide)
    · refine ev_bipush dX5_killsIfConnected_26 (v := (-2)) (by decide) ?_
      exact ev_ireturn dX5_killsIfConnected_28 rfl rfl (leafI hQ rfl rfl)
  · exact absurd (hs.symm.trans h9) (by decide)

set_option maxRecDepth 100000 in
set_option maxHeartbeats 1000000 in
theorem c_X5_killsIfConnected_ok {l : Launch} {σ : av_S} (a : Nat) (b : Nat) (ha : a < 6) (hb : b < 6) (hs : (sv (σ 0 0) (nI a) && sv (σ 0 0) (nI b)) = true) (hsh : tb (net (σ 1) a) b = false) : av_M l RX5 cX5_killsIfConnected 3 (some .int) 5 [.ref 63, .int (nI a), .int (nI b)] σ (some (.int (nI (ck (σ 2) (net (σ 1) a) (net (σ 1) b))))) σ := by
  intro Q hQ
  show av_Ev l RX5 cX5_killsIfConnected 3 (some .int) av_E0 5 0 [(0, .ref 63), (1, .int (nI a)), (2, .int (nI b))] [] σ Q
  refine ev_aload_n dX5_killsIfConnected_0 rfl 0 rfl ?_
  refine ev_getR dX5_killsIfConnected_1 C_X5 L_X5_12 (by decide) (by decide) sh_63 rfl ?_
  refine ev_iload_n dX5_killsIfConnected_4 rfl 1 rfl ?_
  refine ev_iload_n dX5_killsIfConnected_5 rfl 2 rfl ?_
  refine ev_callVi (x := b2i (sv (σ 0 0) (nI a) && sv (σ 0 0) (nI b))) dX5_killsIfConnected_6 M_X5_49 Y_X4_hasServers [.int (nI a), .int (nI b)] (c_X4_hasServers (nI a) (nI b) ) (by decide) (Nat.le_of_ble_eq_true rfl) (by decide) sh_0 rfl rfl rfl (Nat.le_of_ble_eq_true rfl) ?_
  refine ev_ifb_ne (tgt := 14) dX5_killsIfConnected_9 (by decide) (fun h9 => ?_) (fun h9 => ?_)
  · refine ev_aload_n dX5_killsIfConnected_14 rfl 0 rfl ?_
    refine ev_getR dX5_killsIfConnected_15 C_X5 L_X5_12 (by decide) (by decide) sh_63 rfl ?_
    refine ev_iload_n dX5_killsIfConnected_18 rfl 1 rfl ?_
    refine ev_iload_n dX5_killsIfConnected_19 rfl 2 rfl ?_
    refine ev_callVi (x := b2i (tb (net (σ 1) a) b)) dX5_killsIfConnected_20 M_X5_53 Y_X4_shareNetwork [.int (nI a), .int (nI b)] (c_X4_shareNetwork a b (by omega) (by omega)) (by decide) (Nat.le_of_ble_eq_true rfl) (by decide) sh_0 rfl rfl rfl (Nat.le_of_ble_eq_true rfl) ?_
    refine ev_ifb_eq (tgt := 29) dX5_killsIfConnected_23 (by decide) (fun h23 => ?_) (fun h23 => ?_)
    · refine ev_aload_n dX5_killsIfConnected_29 rfl 0 rfl ?_
      refine ev_getR dX5_killsIfConnected_30 C_X5 L_X5_12 (by decide) (by decide) sh_63 rfl ?_
      refine ev_iload_n dX5_killsIfConnected_33 rfl 1 rfl ?_
      refine ev_iload_n dX5_killsIfConnected_34 rfl 2 rfl ?_
      refine ev_callSi (x := nI (ck (σ 2) (net (σ 1) a) (net (σ 1) b))) dX5_killsIfConnected_35 (Or.inl M_X5_56) Y_X1_countKills [.ref 0, .int (nI a), .int (nI b)] (c_X1_countKills a b (by omega) (by omega)) (by decide) (Nat.le_of_ble_eq_true rfl) rfl rfl (Nat.le_of_ble_eq_true rfl) ?_
      exact ev_ireturn dX5_killsIfConnected_38 rfl rfl (leafI hQ rfl rfl)
    · exact absurd (hsh.symm.trans h23) (by decide)
  · exact absurd (hs.symm.trans h9) (by decide)

set_option maxRecDepth 100000 in
set_option maxHeartbeats 1000000 in
theorem c_X5_lostIfDisconnected_bad {l : Launch} {σ : av_S} (x : Int32) (y : Int32) (hx : (sv (σ 0 0) x && sv (σ 0 0) y) = false) : av_M l RX5 cX5_lostIfDisconnected 5 (some .int) 2 [.ref 63, .int x, .int y] σ (some (.int (-1))) σ := by
  intro Q hQ
  show av_Ev l RX5 cX5_lostIfDisconnected 5 (some .int) av_E0 2 0 [(0, .ref 63), (1, .int x), (2, .int y)] [] σ Q
  refine ev_aload_n dX5_lostIfDisconnected_0 rfl 0 rfl ?_
  refine ev_getR dX5_lostIfDisconnected_1 C_X5 L_X5_12 (by decide) (by decide) sh_63 rfl ?_
  refine ev_iload_n dX5_lostIfDisconnected_4 rfl 1 rfl ?_
  refine ev_iload_n dX5_lostIfDisconnected_5 rfl 2 rfl ?_
  refine ev_callVi (x := b2i (sv (σ 0 0) x && sv (σ 0 0) y)) dX5_lostIfDisconnected_6 M_X5_49 Y_X4_hasServers [.int x, .int y] (c_X4_hasServers x y ) (by decide) (Nat.le_of_ble_eq_true rfl) (by decide) sh_0 rfl rfl rfl (Nat.le_of_ble_eq_true rfl) ?_
  refine ev_ifb_ne (tgt := 14) dX5_lostIfDisconnected_9 (by decide) (fun h9 => ?_) (fun h9 => ?_)
  · exact absurd hx (by simp [h9])
  · refine ev_iconst dX5_lostIfDisconnected_12 (v := (-1)) (by decide) ?_
    exact ev_ireturn dX5_lostIfDisconnected_13 rfl rfl (leafI hQ rfl rfl)

set_option maxRecDepth 100000 in
set_option maxHeartbeats 1000000 in
theorem c_X5_lost_st {l : Launch} {σ : av_S} (a : Nat) (b : Nat) (ha : a < 6) (hb : b < 6) (hs : (sv (σ 0 0) (nI a) && sv (σ 0 0) (nI b)) = true) (hsh : tb (σ 1 a) b = false) : av_M l RX5 cX5_lostIfDisconnected 5 (some .int) 2 [.ref 63, .int (nI a), .int (nI b)] σ (some (.int (-2))) σ := by
  intro Q hQ
  show av_Ev l RX5 cX5_lostIfDisconnected 5 (some .int) av_E0 2 0 [(0, .ref 63), (1, .int (nI a)), (2, .int (nI b))] [] σ Q
  refine ev_aload_n dX5_lostIfDisconnected_0 rfl 0 rfl ?_
  refine ev_getR dX5_lostIfDisconnected_1 C_X5 L_X5_12 (by decide) (by decide) sh_63 rfl ?_
  refine ev_iload_n dX5_lostIfDisconnected_4 rfl 1 rfl ?_
  refine ev_iload_n dX5_lostIfDisconnected_5 rfl 2 rfl ?_
  refine ev_callVi (x := b2i (sv (σ 0 0) (nI a) && sv (σ 0 0) (nI b))) dX5_lostIfDisconnected_6 M_X5_49 Y_X4_hasServers [.int (nI a), .int (nI b)] (c_X4_hasServers (nI a) (nI b) ) (by decide) (Nat.le_of_ble_eq_true rfl) (by decide) sh_0 rfl rfl rfl (Nat.le_of_ble_eq_true rfl) ?_
  refine ev_ifb_ne (tgt := 14) dX5_lostIfDisconnected_9 (by decide) (fun h9 => ?_) (fun h9 => ?_)
  · refine ev_aload_n dX5_lostIfDisconnected_14 rfl 0 rfl ?_
    refine ev_getR dX5_lostIfDisconnected_15 C_X5 L_X5_12 (by decide) (by decide) sh_63 rfl ?_
    refine ev_iload_n dX5_lostIfDisconnected_18 rfl 1 rfl ?_
    refine ev_iload_n dX5_lostIfDisconnected_19 rfl 2 rfl ?_
    refine ev_callVi (x := b2i (tb (σ 1 a) b)) dX5_lostIfDisconnected_20 M_X5_73 Y_X4_areLinked [.int (nI a), .int (nI b)] (c_X4_areLinked a b (by omega) (by omega)) (by decide) (Nat.le_of_ble_eq_true rfl) (by decide) sh_0 rfl rfl rfl (Nat.le_of_ble_eq_true rfl) ?_
    refine ev_ifb_ne (tgt := 29) dX5_lostIfDisconnected_23 (by decide) (fun h23 => ?_) (fun h23 => ?_)
    · exact absurd (hsh.symm.trans h23) (by decide)
    · refine ev_bipush dX5_lostIfDisconnected_26 (v := (-2)) (by decide) ?_
      exact ev_ireturn dX5_lostIfDisconnected_28 rfl rfl (leafI hQ rfl rfl)
  · exact absurd (hs.symm.trans h9) (by decide)

set_option maxRecDepth 100000 in
set_option maxHeartbeats 1000000 in
theorem c_X5_lost_ok {l : Launch} {σ : av_S} (a : Nat) (b : Nat) (ha : a < 6) (hb : b < 6) (hs : (sv (σ 0 0) (nI a) && sv (σ 0 0) (nI b)) = true) (hsh : tb (σ 1 a) b = true) : av_M l RX5 cX5_lostIfDisconnected 5 (some .int) 3 [.ref 63, .int (nI a), .int (nI b)] σ (some (.int (nI (cu (σ 2) (net (σ 1) 0)) - nI (cu (σ 2) (net (lkL (σ 1) a b false) 0))))) (av_set σ 1 (lkL (lkL (σ 1) a b false) a b true)) := by
  intro Q hQ
  show av_Ev l RX5 cX5_lostIfDisconnected 5 (some .int) av_E0 3 0 [(0, .ref 63), (1, .int (nI a)), (2, .int (nI b))] [] σ Q
  refine ev_aload_n dX5_lostIfDisconnected_0 rfl 0 rfl ?_
  refine ev_getR dX5_lostIfDisconnected_1 C_X5 L_X5_12 (by decide) (by decide) sh_63 rfl ?_
  refine ev_iload_n dX5_lostIfDisconnected_4 rfl 1 rfl ?_
  refine ev_iload_n dX5_lostIfDisconnected_5 rfl 2 rfl ?_
  refine ev_callVi (x := b2i (sv (σ 0 0) (nI a) && sv (σ 0 0) (nI b))) dX5_lostIfDisconnected_6 M_X5_49 Y_X4_hasServers [.int (nI a), .int (nI b)] (c_X4_hasServers (nI a) (nI b) ) (by decide) (Nat.le_of_ble_eq_true rfl) (by decide) sh_0 rfl rfl rfl (Nat.le_of_ble_eq_true rfl) ?_
  refine ev_ifb_ne (tgt := 14) dX5_lostIfDisconnected_9 (by decide) (fun h9 => ?_) (fun h9 => ?_)
  · refine ev_aload_n dX5_lostIfDisconnected_14 rfl 0 rfl ?_
    refine ev_getR dX5_lostIfDisconnected_15 C_X5 L_X5_12 (by decide) (by decide) sh_63 rfl ?_
    refine ev_iload_n dX5_lostIfDisconnected_18 rfl 1 rfl ?_
    refine ev_iload_n dX5_lostIfDisconnected_19 rfl 2 rfl ?_
    refine ev_callVi (x := b2i (tb (σ 1 a) b)) dX5_lostIfDisconnected_20 M_X5_73 Y_X4_areLinked [.int (nI a), .int (nI b)] (c_X4_areLinked a b (by omega) (by omega)) (by decide) (Nat.le_of_ble_eq_true rfl) (by decide) sh_0 rfl rfl rfl (Nat.le_of_ble_eq_true rfl) ?_
    refine ev_ifb_ne (tgt := 29) dX5_lostIfDisconnected_23 (by decide) (fun h23 => ?_) (fun h23 => ?_)
    · refine ev_aload_n dX5_lostIfDisconnected_29 rfl 0 rfl ?_
      refine ev_getR dX5_lostIfDisconnected_30 C_X5 L_X5_12 (by decide) (by decide) sh_63 rfl ?_
      refine ev_aload_n dX5_lostIfDisconnected_33 rfl 0 rfl ?_
      refine ev_getR dX5_lostIfDisconnected_34 C_X5 L_X5_12 (by decide) (by decide) sh_63 rfl ?_
      refine ev_iconst dX5_lostIfDisconnected_37 (v := nI 0) (by decide) ?_
      refine ev_callVi (x := net (σ 1) 0) dX5_lostIfDisconnected_38 M_X5_79 Y_X4_networkOf [.int (nI 0)] (c_X4_networkOf 0 (by omega)) (by decide) (Nat.le_of_ble_eq_true rfl) (by decide) sh_0 rfl rfl rfl (Nat.le_of_ble_eq_true rfl) ?_
      refine ev_callVi (x := nI (cu (σ 2) (net (σ 1) 0))) dX5_lostIfDisconnected_41 M_X5_37 Y_X4_countUsers [.int (net (σ 1) 0)] (c_X4_countUsers (net (σ 1) 0) ) (by decide) (Nat.le_of_ble_eq_true rfl) (by decide) sh_0 rfl rfl rfl (Nat.le_of_ble_eq_true rfl) ?_
      refine ev_istore_n (lv' := [(3, .int (nI (cu (σ 2) (net (σ 1) 0)))), (0, .ref 63), (1, .int (nI a)), (2, .int (nI b))]) dX5_lostIfDisconnected_44 rfl (by decide) rfl ?_
      refine ev_aload_n dX5_lostIfDisconnected_45 rfl 1 rfl ?_
      refine ev_getR dX5_lostIfDisconnected_46 C_X5 L_X5_12 (by decide) (by decide) sh_63 rfl ?_
      refine ev_iload_n dX5_lostIfDisconnected_49 rfl 2 rfl ?_
      refine ev_iload_n dX5_lostIfDisconnected_50 rfl 3 rfl ?_
      refine ev_callVv (σ' := av_set σ 1 (lkL (σ 1) a b false)) dX5_lostIfDisconnected_51 M_X5_76 Y_X4_unlink [.int (nI a), .int (nI b)] (c_X4_unlink a b (by omega) (by omega)) (by decide) (Nat.le_of_ble_eq_true rfl) (by decide) sh_0 rfl rfl rfl (Nat.le_of_ble_eq_true rfl) ?_
      refine ev_aload_n dX5_lostIfDisconnected_54 rfl 1 rfl ?_
      refine ev_getR dX5_lostIfDisconnected_55 C_X5 L_X5_12 (by decide) (by decide) sh_63 rfl ?_
      refine ev_aload_n dX5_lostIfDisconnected_58 rfl 1 rfl ?_
      refine ev_getR dX5_lostIfDisconnected_59 C_X5 L_X5_12 (by decide) (by decide) sh_63 rfl ?_
      refine ev_iconst dX5_lostIfDisconnected_62 (v := nI 0) (by decide) ?_
      refine ev_callVi (x := net (lkL (σ 1) a b false) 0) dX5_lostIfDisconnected_63 M_X5_79 Y_X4_networkOf [.int (nI 0)] (c_X4_networkOf 0 (by omega)) (by decide) (Nat.le_of_ble_eq_true rfl) (by decide) sh_0 rfl rfl rfl (Nat.le_of_ble_eq_true rfl) ?_
      refine ev_callVi (x := nI (cu (σ 2) (net (lkL (σ 1) a b false) 0))) dX5_lostIfDisconnected_66 M_X5_37 Y_X4_countUsers [.int (net (lkL (σ 1) a b false) 0)] (c_X4_countUsers (net (lkL (σ 1) a b false) 0) ) (by decide) (Nat.le_of_ble_eq_true rfl) (by decide) sh_0 rfl rfl rfl (Nat.le_of_ble_eq_true rfl) ?_
      refine ev_istore (lv' := [(4, .int (nI (cu (σ 2) (net (lkL (σ 1) a b false) 0)))), (3, .int (nI (cu (σ 2) (net (σ 1) 0)))), (0, .ref 63), (1, .int (nI a)), (2, .int (nI b))]) dX5_lostIfDisconnected_69 (by decide) rfl ?_
      refine ev_aload_n dX5_lostIfDisconnected_71 rfl 2 rfl ?_
      refine ev_getR dX5_lostIfDisconnected_72 C_X5 L_X5_12 (by decide) (by decide) sh_63 rfl ?_
      refine ev_iload_n dX5_lostIfDisconnected_75 rfl 3 rfl ?_
      refine ev_iload_n dX5_lostIfDisconnected_76 rfl 4 rfl ?_
      refine ev_callVv dX5_lostIfDisconnected_77 M_X5_69 Y_X4_link [.int (nI a), .int (nI b)] (c_X4_link a b (by omega) (by omega)) (by decide) (Nat.le_of_ble_eq_true rfl) (by decide) sh_0 rfl rfl rfl (Nat.le_of_ble_eq_true rfl) ?_
      refine ev_st (σ' := av_set σ 1 (lkL (lkL (σ 1) a b false) a b true)) (by first | rfl | (funext a; by_cases q1 : a = 1; (next => subst q1; rfl); simp only [av_set, q1, if_false]) | exact av_set_set _ _ _ _ | (funext a; unfold av_set; (repeat' split) <;> first | rfl | (exfalso; omega)) | (funext a; simp only [av_set, cpS]; (repeat' split) <;> first | rfl | (exfalso; omega))) ?_
      refine ev_iload_n dX5_lostIfDisconnected_80 rfl 1 rfl ?_
      refine ev_iload dX5_lostIfDisconnected_81 0 rfl ?_
      refine ev_isub dX5_lostIfDisconnected_83 ?_
      exact ev_ireturn dX5_lostIfDisconnected_84 rfl rfl (leafI hQ (by first | rfl | (simp [h9, h23]; done)) rfl)
    · exact absurd (hsh.symm.trans h23) (by decide)
  · exact absurd (hs.symm.trans h9) (by decide)

set_option maxRecDepth 100000 in
set_option maxHeartbeats 1000000 in
theorem c_X5_undo_st {l : Launch} {σ : av_S}  (hcc : σ 64 2 = nI 0) : av_M l RX5 cX5_undo 1 (some .int) 0 [.ref 63] σ (some (.int (-2))) σ := by
  intro Q hQ
  show av_Ev l RX5 cX5_undo 1 (some .int) av_E0 0 0 [(0, .ref 63)] [] σ Q
  refine ev_aload_n dX5_undo_0 rfl 0 rfl ?_
  refine ev_getR dX5_undo_1 C_X5 L_X5_19 (by decide) (by decide) sh_63 rfl ?_
  refine ev_getI dX5_undo_4 C_X0 L_X5_223 (by decide) (by decide) sh_64 rfl ?_
  refine ev_top (v := nI 0) hcc ?_
  refine ev_nif_ne (tgt := 13) dX5_undo_7 (by decide) (by omega) (fun h7 => ?_) (fun h7 => ?_)
  · exact absurd h7 (by omega)
  · refine ev_bipush dX5_undo_10 (v := (-2)) (by decide) ?_
    exact ev_ireturn dX5_undo_12 rfl rfl (leafI hQ rfl rfl)

set_option maxRecDepth 100000 in
set_option maxHeartbeats 1000000 in
theorem c_X5_undo_ok {l : Launch} {σ : av_S} (j : Nat) (c : Nat) (hj : σ 64 1 = nI j) (hj8 : j < 8) (hcc : σ 64 2 = nI c) (hc1 : 1 ≤ c) (hc8 : c ≤ 8) : av_M l RX5 cX5_undo 1 (some .int) 3 [.ref 63] σ (some (.int (nI (c - 1)))) (htake σ j c) := by
  intro Q hQ
  show av_Ev l RX5 cX5_undo 1 (some .int) av_E0 3 0 [(0, .ref 63)] [] σ Q
  refine ev_aload_n dX5_undo_0 rfl 0 rfl ?_
  refine ev_getR dX5_undo_1 C_X5 L_X5_19 (by decide) (by decide) sh_63 rfl ?_
  refine ev_getI dX5_undo_4 C_X0 L_X5_223 (by decide) (by decide) sh_64 rfl ?_
  refine ev_top (v := nI c) hcc ?_
  refine ev_nif_ne (tgt := 13) dX5_undo_7 (by decide) (by omega) (fun h7 => ?_) (fun h7 => ?_)
  · refine ev_aload_n dX5_undo_13 rfl 0 rfl ?_
    refine ev_getR dX5_undo_14 C_X5 L_X5_19 (by decide) (by decide) sh_63 rfl ?_
    refine ev_aload_n dX5_undo_17 rfl 0 rfl ?_
    refine ev_getR dX5_undo_18 C_X5 L_X5_12 (by decide) (by decide) sh_63 rfl ?_
    refine ev_callVv (σ' := htake σ j c) dX5_undo_21 M_X5_226 Y_X0_takeBack [.ref 0] (c_X0_takeBack j c (by first | exact hj | omega) (by first | exact hj8 | omega) (by first | exact hcc | omega) (by first | exact hc1 | omega) (by first | exact hc8 | omega)) (by decide) (Nat.le_of_ble_eq_true rfl) (by decide) sh_64 rfl rfl rfl (Nat.le_of_ble_eq_true rfl) ?_
    refine ev_aload_n dX5_undo_24 rfl 0 rfl ?_
    refine ev_getR dX5_undo_25 C_X5 L_X5_19 (by decide) (by decide) sh_63 rfl ?_
    refine ev_getI dX5_undo_28 C_X0 L_X5_223 (by decide) (by decide) sh_64 rfl ?_
    refine ev_top (v := nI (c - 1)) (by first | rfl | (simp only [av_set, cpS]; (repeat' split) <;> first | rfl | (exfalso; omega))) ?_
    exact ev_ireturn dX5_undo_31 rfl rfl (leafI hQ rfl rfl)
  · exact absurd h7 (by omega)

