/-! ===== the class's State: contracts ===== -/
set_option maxRecDepth 100000 in
set_option maxHeartbeats 1000000 in
theorem c_X5_hasBit {l : Launch} {σ : av_S} (S : Int32) (k : Nat) (hk : k < 32) : av_M l RX5 cX5_hasBit 2 (some .boolean) 0 [.int S, .int (nI k)] σ (some (.int (b2i (tb S k)))) σ := by
  intro Q hQ
  show av_Ev l RX5 cX5_hasBit 2 (some .boolean) av_E0 0 0 [(0, .int S), (1, .int (nI k))] [] σ Q
  refine ev_iload_n dX5_hasBit_0 rfl 0 rfl ?_
  refine ev_iload_n dX5_hasBit_1 rfl 1 rfl ?_
  refine ev_ishr dX5_hasBit_2 ?_
  refine ev_iconst dX5_hasBit_3 (v := nI 1) (by decide) ?_
  refine ev_iand dX5_hasBit_4 ?_
  refine ev_if_eq (tgt := 12) dX5_hasBit_5 (by decide) (fun h5 => ?_) (fun h5 => ?_)
  · refine ev_iconst dX5_hasBit_12 (v := nI 0) (by decide) ?_
    exact ev_ireturn dX5_hasBit_13 rfl (by decide) (leafI hQ (by first | (rw [hb_t (by omega) (by assumption)]; rfl) | (rw [hb_f (by omega) (by assumption)]; rfl)) rfl)
  · refine ev_iconst dX5_hasBit_8 (v := nI 1) (by decide) ?_
    refine ev_goto (tgt := 13) dX5_hasBit_9 (by decide) ?_
    exact ev_ireturn dX5_hasBit_13 rfl (by decide) (leafI hQ (by first | (rw [hb_t (by omega) (by assumption)]; rfl) | (rw [hb_f (by omega) (by assumption)]; rfl)) rfl)

set_option maxRecDepth 100000 in
set_option maxHeartbeats 1000000 in
theorem c_X5_withBit {l : Launch} {σ : av_S} (S : Int32) (k : Nat) (p : Bool) (hk : k < 32) : av_M l RX5 cX5_withBit 3 (some .int) 0 [.int S, .int (nI k), .int (b2i p)] σ (some (.int (wb S k p))) σ := by
  intro Q hQ
  show av_Ev l RX5 cX5_withBit 3 (some .int) av_E0 0 0 [(0, .int S), (1, .int (nI k)), (2, .int (b2i p))] [] σ Q
  refine ev_iload_n dX5_withBit_0 rfl 2 rfl ?_
  refine ev_ifb_eq (tgt := 12) dX5_withBit_1 (by decide) (fun h1 => ?_) (fun h1 => ?_)
  · refine ev_iload_n dX5_withBit_12 rfl 0 rfl ?_
    refine ev_iconst dX5_withBit_13 (v := nI 1) (by decide) ?_
    refine ev_iload_n dX5_withBit_14 rfl 1 rfl ?_
    refine ev_ishl dX5_withBit_15 ?_
    refine ev_top (v := bt k) rfl ?_
    refine ev_iconst dX5_withBit_16 (v := (-1)) (by decide) ?_
    refine ev_ixor dX5_withBit_17 ?_
    refine ev_iand dX5_withBit_18 ?_
    exact ev_ireturn dX5_withBit_19 rfl rfl (leafI hQ (by simp [wb, h1]) rfl)
  · refine ev_iload_n dX5_withBit_4 rfl 0 rfl ?_
    refine ev_iconst dX5_withBit_5 (v := nI 1) (by decide) ?_
    refine ev_iload_n dX5_withBit_6 rfl 1 rfl ?_
    refine ev_ishl dX5_withBit_7 ?_
    refine ev_top (v := bt k) rfl ?_
    refine ev_ior dX5_withBit_8 ?_
    refine ev_goto (tgt := 19) dX5_withBit_9 (by decide) ?_
    exact ev_ireturn dX5_withBit_19 rfl rfl (leafI hQ (by simp [wb, h1]) rfl)

set_option maxRecDepth 100000 in
set_option maxHeartbeats 1000000 in
theorem c_X5_isNick {l : Launch} {σ : av_S} (x : Int32)  : av_M l RX5 cX5_isNick 1 (some .boolean) 0 [.int x] σ (some (.int (b2i (sv (nI 10) x)))) σ := by
  intro Q hQ
  show av_Ev l RX5 cX5_isNick 1 (some .boolean) av_E0 0 0 [(0, .int x)] [] σ Q
  refine ev_iload_n dX5_isNick_0 rfl 0 rfl ?_
  refine ev_if_lt (tgt := 14) dX5_isNick_1 (by decide) (fun h1 => ?_) (fun h1 => ?_)
  · refine ev_iconst dX5_isNick_14 (v := nI 0) (by decide) ?_
    exact ev_ireturn dX5_isNick_15 rfl (by decide) (leafI hQ (by simp [b2i, sv, h1]) rfl)
  · refine ev_iload_n dX5_isNick_4 rfl 0 rfl ?_
    refine ev_bipush dX5_isNick_5 (v := nI 10) (by decide) ?_
    refine ev_icmp_ge (tgt := 14) dX5_isNick_7 (by decide) (fun h7 => ?_) (fun h7 => ?_)
    · refine ev_iconst dX5_isNick_14 (v := nI 0) (by decide) ?_
      exact ev_ireturn dX5_isNick_15 rfl (by decide) (leafI hQ (by simp [b2i, sv, h1, h7]) rfl)
    · refine ev_iconst dX5_isNick_10 (v := nI 1) (by decide) ?_
      refine ev_goto (tgt := 15) dX5_isNick_11 (by decide) ?_
      exact ev_ireturn dX5_isNick_15 rfl (by decide) (leafI hQ (by simp [b2i, sv, h1, h7]) rfl)

set_option maxRecDepth 100000 in
set_option maxHeartbeats 1000000 in
theorem c_X5_isChannel {l : Launch} {σ : av_S} (x : Int32)  : av_M l RX5 cX5_isChannel 1 (some .boolean) 0 [.int x] σ (some (.int (b2i (sv (nI 4) x)))) σ := by
  intro Q hQ
  show av_Ev l RX5 cX5_isChannel 1 (some .boolean) av_E0 0 0 [(0, .int x)] [] σ Q
  refine ev_iload_n dX5_isChannel_0 rfl 0 rfl ?_
  refine ev_if_lt (tgt := 13) dX5_isChannel_1 (by decide) (fun h1 => ?_) (fun h1 => ?_)
  · refine ev_iconst dX5_isChannel_13 (v := nI 0) (by decide) ?_
    exact ev_ireturn dX5_isChannel_14 rfl (by decide) (leafI hQ (by simp [b2i, sv, h1]) rfl)
  · refine ev_iload_n dX5_isChannel_4 rfl 0 rfl ?_
    refine ev_iconst dX5_isChannel_5 (v := nI 4) (by decide) ?_
    refine ev_icmp_ge (tgt := 13) dX5_isChannel_6 (by decide) (fun h6 => ?_) (fun h6 => ?_)
    · refine ev_iconst dX5_isChannel_13 (v := nI 0) (by decide) ?_
      exact ev_ireturn dX5_isChannel_14 rfl (by decide) (leafI hQ (by simp [b2i, sv, h1, h6]) rfl)
    · refine ev_iconst dX5_isChannel_9 (v := nI 1) (by decide) ?_
      refine ev_goto (tgt := 14) dX5_isChannel_10 (by decide) ?_
      exact ev_ireturn dX5_isChannel_14 rfl (by decide) (leafI hQ (by simp [b2i, sv, h1, h6]) rfl)

set_option maxRecDepth 100000 in
set_option maxHeartbeats 1000000 in
theorem c_X4_userCell {l : Launch} {σ : av_S} (s : Nat) (n : Nat)  : av_M l RX4 cX4_userCell 2 (some .int) 0 [.int (nI s), .int (nI n)] σ (some (.int (nI (s * 10 + n)))) σ := by
  intro Q hQ
  show av_Ev l RX4 cX4_userCell 2 (some .int) av_E0 0 0 [(0, .int (nI s)), (1, .int (nI n))] [] σ Q
  refine ev_iload_n dX4_userCell_0 rfl 0 rfl ?_
  refine ev_bipush dX4_userCell_1 (v := nI 10) (by decide) ?_
  refine ev_imul dX4_userCell_3 ?_
  refine ev_top (v := nI (s * 10)) (pk_mul _ _) ?_
  refine ev_iload_n dX4_userCell_4 rfl 1 rfl ?_
  refine ev_iadd dX4_userCell_5 ?_
  refine ev_top (v := nI (s * 10 + n)) (nI_add _ _) ?_
  exact ev_ireturn dX4_userCell_6 rfl rfl (leafI hQ rfl rfl)

set_option maxRecDepth 100000 in
set_option maxHeartbeats 1000000 in
theorem c_X4_channelCell {l : Launch} {σ : av_S} (s : Nat) (ch : Nat)  : av_M l RX4 cX4_channelCell 2 (some .int) 0 [.int (nI s), .int (nI ch)] σ (some (.int (nI (s * 4 + ch)))) σ := by
  intro Q hQ
  show av_Ev l RX4 cX4_channelCell 2 (some .int) av_E0 0 0 [(0, .int (nI s)), (1, .int (nI ch))] [] σ Q
  refine ev_iload_n dX4_channelCell_0 rfl 0 rfl ?_
  refine ev_iconst dX4_channelCell_1 (v := nI 4) (by decide) ?_
  refine ev_imul dX4_channelCell_2 ?_
  refine ev_top (v := nI (s * 4)) (pk_mul _ _) ?_
  refine ev_iload_n dX4_channelCell_3 rfl 1 rfl ?_
  refine ev_iadd dX4_channelCell_4 ?_
  refine ev_top (v := nI (s * 4 + ch)) (nI_add _ _) ?_
  exact ev_ireturn dX4_channelCell_5 rfl rfl (leafI hQ rfl rfl)

set_option maxRecDepth 100000 in
set_option maxHeartbeats 1000000 in
theorem c_X4_hasServer {l : Launch} {σ : av_S} (x : Int32)  : av_M l RX4 cX4_hasServer 2 (some .boolean) 0 [.ref 0, .int x] σ (some (.int (b2i (sv (σ 0 0) x)))) σ := by
  intro Q hQ
  show av_Ev l RX4 cX4_hasServer 2 (some .boolean) av_E0 0 0 [(0, .ref 0), (1, .int x)] [] σ Q
  refine ev_iload_n dX4_hasServer_0 rfl 1 rfl ?_
  refine ev_if_lt (tgt := 16) dX4_hasServer_1 (by decide) (fun h1 => ?_) (fun h1 => ?_)
  · refine ev_iconst dX4_hasServer_16 (v := nI 0) (by decide) ?_
    exact ev_ireturn dX4_hasServer_17 rfl (by decide) (leafI hQ (by simp [b2i, sv, h1]) rfl)
  · refine ev_iload_n dX4_hasServer_4 rfl 1 rfl ?_
    refine ev_aload_n dX4_hasServer_5 rfl 0 rfl ?_
    refine ev_getI dX4_hasServer_6 C_X4 L_X4_9 (by decide) (by decide) sh_0 rfl ?_
    refine ev_icmp_ge (tgt := 16) dX4_hasServer_9 (by decide) (fun h9 => ?_) (fun h9 => ?_)
    · refine ev_iconst dX4_hasServer_16 (v := nI 0) (by decide) ?_
      exact ev_ireturn dX4_hasServer_17 rfl (by decide) (leafI hQ (by simp [b2i, sv, h1, h9]) rfl)
    · refine ev_iconst dX4_hasServer_12 (v := nI 1) (by decide) ?_
      refine ev_goto (tgt := 17) dX4_hasServer_13 (by decide) ?_
      exact ev_ireturn dX4_hasServer_17 rfl (by decide) (leafI hQ (by simp [b2i, sv, h1, h9]) rfl)

set_option maxRecDepth 100000 in
set_option maxHeartbeats 1000000 in
theorem c_X4_hasServers {l : Launch} {σ : av_S} (x : Int32) (y : Int32)  : av_M l RX4 cX4_hasServers 3 (some .boolean) 1 [.ref 0, .int x, .int y] σ (some (.int (b2i (sv (σ 0 0) x && sv (σ 0 0) y)))) σ := by
  intro Q hQ
  show av_Ev l RX4 cX4_hasServers 3 (some .boolean) av_E0 1 0 [(0, .ref 0), (1, .int x), (2, .int y)] [] σ Q
  refine ev_aload_n dX4_hasServers_0 rfl 0 rfl ?_
  refine ev_iload_n dX4_hasServers_1 rfl 1 rfl ?_
  refine ev_callVi (x := b2i (sv (σ 0 0) x)) dX4_hasServers_2 M_X4_55 Y_X4_hasServer [.int x] (c_X4_hasServer x ) (by decide) (Nat.le_of_ble_eq_true rfl) (by decide) sh_0 rfl rfl rfl (Nat.le_of_ble_eq_true rfl) ?_
  refine ev_ifb_eq (tgt := 20) dX4_hasServers_5 (by decide) (fun h5 => ?_) (fun h5 => ?_)
  · refine ev_iconst dX4_hasServers_20 (v := nI 0) (by decide) ?_
    exact ev_ireturn dX4_hasServers_21 rfl (by decide) (leafI hQ (by simp [b2i, h5]) rfl)
  · refine ev_aload_n dX4_hasServers_8 rfl 0 rfl ?_
    refine ev_iload_n dX4_hasServers_9 rfl 2 rfl ?_
    refine ev_callVi (x := b2i (sv (σ 0 0) y)) dX4_hasServers_10 M_X4_55 Y_X4_hasServer [.int y] (c_X4_hasServer y ) (by decide) (Nat.le_of_ble_eq_true rfl) (by decide) sh_0 rfl rfl rfl (Nat.le_of_ble_eq_true rfl) ?_
    refine ev_ifb_eq (tgt := 20) dX4_hasServers_13 (by decide) (fun h13 => ?_) (fun h13 => ?_)
    · refine ev_iconst dX4_hasServers_20 (v := nI 0) (by decide) ?_
      exact ev_ireturn dX4_hasServers_21 rfl (by decide) (leafI hQ (by simp [b2i, h5, h13]) rfl)
    · refine ev_iconst dX4_hasServers_16 (v := nI 1) (by decide) ?_
      refine ev_goto (tgt := 21) dX4_hasServers_17 (by decide) ?_
      exact ev_ireturn dX4_hasServers_21 rfl (by decide) (leafI hQ (by simp [b2i, h5, h13]) rfl)

set_option maxRecDepth 100000 in
set_option maxHeartbeats 1000000 in
theorem c_X4_areLinked {l : Launch} {σ : av_S} (a : Nat) (b : Nat) (ha : a < 6) (hb : b < 32) : av_M l RX4 cX4_areLinked 3 (some .boolean) 1 [.ref 0, .int (nI a), .int (nI b)] σ (some (.int (b2i (tb (σ 1 a) b)))) σ := by
  intro Q hQ
  show av_Ev l RX4 cX4_areLinked 3 (some .boolean) av_E0 1 0 [(0, .ref 0), (1, .int (nI a)), (2, .int (nI b))] [] σ Q
  refine ev_aload_n dX4_areLinked_0 rfl 0 rfl ?_
  refine ev_getR dX4_areLinked_1 C_X4 L_X4_24 (by decide) (by decide) sh_0 rfl ?_
  refine ev_iload_n dX4_areLinked_4 rfl 1 rfl ?_
  refine ev_iald (e := a) (v := σ 1 a) dX4_areLinked_5 (by decide) sh_1 (by omega) (by decide) rfl ?_
  refine ev_iload_n dX4_areLinked_6 rfl 2 rfl ?_
  refine ev_callSi (x := b2i (tb (σ 1 a) b)) dX4_areLinked_7 (Or.inr M_X4_59) Y_X5_hasBit [.int (σ 1 a), .int (nI b)] (c_X5_hasBit (σ 1 a) b (by omega)) (by decide) (Nat.le_of_ble_eq_true rfl) rfl rfl (Nat.le_of_ble_eq_true rfl) ?_
  exact ev_ireturn dX4_areLinked_10 rfl (b2i_narrow _) (leafI hQ rfl rfl)

set_option maxRecDepth 100000 in
set_option maxHeartbeats 1000000 in
theorem c_X4_link {l : Launch} {σ : av_S} (a : Nat) (b : Nat) (ha : a < 6) (hb : b < 6) : av_M l RX4 cX4_link 3 none 1 [.ref 0, .int (nI a), .int (nI b)] σ none (av_set σ 1 (lkL (σ 1) a b true)) := by
  intro Q hQ
  show av_Ev l RX4 cX4_link 3 none av_E0 1 0 [(0, .ref 0), (1, .int (nI a)), (2, .int (nI b))] [] σ Q
  refine ev_aload_n dX4_link_0 rfl 0 rfl ?_
  refine ev_getR dX4_link_1 C_X4 L_X4_24 (by decide) (by decide) sh_0 rfl ?_
  refine ev_iload_n dX4_link_4 rfl 1 rfl ?_
  refine ev_aload_n dX4_link_5 rfl 0 rfl ?_
  refine ev_getR dX4_link_6 C_X4 L_X4_24 (by decide) (by decide) sh_0 rfl ?_
  refine ev_iload_n dX4_link_9 rfl 1 rfl ?_
  refine ev_iald (e := a) (v := σ 1 a) dX4_link_10 (by decide) sh_1 (by omega) (by decide) rfl ?_
  refine ev_iload_n dX4_link_11 rfl 2 rfl ?_
  refine ev_iconst dX4_link_12 (v := nI 1) (by decide) ?_
  refine ev_callSi (x := wb (σ 1 a) b true) dX4_link_13 (Or.inr M_X4_63) Y_X5_withBit [.int (σ 1 a), .int (nI b), .int (b2i true)] (c_X5_withBit (σ 1 a) b true (by omega)) (by decide) (Nat.le_of_ble_eq_true rfl) rfl rfl (Nat.le_of_ble_eq_true rfl) ?_
  refine ev_iast (e := a) dX4_link_16 (by decide) sh_1 (by omega) (by decide) ?_
  refine ev_aload_n dX4_link_17 rfl 0 rfl ?_
  refine ev_getR dX4_link_18 C_X4 L_X4_24 (by decide) (by decide) sh_0 rfl ?_
  refine ev_iload_n dX4_link_21 rfl 2 rfl ?_
  refine ev_aload_n dX4_link_22 rfl 0 rfl ?_
  refine ev_getR dX4_link_23 C_X4 L_X4_24 (by decide) (by decide) sh_0 rfl ?_
  refine ev_iload_n dX4_link_26 rfl 2 rfl ?_
  refine ev_iald (e := b) (v := (upd (σ 1) a (wb (σ 1 a) b true)) b) dX4_link_27 (by decide) sh_1 (by omega) (by decide) (by first | rfl | (simp only [av_set, cpS]; (repeat' split) <;> first | rfl | (exfalso; omega))) ?_
  refine ev_iload_n dX4_link_28 rfl 1 rfl ?_
  refine ev_iconst dX4_link_29 (v := nI 1) (by decide) ?_
  refine ev_callSi (x := wb ((upd (σ 1) a (wb (σ 1 a) b true)) b) a true) dX4_link_30 (Or.inr M_X4_63) Y_X5_withBit [.int ((upd (σ 1) a (wb (σ 1 a) b true)) b), .int (nI a), .int (b2i true)] (c_X5_withBit ((upd (σ 1) a (wb (σ 1 a) b true)) b) a true (by omega)) (by decide) (Nat.le_of_ble_eq_true rfl) rfl rfl (Nat.le_of_ble_eq_true rfl) ?_
  refine ev_iast (e := b) dX4_link_33 (by decide) sh_1 (by omega) (by decide) ?_
  refine ev_st (σ' := av_set σ 1 (upd (upd (σ 1) a (wb (σ 1 a) b true)) b (wb ((upd (σ 1) a (wb (σ 1 a) b true)) b) a true))) (by first | rfl | (funext a; by_cases q1 : a = 1; (next => subst q1; rfl); simp only [av_set, q1, if_false]) | exact av_set_set _ _ _ _ | (funext a; unfold av_set; (repeat' split) <;> first | rfl | (exfalso; omega)) | (funext a; simp only [av_set, cpS]; (repeat' split) <;> first | rfl | (exfalso; omega))) ?_
  exact ev_return dX4_link_34 rfl (leafV hQ rfl)

set_option maxRecDepth 100000 in
set_option maxHeartbeats 1000000 in
theorem c_X4_unlink {l : Launch} {σ : av_S} (a : Nat) (b : Nat) (ha : a < 6) (hb : b < 6) : av_M l RX4 cX4_unlink 3 none 1 [.ref 0, .int (nI a), .int (nI b)] σ none (av_set σ 1 (lkL (σ 1) a b false)) := by
  intro Q hQ
  show av_Ev l RX4 cX4_unlink 3 none av_E0 1 0 [(0, .ref 0), (1, .int (nI a)), (2, .int (nI b))] [] σ Q
  refine ev_aload_n dX4_unlink_0 rfl 0 rfl ?_
  refine ev_getR dX4_unlink_1 C_X4 L_X4_24 (by decide) (by decide) sh_0 rfl ?_
  refine ev_iload_n dX4_unlink_4 rfl 1 rfl ?_
  refine ev_aload_n dX4_unlink_5 rfl 0 rfl ?_
  refine ev_getR dX4_unlink_6 C_X4 L_X4_24 (by decide) (by decide) sh_0 rfl ?_
  refine ev_iload_n dX4_unlink_9 rfl 1 rfl ?_
  refine ev_iald (e := a) (v := σ 1 a) dX4_unlink_10 (by decide) sh_1 (by omega) (by decide) rfl ?_
  refine ev_iload_n dX4_unlink_11 rfl 2 rfl ?_
  refine ev_iconst dX4_unlink_12 (v := nI 0) (by decide) ?_
  refine ev_callSi (x := wb (σ 1 a) b false) dX4_unlink_13 (Or.inr M_X4_63) Y_X5_withBit [.int (σ 1 a), .int (nI b), .int (b2i false)] (c_X5_withBit (σ 1 a) b false (by omega)) (by decide) (Nat.le_of_ble_eq_true rfl) rfl rfl (Nat.le_of_ble_eq_true rfl) ?_
  refine ev_iast (e := a) dX4_unlink_16 (by decide) sh_1 (by omega) (by decide) ?_
  refine ev_aload_n dX4_unlink_17 rfl 0 rfl ?_
  refine ev_getR dX4_unlink_18 C_X4 L_X4_24 (by decide) (by decide) sh_0 rfl ?_
  refine ev_iload_n dX4_unlink_21 rfl 2 rfl ?_
  refine ev_aload_n dX4_unlink_22 rfl 0 rfl ?_
  refine ev_getR dX4_unlink_23 C_X4 L_X4_24 (by decide) (by decide) sh_0 rfl ?_
  refine ev_iload_n dX4_unlink_26 rfl 2 rfl ?_
  refine ev_iald (e := b) (v := (upd (σ 1) a (wb (σ 1 a) b false)) b) dX4_unlink_27 (by decide) sh_1 (by omega) (by decide) (by first | rfl | (simp only [av_set, cpS]; (repeat' split) <;> first | rfl | (exfalso; omega))) ?_
  refine ev_iload_n dX4_unlink_28 rfl 1 rfl ?_
  refine ev_iconst dX4_unlink_29 (v := nI 0) (by decide) ?_
  refine ev_callSi (x := wb ((upd (σ 1) a (wb (σ 1 a) b false)) b) a false) dX4_unlink_30 (Or.inr M_X4_63) Y_X5_withBit [.int ((upd (σ 1) a (wb (σ 1 a) b false)) b), .int (nI a), .int (b2i false)] (c_X5_withBit ((upd (σ 1) a (wb (σ 1 a) b false)) b) a false (by omega)) (by decide) (Nat.le_of_ble_eq_true rfl) rfl rfl (Nat.le_of_ble_eq_true rfl) ?_
  refine ev_iast (e := b) dX4_unlink_33 (by decide) sh_1 (by omega) (by decide) ?_
  refine ev_st (σ' := av_set σ 1 (upd (upd (σ 1) a (wb (σ 1 a) b false)) b (wb ((upd (σ 1) a (wb (σ 1 a) b false)) b) a false))) (by first | rfl | (funext a; by_cases q1 : a = 1; (next => subst q1; rfl); simp only [av_set, q1, if_false]) | exact av_set_set _ _ _ _ | (funext a; unfold av_set; (repeat' split) <;> first | rfl | (exfalso; omega)) | (funext a; simp only [av_set, cpS]; (repeat' split) <;> first | rfl | (exfalso; omega))) ?_
  exact ev_return dX4_unlink_34 rfl (leafV hQ rfl)

set_option maxRecDepth 100000 in
set_option maxHeartbeats 1000000 in
theorem c_X4_withNeighbours {l : Launch} {σ : av_S} (S : Int32)  : av_M l RX4 cX4_withNeighbours 4 (some .int) 1 [.ref 0, .int S] σ (some (.int (wn (σ 1) S))) σ := by
  intro Q hQ
  show av_Ev l RX4 cX4_withNeighbours 4 (some .int) av_E0 1 0 [(0, .ref 0), (1, .int S)] [] σ Q
  refine ev_iload_n dX4_withNeighbours_0 rfl 1 rfl ?_
  refine ev_istore_n (lv' := [(2, .int S), (0, .ref 0), (1, .int S)]) dX4_withNeighbours_1 rfl (by decide) rfl ?_
  refine ev_iconst dX4_withNeighbours_2 (v := nI 0) (by decide) ?_
  refine ev_istore_n (lv' := [(3, .int (nI 0)), (2, .int S), (0, .ref 0), (1, .int S)]) dX4_withNeighbours_3 rfl (by decide) rfl ?_
  refine ev_lv (lv' := [(0, .ref 0), (1, .int S), (2, .int S), (3, .int (nI 0))]) [2, 3, 1, 0] rfl ?_
  refine loop_up (fun k => av_Ev l RX4 cX4_withNeighbours 4 (some .int) av_E0 1 4 [(0, .ref 0), (1, .int S), (2, .int (fo k (fun k a => bif tb S k then a ||| σ 1 k else a) S)), (3, .int (nI k))] [] σ Q) 6 ?_ ?_
  · show av_Ev l RX4 cX4_withNeighbours 4 (some .int) av_E0 1 4 [(0, .ref 0), (1, .int S), (2, .int (fo 6 (fun k a => bif tb S k then a ||| σ 1 k else a) S)), (3, .int (nI 6))] [] σ Q
    refine ev_iload_n dX4_withNeighbours_4 rfl 3 rfl ?_
    refine ev_bipush dX4_withNeighbours_5 (v := nI 6) (by decide) ?_
    refine ev_ncmp_ge (tgt := 33) dX4_withNeighbours_7 (by decide) (by omega) (by omega) (fun h7 => ?_) (fun h7 => ?_)
    · refine ev_iload_n dX4_withNeighbours_33 rfl 2 rfl ?_
      exact ev_ireturn dX4_withNeighbours_34 rfl rfl (leafI hQ (by first | rfl | (simp [h7]; done)) rfl)
    · exact absurd h7 (by omega)
  · intro k hk ihk
    show av_Ev l RX4 cX4_withNeighbours 4 (some .int) av_E0 1 4 [(0, .ref 0), (1, .int S), (2, .int (fo k (fun k a => bif tb S k then a ||| σ 1 k else a) S)), (3, .int (nI k))] [] σ Q
    refine ev_iload_n dX4_withNeighbours_4 rfl 3 rfl ?_
    refine ev_bipush dX4_withNeighbours_5 (v := nI 6) (by decide) ?_
    refine ev_ncmp_ge (tgt := 33) dX4_withNeighbours_7 (by decide) (by omega) (by omega) (fun h7 => ?_) (fun h7 => ?_)
    · exact absurd h7 (by omega)
    · refine ev_iload_n dX4_withNeighbours_10 rfl 1 rfl ?_
      refine ev_iload_n dX4_withNeighbours_11 rfl 3 rfl ?_
      refine ev_callSi (x := b2i (tb S k)) dX4_withNeighbours_12 (Or.inr M_X4_59) Y_X5_hasBit [.int S, .int (nI k)] (c_X5_hasBit S k (by omega)) (by decide) (Nat.le_of_ble_eq_true rfl) rfl rfl (Nat.le_of_ble_eq_true rfl) ?_
      refine ev_ifb_eq (tgt := 27) dX4_withNeighbours_15 (by decide) (fun h15 => ?_) (fun h15 => ?_)
      · refine ev_iinc (lv' := [(3, .int (nI (k + 1))), (0, .ref 0), (1, .int S), (2, .int (fo k (fun k a => bif tb S k then a ||| σ 1 k else a) S))]) dX4_withNeighbours_27 3 rfl (nI_inc k) (by decide) rfl ?_
        refine ev_goto (tgt := 4) dX4_withNeighbours_30 (by decide) ?_
        refine ev_lv (lv' := [(0, .ref 0), (1, .int S), (2, .int (fo k (fun k a => bif tb S k then a ||| σ 1 k else a) S)), (3, .int (nI (k + 1)))]) [1, 2, 3, 0] rfl ?_
        have ih9 : av_Ev l RX4 cX4_withNeighbours 4 (some .int) av_E0 1 4 [(0, .ref 0), (1, .int S), (2, .int (fo (k + 1) (fun k a => bif tb S k then a ||| σ 1 k else a) S)), (3, .int (nI (k + 1)))] [] σ Q := ihk
        rw [show fo (k + 1) (fun k a => bif tb S k then a ||| σ 1 k else a) S = fo k (fun k a => bif tb S k then a ||| σ 1 k else a) S from (by simp [fo_s, h7, h15])] at ih9
        exact ih9
      · refine ev_iload_n dX4_withNeighbours_18 rfl 2 rfl ?_
        refine ev_aload_n dX4_withNeighbours_19 rfl 0 rfl ?_
        refine ev_getR dX4_withNeighbours_20 C_X4 L_X4_24 (by decide) (by decide) sh_0 rfl ?_
        refine ev_iload_n dX4_withNeighbours_23 rfl 3 rfl ?_
        refine ev_iald (e := k) (v := σ 1 k) dX4_withNeighbours_24 (by decide) sh_1 (by omega) (by decide) rfl ?_
        refine ev_ior dX4_withNeighbours_25 ?_
        refine ev_istore_n (lv' := [(2, .int ((fo k (fun k a => bif tb S k then a ||| σ 1 k else a) S) ||| (σ 1 k))), (0, .ref 0), (1, .int S), (3, .int (nI k))]) dX4_withNeighbours_26 rfl (by decide) rfl ?_
        refine ev_iinc (lv' := [(3, .int (nI (k + 1))), (2, .int ((fo k (fun k a => bif tb S k then a ||| σ 1 k else a) S) ||| (σ 1 k))), (0, .ref 0), (1, .int S)]) dX4_withNeighbours_27 3 rfl (nI_inc k) (by decide) rfl ?_
        refine ev_goto (tgt := 4) dX4_withNeighbours_30 (by decide) ?_
        refine ev_lv (lv' := [(0, .ref 0), (1, .int S), (2, .int ((fo k (fun k a => bif tb S k then a ||| σ 1 k else a) S) ||| (σ 1 k))), (3, .int (nI (k + 1)))]) [2, 3, 1, 0] rfl ?_
        have ih9 : av_Ev l RX4 cX4_withNeighbours 4 (some .int) av_E0 1 4 [(0, .ref 0), (1, .int S), (2, .int (fo (k + 1) (fun k a => bif tb S k then a ||| σ 1 k else a) S)), (3, .int (nI (k + 1)))] [] σ Q := ihk
        rw [show fo (k + 1) (fun k a => bif tb S k then a ||| σ 1 k else a) S = (fo k (fun k a => bif tb S k then a ||| σ 1 k else a) S) ||| (σ 1 k) from (by simp [fo_s, h7, h15])] at ih9
        exact ih9

set_option maxRecDepth 100000 in
set_option maxHeartbeats 1000000 in
theorem c_X4_networkOf {l : Launch} {σ : av_S} (s : Nat) (hs : s < 6) : av_M l RX4 cX4_networkOf 4 (some .int) 2 [.ref 0, .int (nI s)] σ (some (.int (net (σ 1) s))) σ := by
  intro Q hQ
  show av_Ev l RX4 cX4_networkOf 4 (some .int) av_E0 2 0 [(0, .ref 0), (1, .int (nI s))] [] σ Q
  refine ev_iconst dX4_networkOf_0 (v := nI 1) (by decide) ?_
  refine ev_iload_n dX4_networkOf_1 rfl 1 rfl ?_
  refine ev_ishl dX4_networkOf_2 ?_
  refine ev_top (v := bt s) rfl ?_
  refine ev_istore_n (lv' := [(2, .int (bt s)), (0, .ref 0), (1, .int (nI s))]) dX4_networkOf_3 rfl (by decide) rfl ?_
  refine ev_iconst dX4_networkOf_4 (v := nI 1) (by decide) ?_
  refine ev_istore_n (lv' := [(3, .int (nI 1)), (2, .int (bt s)), (0, .ref 0), (1, .int (nI s))]) dX4_networkOf_5 rfl (by decide) rfl ?_
  refine ev_lv (lv' := [(0, .ref 0), (1, .int (nI s)), (2, .int (bt s)), (3, .int (nI 1))]) [2, 3, 1, 0] rfl ?_
  refine loop_up (fun k => av_Ev l RX4 cX4_networkOf 4 (some .int) av_E0 2 6 [(0, .ref 0), (1, .int (nI s)), (2, .int (fo k (fun _ r => wn (σ 1) r) (bt s))), (3, .int (nI (k + 1)))] [] σ Q) 5 ?_ ?_
  · show av_Ev l RX4 cX4_networkOf 4 (some .int) av_E0 2 6 [(0, .ref 0), (1, .int (nI s)), (2, .int (fo 5 (fun _ r => wn (σ 1) r) (bt s))), (3, .int (nI (5 + 1)))] [] σ Q
    refine ev_iload_n dX4_networkOf_6 rfl 3 rfl ?_
    refine ev_bipush dX4_networkOf_7 (v := nI 6) (by decide) ?_
    refine ev_ncmp_ge (tgt := 24) dX4_networkOf_9 (by decide) (by omega) (by omega) (fun h9 => ?_) (fun h9 => ?_)
    · refine ev_iload_n dX4_networkOf_24 rfl 2 rfl ?_
      exact ev_ireturn dX4_networkOf_25 rfl rfl (leafI hQ (by first | rfl | (simp [h9]; done)) rfl)
    · exact absurd h9 (by omega)
  · intro k hk ihk
    show av_Ev l RX4 cX4_networkOf 4 (some .int) av_E0 2 6 [(0, .ref 0), (1, .int (nI s)), (2, .int (fo k (fun _ r => wn (σ 1) r) (bt s))), (3, .int (nI (k + 1)))] [] σ Q
    refine ev_iload_n dX4_networkOf_6 rfl 3 rfl ?_
    refine ev_bipush dX4_networkOf_7 (v := nI 6) (by decide) ?_
    refine ev_ncmp_ge (tgt := 24) dX4_networkOf_9 (by decide) (by omega) (by omega) (fun h9 => ?_) (fun h9 => ?_)
    · exact absurd h9 (by omega)
    · refine ev_aload_n dX4_networkOf_12 rfl 0 rfl ?_
      refine ev_iload_n dX4_networkOf_13 rfl 2 rfl ?_
      refine ev_callVi (x := wn (σ 1) (fo k (fun _ r => wn (σ 1) r) (bt s))) dX4_networkOf_14 M_X4_67 Y_X4_withNeighbours [.int (fo k (fun _ r => wn (σ 1) r) (bt s))] (c_X4_withNeighbours (fo k (fun _ r => wn (σ 1) r) (bt s)) ) (by decide) (Nat.le_of_ble_eq_true rfl) (by decide) sh_0 rfl rfl rfl (Nat.le_of_ble_eq_true rfl) ?_
      refine ev_istore_n (lv' := [(2, .int (wn (σ 1) (fo k (fun _ r => wn (σ 1) r) (bt s)))), (0, .ref 0), (1, .int (nI s)), (3, .int (nI (k + 1)))]) dX4_networkOf_17 rfl (by decide) rfl ?_
      refine ev_iinc (lv' := [(3, .int (nI (k + 1 + 1))), (2, .int (wn (σ 1) (fo k (fun _ r => wn (σ 1) r) (bt s)))), (0, .ref 0), (1, .int (nI s))]) dX4_networkOf_18 3 rfl (nI_inc (k + 1)) (by decide) rfl ?_
      refine ev_goto (tgt := 6) dX4_networkOf_21 (by decide) ?_
      refine ev_lv (lv' := [(0, .ref 0), (1, .int (nI s)), (2, .int (wn (σ 1) (fo k (fun _ r => wn (σ 1) r) (bt s)))), (3, .int (nI (k + 1 + 1)))]) [2, 3, 1, 0] rfl ?_
      have ih9 : av_Ev l RX4 cX4_networkOf 4 (some .int) av_E0 2 6 [(0, .ref 0), (1, .int (nI s)), (2, .int (fo (k + 1) (fun _ r => wn (σ 1) r) (bt s))), (3, .int (nI ((k + 1) + 1)))] [] σ Q := ihk
      rw [show fo (k + 1) (fun _ r => wn (σ 1) r) (bt s) = wn (σ 1) (fo k (fun _ r => wn (σ 1) r) (bt s)) from (by simp [fo_s, h9])] at ih9
      rw [show nI ((k + 1) + 1) = nI (k + 1 + 1) from (by simp [fo_s, h9])] at ih9
      exact ih9

set_option maxRecDepth 100000 in
set_option maxHeartbeats 1000000 in
theorem c_X4_hasUser {l : Launch} {σ : av_S} (s : Nat) (n : Nat) (hs : s < 6) (hn : n < 10) : av_M l RX4 cX4_hasUser 3 (some .boolean) 1 [.ref 0, .int (nI s), .int (nI n)] σ (some (.int (b2i (us (σ 2) s n)))) σ := by
  intro Q hQ
  show av_Ev l RX4 cX4_hasUser 3 (some .boolean) av_E0 1 0 [(0, .ref 0), (1, .int (nI s)), (2, .int (nI n))] [] σ Q
  refine ev_aload_n dX4_hasUser_0 rfl 0 rfl ?_
  refine ev_getR dX4_hasUser_1 C_X4 L_X4_28 (by decide) (by decide) sh_0 rfl ?_
  refine ev_iload_n dX4_hasUser_4 rfl 1 rfl ?_
  refine ev_iload_n dX4_hasUser_5 rfl 2 rfl ?_
  refine ev_callSi (x := nI (s * 10 + n)) dX4_hasUser_6 (Or.inl M_X4_74) Y_X4_userCell [.int (nI s), .int (nI n)] (c_X4_userCell s n ) (by decide) (Nat.le_of_ble_eq_true rfl) rfl rfl (Nat.le_of_ble_eq_true rfl) ?_
  refine ev_iald (e := s * 10 + n) (v := σ 2 (s * 10 + n)) dX4_hasUser_9 (by decide) sh_2 (by omega) (by decide) rfl ?_
  refine ev_iconst dX4_hasUser_10 (v := (-1)) (by decide) ?_
  refine ev_icmp_eq (tgt := 18) dX4_hasUser_11 (by decide) (fun h11 => ?_) (fun h11 => ?_)
  · refine ev_iconst dX4_hasUser_18 (v := nI 0) (by decide) ?_
    exact ev_ireturn dX4_hasUser_19 rfl (by decide) (leafI hQ (by simp [b2i, us, h11]) rfl)
  · refine ev_iconst dX4_hasUser_14 (v := nI 1) (by decide) ?_
    refine ev_goto (tgt := 19) dX4_hasUser_15 (by decide) ?_
    exact ev_ireturn dX4_hasUser_19 rfl (by decide) (leafI hQ (by simp [b2i, us, h11]) rfl)

set_option maxRecDepth 100000 in
set_option maxHeartbeats 1000000 in
theorem c_X4_timeOfUser {l : Launch} {σ : av_S} (s : Nat) (n : Nat) (hs : s < 6) (hn : n < 10) : av_M l RX4 cX4_timeOfUser 3 (some .int) 1 [.ref 0, .int (nI s), .int (nI n)] σ (some (.int (σ 2 (s * 10 + n)))) σ := by
  intro Q hQ
  show av_Ev l RX4 cX4_timeOfUser 3 (some .int) av_E0 1 0 [(0, .ref 0), (1, .int (nI s)), (2, .int (nI n))] [] σ Q
  refine ev_aload_n dX4_timeOfUser_0 rfl 0 rfl ?_
  refine ev_getR dX4_timeOfUser_1 C_X4 L_X4_28 (by decide) (by decide) sh_0 rfl ?_
  refine ev_iload_n dX4_timeOfUser_4 rfl 1 rfl ?_
  refine ev_iload_n dX4_timeOfUser_5 rfl 2 rfl ?_
  refine ev_callSi (x := nI (s * 10 + n)) dX4_timeOfUser_6 (Or.inl M_X4_74) Y_X4_userCell [.int (nI s), .int (nI n)] (c_X4_userCell s n ) (by decide) (Nat.le_of_ble_eq_true rfl) rfl rfl (Nat.le_of_ble_eq_true rfl) ?_
  refine ev_iald (e := s * 10 + n) (v := σ 2 (s * 10 + n)) dX4_timeOfUser_9 (by decide) sh_2 (by omega) (by decide) rfl ?_
  exact ev_ireturn dX4_timeOfUser_10 rfl rfl (leafI hQ rfl rfl)

set_option maxRecDepth 100000 in
set_option maxHeartbeats 1000000 in
theorem c_X4_homeIn {l : Launch} {σ : av_S} (S : Int32) (n : Nat) (hn : n < 10) : av_M l RX4 cX4_homeIn 4 (some .int) 2 [.ref 0, .int S, .int (nI n)] σ (some (.int (oI (hm (σ 2) S n)))) σ := by
  intro Q hQ
  show av_Ev l RX4 cX4_homeIn 4 (some .int) av_E0 2 0 [(0, .ref 0), (1, .int S), (2, .int (nI n))] [] σ Q
  refine ev_iconst dX4_homeIn_0 (v := nI 0) (by decide) ?_
  refine ev_istore_n (lv' := [(3, .int (nI 0)), (0, .ref 0), (1, .int S), (2, .int (nI n))]) dX4_homeIn_1 rfl (by decide) rfl ?_
  refine ev_lv (lv' := [(0, .ref 0), (1, .int S), (2, .int (nI n)), (3, .int (nI 0))]) [1, 2, 3, 0] rfl ?_
  refine loop_up (fun k => fnd (6 - k) k (fun s => tb S s && us (σ 2) s n) = hm (σ 2) S n → av_Ev l RX4 cX4_homeIn 4 (some .int) av_E0 2 2 [(0, .ref 0), (1, .int S), (2, .int (nI n)), (3, .int (nI k))] [] σ Q) 6 ?_ ?_ (rfl)
  · intro hR
    refine ev_iload_n dX4_homeIn_2 rfl 3 rfl ?_
    refine ev_bipush dX4_homeIn_3 (v := nI 6) (by decide) ?_
    refine ev_ncmp_ge (tgt := 33) dX4_homeIn_5 (by decide) (by omega) (by omega) (fun h5 => ?_) (fun h5 => ?_)
    · refine ev_iconst dX4_homeIn_33 (v := (-1)) (by decide) ?_
      exact ev_ireturn dX4_homeIn_34 rfl rfl (leafI hQ (by first | (rw [← hR, fnd_go hk]; simp [h5]; rfl) | (rw [← hR]; rfl)) rfl)
    · exact absurd h5 (by omega)
  · intro k hk ihk hR
    refine ev_iload_n dX4_homeIn_2 rfl 3 rfl ?_
    refine ev_bipush dX4_homeIn_3 (v := nI 6) (by decide) ?_
    refine ev_ncmp_ge (tgt := 33) dX4_homeIn_5 (by decide) (by omega) (by omega) (fun h5 => ?_) (fun h5 => ?_)
    · exact absurd h5 (by omega)
    · refine ev_iload_n dX4_homeIn_8 rfl 1 rfl ?_
      refine ev_iload_n dX4_homeIn_9 rfl 3 rfl ?_
      refine ev_callSi (x := b2i (tb S k)) dX4_homeIn_10 (Or.inr M_X4_59) Y_X5_hasBit [.int S, .int (nI k)] (c_X5_hasBit S k (by omega)) (by decide) (Nat.le_of_ble_eq_true rfl) rfl rfl (Nat.le_of_ble_eq_true rfl) ?_
      refine ev_ifb_eq (tgt := 27) dX4_homeIn_13 (by decide) (fun h13 => ?_) (fun h13 => ?_)
      · refine ev_iinc (lv' := [(3, .int (nI (k + 1))), (0, .ref 0), (1, .int S), (2, .int (nI n))]) dX4_homeIn_27 3 rfl (nI_inc k) (by decide) rfl ?_
        refine ev_goto (tgt := 2) dX4_homeIn_30 (by decide) ?_
        refine ev_lv (lv' := [(0, .ref 0), (1, .int S), (2, .int (nI n)), (3, .int (nI (k + 1)))]) [1, 2, 3, 0] rfl ?_
        have ih9 := ihk (by rw [← hR, fnd_go hk]; simp [h5, h13])
        exact ih9
      · refine ev_aload_n dX4_homeIn_16 rfl 0 rfl ?_
        refine ev_iload_n dX4_homeIn_17 rfl 3 rfl ?_
        refine ev_iload_n dX4_homeIn_18 rfl 2 rfl ?_
        refine ev_callVi (x := b2i (us (σ 2) k n)) dX4_homeIn_19 M_X4_78 Y_X4_hasUser [.int (nI k), .int (nI n)] (c_X4_hasUser k n (by omega) (by first | exact hn | omega)) (by decide) (Nat.le_of_ble_eq_true rfl) (by decide) sh_0 rfl rfl rfl (Nat.le_of_ble_eq_true rfl) ?_
        refine ev_ifb_eq (tgt := 27) dX4_homeIn_22 (by decide) (fun h22 => ?_) (fun h22 => ?_)
        · refine ev_iinc (lv' := [(3, .int (nI (k + 1))), (0, .ref 0), (1, .int S), (2, .int (nI n))]) dX4_homeIn_27 3 rfl (nI_inc k) (by decide) rfl ?_
          refine ev_goto (tgt := 2) dX4_homeIn_30 (by decide) ?_
          refine ev_lv (lv' := [(0, .ref 0), (1, .int S), (2, .int (nI n)), (3, .int (nI (k + 1)))]) [1, 2, 3, 0] rfl ?_
          have ih9 := ihk (by rw [← hR, fnd_go hk]; simp [h5, h13, h22])
          exact ih9
        · refine ev_iload_n dX4_homeIn_25 rfl 3 rfl ?_
          exact ev_ireturn dX4_homeIn_26 rfl rfl (leafI hQ (by first | (rw [← hR, fnd_go hk]; simp [h5, h13, h22]; rfl) | (rw [← hR]; rfl)) rfl)

set_option maxRecDepth 100000 in
set_option maxHeartbeats 1000000 in
theorem c_X4_timeOfNick {l : Launch} {σ : av_S} (S : Int32) (n : Nat) (hn : n < 10) : av_M l RX4 cX4_timeOfNick 4 (some .int) 3 [.ref 0, .int S, .int (nI n)] σ (some (.int (tn (σ 2) S n))) σ := by
  intro Q hQ
  show av_Ev l RX4 cX4_timeOfNick 4 (some .int) av_E0 3 0 [(0, .ref 0), (1, .int S), (2, .int (nI n))] [] σ Q
  refine ev_aload_n dX4_timeOfNick_0 rfl 0 rfl ?_
  refine ev_iload_n dX4_timeOfNick_1 rfl 1 rfl ?_
  refine ev_iload_n dX4_timeOfNick_2 rfl 2 rfl ?_
  refine ev_callVi (x := oI (hm (σ 2) S n)) dX4_timeOfNick_3 M_X4_81 Y_X4_homeIn [.int S, .int (nI n)] (c_X4_homeIn S n (by first | exact hn | omega)) (by decide) (Nat.le_of_ble_eq_true rfl) (by decide) sh_0 rfl rfl rfl (Nat.le_of_ble_eq_true rfl) ?_
  rcases ho3 : hm (σ 2) S n with _ | u3
  · refine ev_top (v := (-1)) rfl ?_
    refine ev_istore_n (lv' := [(3, .int (-1)), (0, .ref 0), (1, .int S), (2, .int (nI n))]) dX4_timeOfNick_6 rfl (by decide) rfl ?_
    refine ev_iload_n dX4_timeOfNick_7 rfl 0 rfl ?_
    refine ev_iconst dX4_timeOfNick_8 (v := (-1)) (by decide) ?_
    refine ev_icmp_ne (tgt := 16) dX4_timeOfNick_9 (by decide) (fun h9 => ?_) (fun h9 => ?_)
    · exact absurd rfl h9
    · refine ev_iconst dX4_timeOfNick_12 (v := (-1)) (by decide) ?_
      refine ev_goto (tgt := 22) dX4_timeOfNick_13 (by decide) ?_
      exact ev_ireturn dX4_timeOfNick_22 rfl rfl (leafI hQ (by simp [tn, ho3, h9]) rfl)
  · have hu3 : u3 < 6 := hm_lt ho3
    refine ev_top (v := nI u3) rfl ?_
    refine ev_istore_n (lv' := [(3, .int (nI u3)), (0, .ref 0), (1, .int S), (2, .int (nI n))]) dX4_timeOfNick_6 rfl (by decide) rfl ?_
    refine ev_iload_n dX4_timeOfNick_7 rfl 0 rfl ?_
    refine ev_iconst dX4_timeOfNick_8 (v := (-1)) (by decide) ?_
    refine ev_icmp_ne (tgt := 16) dX4_timeOfNick_9 (by decide) (fun h9 => ?_) (fun h9 => ?_)
    · refine ev_aload_n dX4_timeOfNick_16 rfl 1 rfl ?_
      refine ev_iload_n dX4_timeOfNick_17 rfl 0 rfl ?_
      refine ev_iload_n dX4_timeOfNick_18 rfl 3 rfl ?_
      refine ev_callVi (x := σ 2 (u3 * 10 + n)) dX4_timeOfNick_19 M_X4_84 Y_X4_timeOfUser [.int (nI u3), .int (nI n)] (c_X4_timeOfUser u3 n (by omega) (by first | exact hn | omega)) (by decide) (Nat.le_of_ble_eq_true rfl) (by decide) sh_0 rfl rfl rfl (Nat.le_of_ble_eq_true rfl) ?_
      exact ev_ireturn dX4_timeOfNick_22 rfl rfl (leafI hQ (by simp [tn, ho3, h9]) rfl)
    · exact absurd h9 (nI_neg (by omega) (by decide))

set_option maxRecDepth 100000 in
set_option maxHeartbeats 1000000 in
theorem c_X4_nicksIn {l : Launch} {σ : av_S} (S : Int32)  : av_M l RX4 cX4_nicksIn 4 (some .int) 3 [.ref 0, .int S] σ (some (.int (nk (σ 2) S))) σ := by
  intro Q hQ
  show av_Ev l RX4 cX4_nicksIn 4 (some .int) av_E0 3 0 [(0, .ref 0), (1, .int S)] [] σ Q
  refine ev_iconst dX4_nicksIn_0 (v := nI 0) (by decide) ?_
  refine ev_istore_n (lv' := [(2, .int (nI 0)), (0, .ref 0), (1, .int S)]) dX4_nicksIn_1 rfl (by decide) rfl ?_
  refine ev_iconst dX4_nicksIn_2 (v := nI 0) (by decide) ?_
  refine ev_istore_n (lv' := [(3, .int (nI 0)), (2, .int (nI 0)), (0, .ref 0), (1, .int S)]) dX4_nicksIn_3 rfl (by decide) rfl ?_
  refine ev_lv (lv' := [(0, .ref 0), (1, .int S), (2, .int (nI 0)), (3, .int (nI 0))]) [2, 3, 1, 0] rfl ?_
  refine loop_up (fun k => av_Ev l RX4 cX4_nicksIn 4 (some .int) av_E0 3 4 [(0, .ref 0), (1, .int S), (2, .int (fo k (fun n a => wb a n (hm (σ 2) S n).isSome) (nI 0))), (3, .int (nI k))] [] σ Q) 10 ?_ ?_
  · show av_Ev l RX4 cX4_nicksIn 4 (some .int) av_E0 3 4 [(0, .ref 0), (1, .int S), (2, .int (fo 10 (fun n a => wb a n (hm (σ 2) S n).isSome) (nI 0))), (3, .int (nI 10))] [] σ Q
    refine ev_iload_n dX4_nicksIn_4 rfl 3 rfl ?_
    refine ev_bipush dX4_nicksIn_5 (v := nI 10) (by decide) ?_
    refine ev_ncmp_ge (tgt := 37) dX4_nicksIn_7 (by decide) (by omega) (by omega) (fun h7 => ?_) (fun h7 => ?_)
    · refine ev_iload_n dX4_nicksIn_37 rfl 2 rfl ?_
      exact ev_ireturn dX4_nicksIn_38 rfl rfl (leafI hQ (by first | rfl | (simp [h7]; done)) rfl)
    · exact absurd h7 (by omega)
  · intro k hk ihk
    show av_Ev l RX4 cX4_nicksIn 4 (some .int) av_E0 3 4 [(0, .ref 0), (1, .int S), (2, .int (fo k (fun n a => wb a n (hm (σ 2) S n).isSome) (nI 0))), (3, .int (nI k))] [] σ Q
    refine ev_iload_n dX4_nicksIn_4 rfl 3 rfl ?_
    refine ev_bipush dX4_nicksIn_5 (v := nI 10) (by decide) ?_
    refine ev_ncmp_ge (tgt := 37) dX4_nicksIn_7 (by decide) (by omega) (by omega) (fun h7 => ?_) (fun h7 => ?_)
    · exact absurd h7 (by omega)
    · refine ev_iload_n dX4_nicksIn_10 rfl 2 rfl ?_
      refine ev_iload_n dX4_nicksIn_11 rfl 3 rfl ?_
      refine ev_aload_n dX4_nicksIn_12 rfl 0 rfl ?_
      refine ev_iload_n dX4_nicksIn_13 rfl 1 rfl ?_
      refine ev_iload_n dX4_nicksIn_14 rfl 3 rfl ?_
      refine ev_callVi (x := oI (hm (σ 2) S k)) dX4_nicksIn_15 M_X4_81 Y_X4_homeIn [.int S, .int (nI k)] (c_X4_homeIn S k (by omega)) (by decide) (Nat.le_of_ble_eq_true rfl) (by decide) sh_0 rfl rfl rfl (Nat.le_of_ble_eq_true rfl) ?_
      rcases ho15 : hm (σ 2) S k with _ | u15
      · refine ev_top (v := (-1)) rfl ?_
        refine ev_iconst dX4_nicksIn_18 (v := (-1)) (by decide) ?_
        refine ev_icmp_eq (tgt := 26) dX4_nicksIn_19 (by decide) (fun h19 => ?_) (fun h19 => ?_)
        · refine ev_iconst dX4_nicksIn_26 (v := nI 0) (by decide) ?_
          refine ev_callSi (x := wb (fo k (fun n a => wb a n (hm (σ 2) S n).isSome) (nI 0)) k false) dX4_nicksIn_27 (Or.inr M_X4_63) Y_X5_withBit [.int (fo k (fun n a => wb a n (hm (σ 2) S n).isSome) (nI 0)), .int (nI k), .int (b2i false)] (c_X5_withBit (fo k (fun n a => wb a n (hm (σ 2) S n).isSome) (nI 0)) k false (by omega)) (by decide) (Nat.le_of_ble_eq_true rfl) rfl rfl (Nat.le_of_ble_eq_true rfl) ?_
          refine ev_istore_n (lv' := [(2, .int (wb (fo k (fun n a => wb a n (hm (σ 2) S n).isSome) (nI 0)) k false)), (0, .ref 0), (1, .int S), (3, .int (nI k))]) dX4_nicksIn_30 rfl (by decide) rfl ?_
          refine ev_iinc (lv' := [(3, .int (nI (k + 1))), (2, .int (wb (fo k (fun n a => wb a n (hm (σ 2) S n).isSome) (nI 0)) k false)), (0, .ref 0), (1, .int S)]) dX4_nicksIn_31 3 rfl (nI_inc k) (by decide) rfl ?_
          refine ev_goto (tgt := 4) dX4_nicksIn_34 (by decide) ?_
          refine ev_lv (lv' := [(0, .ref 0), (1, .int S), (2, .int (wb (fo k (fun n a => wb a n (hm (σ 2) S n).isSome) (nI 0)) k false)), (3, .int (nI (k + 1)))]) [2, 3, 1, 0] rfl ?_
          have ih9 : av_Ev l RX4 cX4_nicksIn 4 (some .int) av_E0 3 4 [(0, .ref 0), (1, .int S), (2, .int (fo (k + 1) (fun n a => wb a n (hm (σ 2) S n).isSome) (nI 0))), (3, .int (nI (k + 1)))] [] σ Q := ihk
          rw [show fo (k + 1) (fun n a => wb a n (hm (σ 2) S n).isSome) (nI 0) = wb (fo k (fun n a => wb a n (hm (σ 2) S n).isSome) (nI 0)) k false from (by simp [fo_s, h7, ho15, h19])] at ih9
          exact ih9
        · exact absurd rfl h19
      · have hu15 : u15 < 6 := hm_lt ho15
        refine ev_top (v := nI u15) rfl ?_
        refine ev_iconst dX4_nicksIn_18 (v := (-1)) (by decide) ?_
        refine ev_icmp_eq (tgt := 26) dX4_nicksIn_19 (by decide) (fun h19 => ?_) (fun h19 => ?_)
        · exact absurd h19 (nI_neg (by omega) (by decide))
        · refine ev_iconst dX4_nicksIn_22 (v := nI 1) (by decide) ?_
          refine ev_goto (tgt := 27) dX4_nicksIn_23 (by decide) ?_
          refine ev_callSi (x := wb (fo k (fun n a => wb a n (hm (σ 2) S n).isSome) (nI 0)) k true) dX4_nicksIn_27 (Or.inr M_X4_63) Y_X5_withBit [.int (fo k (fun n a => wb a n (hm (σ 2) S n).isSome) (nI 0)), .int (nI k), .int (b2i true)] (c_X5_withBit (fo k (fun n a => wb a n (hm (σ 2) S n).isSome) (nI 0)) k true (by omega)) (by decide) (Nat.le_of_ble_eq_true rfl) rfl rfl (Nat.le_of_ble_eq_true rfl) ?_
          refine ev_istore_n (lv' := [(2, .int (wb (fo k (fun n a => wb a n (hm (σ 2) S n).isSome) (nI 0)) k true)), (0, .ref 0), (1, .int S), (3, .int (nI k))]) dX4_nicksIn_30 rfl (by decide) rfl ?_
          refine ev_iinc (lv' := [(3, .int (nI (k + 1))), (2, .int (wb (fo k (fun n a => wb a n (hm (σ 2) S n).isSome) (nI 0)) k true)), (0, .ref 0), (1, .int S)]) dX4_nicksIn_31 3 rfl (nI_inc k) (by decide) rfl ?_
          refine ev_goto (tgt := 4) dX4_nicksIn_34 (by decide) ?_
          refine ev_lv (lv' := [(0, .ref 0), (1, .int S), (2, .int (wb (fo k (fun n a => wb a n (hm (σ 2) S n).isSome) (nI 0)) k true)), (3, .int (nI (k + 1)))]) [2, 3, 1, 0] rfl ?_
          have ih9 : av_Ev l RX4 cX4_nicksIn 4 (some .int) av_E0 3 4 [(0, .ref 0), (1, .int S), (2, .int (fo (k + 1) (fun n a => wb a n (hm (σ 2) S n).isSome) (nI 0))), (3, .int (nI (k + 1)))] [] σ Q := ihk
          rw [show fo (k + 1) (fun n a => wb a n (hm (σ 2) S n).isSome) (nI 0) = wb (fo k (fun n a => wb a n (hm (σ 2) S n).isSome) (nI 0)) k true from (by simp [fo_s, h7, ho15, h19])] at ih9
          exact ih9

set_option maxRecDepth 100000 in
set_option maxHeartbeats 1000000 in
theorem c_X4_countUsers {l : Launch} {σ : av_S} (S : Int32)  : av_M l RX4 cX4_countUsers 5 (some .int) 2 [.ref 0, .int S] σ (some (.int (nI (cu (σ 2) S)))) σ := by
  intro Q hQ
  show av_Ev l RX4 cX4_countUsers 5 (some .int) av_E0 2 0 [(0, .ref 0), (1, .int S)] [] σ Q
  refine ev_iconst dX4_countUsers_0 (v := nI 0) (by decide) ?_
  refine ev_istore_n (lv' := [(2, .int (nI 0)), (0, .ref 0), (1, .int S)]) dX4_countUsers_1 rfl (by decide) rfl ?_
  refine ev_iconst dX4_countUsers_2 (v := nI 0) (by decide) ?_
  refine ev_istore_n (lv' := [(3, .int (nI 0)), (2, .int (nI 0)), (0, .ref 0), (1, .int S)]) dX4_countUsers_3 rfl (by decide) rfl ?_
  refine ev_lv (lv' := [(0, .ref 0), (1, .int S), (2, .int (nI 0)), (3, .int (nI 0))]) [2, 3, 1, 0] rfl ?_
  refine loop_up (fun s9 => av_Ev l RX4 cX4_countUsers 5 (some .int) av_E0 2 4 [(0, .ref 0), (1, .int S), (2, .int (nI (fo s9 (fun s c => fo 10 (fun n c => cuN (σ 2) S s n c) c) 0))), (3, .int (nI s9))] [] σ Q) 6 ?_ ?_
  · show av_Ev l RX4 cX4_countUsers 5 (some .int) av_E0 2 4 [(0, .ref 0), (1, .int S), (2, .int (nI (fo 6 (fun s c => fo 10 (fun n c => cuN (σ 2) S s n c) c) 0))), (3, .int (nI 6))] [] σ Q
    refine ev_iload_n dX4_countUsers_4 rfl 3 rfl ?_
    refine ev_bipush dX4_countUsers_5 (v := nI 6) (by decide) ?_
    refine ev_ncmp_ge (tgt := 53) dX4_countUsers_7 (by decide) (by omega) (by omega) (fun h7 => ?_) (fun h7 => ?_)
    · refine ev_iload_n dX4_countUsers_53 rfl 2 rfl ?_
      exact ev_ireturn dX4_countUsers_54 rfl rfl (leafI hQ (by first | rfl | (simp [h7]; done)) rfl)
    · exact absurd h7 (by omega)
  · intro s9 hs9 ihs9
    show av_Ev l RX4 cX4_countUsers 5 (some .int) av_E0 2 4 [(0, .ref 0), (1, .int S), (2, .int (nI (fo s9 (fun s c => fo 10 (fun n c => cuN (σ 2) S s n c) c) 0))), (3, .int (nI s9))] [] σ Q
    refine ev_iload_n dX4_countUsers_4 rfl 3 rfl ?_
    refine ev_bipush dX4_countUsers_5 (v := nI 6) (by decide) ?_
    refine ev_ncmp_ge (tgt := 53) dX4_countUsers_7 (by decide) (by omega) (by omega) (fun h7 => ?_) (fun h7 => ?_)
    · exact absurd h7 (by omega)
    · refine ev_iconst dX4_countUsers_10 (v := nI 0) (by decide) ?_
      refine ev_istore (lv' := [(4, .int (nI 0)), (0, .ref 0), (1, .int S), (2, .int (nI (fo s9 (fun s c => fo 10 (fun n c => cuN (σ 2) S s n c) c) 0))), (3, .int (nI s9))]) dX4_countUsers_11 (by decide) rfl ?_
      refine ev_lv (lv' := [(0, .ref 0), (1, .int S), (2, .int (nI (fo s9 (fun s c => fo 10 (fun n c => cuN (σ 2) S s n c) c) 0))), (3, .int (nI s9)), (4, .int (nI 0))]) [1, 2, 3, 4, 0] rfl ?_
      refine loop_up (fun n9 => av_Ev l RX4 cX4_countUsers 5 (some .int) av_E0 2 13 [(0, .ref 0), (1, .int S), (2, .int (nI (fo n9 (fun n c => cuN (σ 2) S s9 n c) (fo s9 (fun s c => fo 10 (fun n c => cuN (σ 2) S s n c) c) 0)))), (3, .int (nI s9)), (4, .int (nI n9))] [] σ Q) 10 ?_ ?_
      · show av_Ev l RX4 cX4_countUsers 5 (some .int) av_E0 2 13 [(0, .ref 0), (1, .int S), (2, .int (nI (fo 10 (fun n c => cuN (σ 2) S s9 n c) (fo s9 (fun s c => fo 10 (fun n c => cuN (σ 2) S s n c) c) 0)))), (3, .int (nI s9)), (4, .int (nI 10))] [] σ Q
        refine ev_iload dX4_countUsers_13 4 rfl ?_
        refine ev_bipush dX4_countUsers_15 (v := nI 10) (by decide) ?_
        refine ev_ncmp_ge (tgt := 47) dX4_countUsers_17 (by decide) (by omega) (by omega) (fun h17 => ?_) (fun h17 => ?_)
        · refine ev_iinc (lv' := [(3, .int (nI (s9 + 1))), (0, .ref 0), (1, .int S), (2, .int (nI (fo 10 (fun n c => cuN (σ 2) S s9 n c) (fo s9 (fun s c => fo 10 (fun n c => cuN (σ 2) S s n c) c) 0)))), (4, .int (nI 10))]) dX4_countUsers_47 3 rfl (nI_inc s9) (by decide) rfl ?_
          refine ev_goto (tgt := 4) dX4_countUsers_50 (by decide) ?_
          refine ev_lv (lv' := [(0, .ref 0), (1, .int S), (2, .int (nI (fo 10 (fun n c => cuN (σ 2) S s9 n c) (fo s9 (fun s c => fo 10 (fun n c => cuN (σ 2) S s n c) c) 0)))), (3, .int (nI (s9 + 1)))]) [1, 2, 3, 0] rfl ?_
          have ih9 : av_Ev l RX4 cX4_countUsers 5 (some .int) av_E0 2 4 [(0, .ref 0), (1, .int S), (2, .int (nI (fo (s9 + 1) (fun s c => fo 10 (fun n c => cuN (σ 2) S s n c) c) 0))), (3, .int (nI (s9 + 1)))] [] σ Q := ihs9
          rw [show nI (fo (s9 + 1) (fun s c => fo 10 (fun n c => cuN (σ 2) S s n c) c) 0) = nI (fo 10 (fun n c => cuN (σ 2) S s9 n c) (fo s9 (fun s c => fo 10 (fun n c => cuN (σ 2) S s n c) c) 0)) from (by simp [fo_s, h7, h17])] at ih9
          exact ih9
        · exact absurd h17 (by omega)
      · intro n9 hn9 ihn9
        show av_Ev l RX4 cX4_countUsers 5 (some .int) av_E0 2 13 [(0, .ref 0), (1, .int S), (2, .int (nI (fo n9 (fun n c => cuN (σ 2) S s9 n c) (fo s9 (fun s c => fo 10 (fun n c => cuN (σ 2) S s n c) c) 0)))), (3, .int (nI s9)), (4, .int (nI n9))] [] σ Q
        refine ev_iload dX4_countUsers_13 4 rfl ?_
        refine ev_bipush dX4_countUsers_15 (v := nI 10) (by decide) ?_
        refine ev_ncmp_ge (tgt := 47) dX4_countUsers_17 (by decide) (by omega) (by omega) (fun h17 => ?_) (fun h17 => ?_)
        · exact absurd h17 (by omega)
        · refine ev_iload_n dX4_countUsers_20 rfl 1 rfl ?_
          refine ev_iload_n dX4_countUsers_21 rfl 3 rfl ?_
          refine ev_callSi (x := b2i (tb S s9)) dX4_countUsers_22 (Or.inr M_X4_59) Y_X5_hasBit [.int S, .int (nI s9)] (c_X5_hasBit S s9 (by omega)) (by decide) (Nat.le_of_ble_eq_true rfl) rfl rfl (Nat.le_of_ble_eq_true rfl) ?_
          refine ev_ifb_eq (tgt := 41) dX4_countUsers_25 (by decide) (fun h25 => ?_) (fun h25 => ?_)
          · refine ev_iinc (lv' := [(4, .int (nI (n9 + 1))), (0, .ref 0), (1, .int S), (2, .int (nI (fo n9 (fun n c => cuN (σ 2) S s9 n c) (fo s9 (fun s c => fo 10 (fun n c => cuN (σ 2) S s n c) c) 0)))), (3, .int (nI s9))]) dX4_countUsers_41 4 rfl (nI_inc n9) (by decide) rfl ?_
            refine ev_goto (tgt := 13) dX4_countUsers_44 (by decide) ?_
            refine ev_lv (lv' := [(0, .ref 0), (1, .int S), (2, .int (nI (fo n9 (fun n c => cuN (σ 2) S s9 n c) (fo s9 (fun s c => fo 10 (fun n c => cuN (σ 2) S s n c) c) 0)))), (3, .int (nI s9)), (4, .int (nI (n9 + 1)))]) [1, 2, 3, 4, 0] rfl ?_
            have ih9 : av_Ev l RX4 cX4_countUsers 5 (some .int) av_E0 2 13 [(0, .ref 0), (1, .int S), (2, .int (nI (fo (n9 + 1) (fun n c => cuN (σ 2) S s9 n c) (fo s9 (fun s c => fo 10 (fun n c => cuN (σ 2) S s n c) c) 0)))), (3, .int (nI s9)), (4, .int (nI (n9 + 1)))] [] σ Q := ihn9
            rw [show nI (fo (n9 + 1) (fun n c => cuN (σ 2) S s9 n c) (fo s9 (fun s c => fo 10 (fun n c => cuN (σ 2) S s n c) c) 0)) = nI (fo n9 (fun n c => cuN (σ 2) S s9 n c) (fo s9 (fun s c => fo 10 (fun n c => cuN (σ 2) S s n c) c) 0)) from (by rw [fo_s]; simp [cuN, h7, h17, h25])] at ih9
            exact ih9
          · refine ev_aload_n dX4_countUsers_28 rfl 0 rfl ?_
            refine ev_iload_n dX4_countUsers_29 rfl 3 rfl ?_
            refine ev_iload dX4_countUsers_30 4 rfl ?_
            refine ev_callVi (x := b2i (us (σ 2) s9 n9)) dX4_countUsers_32 M_X4_78 Y_X4_hasUser [.int (nI s9), .int (nI n9)] (c_X4_hasUser s9 n9 (by omega) (by omega)) (by decide) (Nat.le_of_ble_eq_true rfl) (by decide) sh_0 rfl rfl rfl (Nat.le_of_ble_eq_true rfl) ?_
            refine ev_ifb_eq (tgt := 41) dX4_countUsers_35 (by decide) (fun h35 => ?_) (fun h35 => ?_)
            · refine ev_iinc (lv' := [(4, .int (nI (n9 + 1))), (0, .ref 0), (1, .int S), (2, .int (nI (fo n9 (fun n c => cuN (σ 2) S s9 n c) (fo s9 (fun s c => fo 10 (fun n c => cuN (σ 2) S s n c) c) 0)))), (3, .int (nI s9))]) dX4_countUsers_41 4 rfl (nI_inc n9) (by decide) rfl ?_
              refine ev_goto (tgt := 13) dX4_countUsers_44 (by decide) ?_
              refine ev_lv (lv' := [(0, .ref 0), (1, .int S), (2, .int (nI (fo n9 (fun n c => cuN (σ 2) S s9 n c) (fo s9 (fun s c => fo 10 (fun n c => cuN (σ 2) S s n c) c) 0)))), (3, .int (nI s9)), (4, .int (nI (n9 + 1)))]) [1, 2, 3, 4, 0] rfl ?_
              have ih9 : av_Ev l RX4 cX4_countUsers 5 (some .int) av_E0 2 13 [(0, .ref 0), (1, .int S), (2, .int (nI (fo (n9 + 1) (fun n c => cuN (σ 2) S s9 n c) (fo s9 (fun s c => fo 10 (fun n c => cuN (σ 2) S s n c) c) 0)))), (3, .int (nI s9)), (4, .int (nI (n9 + 1)))] [] σ Q := ihn9
              rw [show nI (fo (n9 + 1) (fun n c => cuN (σ 2) S s9 n c) (fo s9 (fun s c => fo 10 (fun n c => cuN (σ 2) S s n c) c) 0)) = nI (fo n9 (fun n c => cuN (σ 2) S s9 n c) (fo s9 (fun s c => fo 10 (fun n c => cuN (σ 2) S s n c) c) 0)) from (by rw [fo_s]; simp [cuN, h7, h17, h25, h35])] at ih9
              exact ih9
            · refine ev_iinc (lv' := [(2, .int (nI (fo n9 (fun n c => cuN (σ 2) S s9 n c) (fo s9 (fun s c => fo 10 (fun n c => cuN (σ 2) S s n c) c) 0) + 1))), (0, .ref 0), (1, .int S), (3, .int (nI s9)), (4, .int (nI n9))]) dX4_countUsers_38 2 rfl (nI_inc (fo n9 (fun n c => cuN (σ 2) S s9 n c) (fo s9 (fun s c => fo 10 (fun n c => cuN (σ 2) S s n c) c) 0))) (by decide) rfl ?_
              refine ev_iinc (lv' := [(4, .int (nI (n9 + 1))), (2, .int (nI (fo n9 (fun n c => cuN (σ 2) S s9 n c) (fo s9 (fun s c => fo 10 (fun n c => cuN (σ 2) S s n c) c) 0) + 1))), (0, .ref 0), (1, .int S), (3, .int (nI s9))]) dX4_countUsers_41 4 rfl (nI_inc n9) (by decide) rfl ?_
              refine ev_goto (tgt := 13) dX4_countUsers_44 (by decide) ?_
              refine ev_lv (lv' := [(0, .ref 0), (1, .int S), (2, .int (nI (fo n9 (fun n c => cuN (σ 2) S s9 n c) (fo s9 (fun s c => fo 10 (fun n c => cuN (σ 2) S s n c) c) 0) + 1))), (3, .int (nI s9)), (4, .int (nI (n9 + 1)))]) [2, 3, 1, 4, 0] rfl ?_
              have ih9 : av_Ev l RX4 cX4_countUsers 5 (some .int) av_E0 2 13 [(0, .ref 0), (1, .int S), (2, .int (nI (fo (n9 + 1) (fun n c => cuN (σ 2) S s9 n c) (fo s9 (fun s c => fo 10 (fun n c => cuN (σ 2) S s n c) c) 0)))), (3, .int (nI s9)), (4, .int (nI (n9 + 1)))] [] σ Q := ihn9
              rw [show nI (fo (n9 + 1) (fun n c => cuN (σ 2) S s9 n c) (fo s9 (fun s c => fo 10 (fun n c => cuN (σ 2) S s n c) c) 0)) = nI (fo n9 (fun n c => cuN (σ 2) S s9 n c) (fo s9 (fun s c => fo 10 (fun n c => cuN (σ 2) S s n c) c) 0) + 1) from (by rw [fo_s]; simp [cuN, h7, h17, h25, h35])] at ih9
              exact ih9

set_option maxRecDepth 100000 in
set_option maxHeartbeats 1000000 in
theorem c_X4_isMember {l : Launch} {σ : av_S} (s : Nat) (n : Nat) (ch : Nat) (hs : s < 6) (hn : n < 32) (hc : ch < 4) : av_M l RX4 cX4_isMember 4 (some .boolean) 1 [.ref 0, .int (nI s), .int (nI n), .int (nI ch)] σ (some (.int (b2i (tb (σ 3 (s * 4 + ch)) n)))) σ := by
  intro Q hQ
  show av_Ev l RX4 cX4_isMember 4 (some .boolean) av_E0 1 0 [(0, .ref 0), (1, .int (nI s)), (2, .int (nI n)), (3, .int (nI ch))] [] σ Q
  refine ev_aload_n dX4_isMember_0 rfl 0 rfl ?_
  refine ev_getR dX4_isMember_1 C_X4 L_X4_31 (by decide) (by decide) sh_0 rfl ?_
  refine ev_iload_n dX4_isMember_4 rfl 1 rfl ?_
  refine ev_iload_n dX4_isMember_5 rfl 3 rfl ?_
  refine ev_callSi (x := nI (s * 4 + ch)) dX4_isMember_6 (Or.inl M_X4_111) Y_X4_channelCell [.int (nI s), .int (nI ch)] (c_X4_channelCell s ch ) (by decide) (Nat.le_of_ble_eq_true rfl) rfl rfl (Nat.le_of_ble_eq_true rfl) ?_
  refine ev_iald (e := s * 4 + ch) (v := σ 3 (s * 4 + ch)) dX4_isMember_9 (by decide) sh_3 (by omega) (by decide) rfl ?_
  refine ev_iload_n dX4_isMember_10 rfl 2 rfl ?_
  refine ev_callSi (x := b2i (tb (σ 3 (s * 4 + ch)) n)) dX4_isMember_11 (Or.inr M_X4_59) Y_X5_hasBit [.int (σ 3 (s * 4 + ch)), .int (nI n)] (c_X5_hasBit (σ 3 (s * 4 + ch)) n (by omega)) (by decide) (Nat.le_of_ble_eq_true rfl) rfl rfl (Nat.le_of_ble_eq_true rfl) ?_
  exact ev_ireturn dX4_isMember_14 rfl (b2i_narrow _) (leafI hQ rfl rfl)

set_option maxRecDepth 100000 in
set_option maxHeartbeats 1000000 in
theorem c_X4_isOperator {l : Launch} {σ : av_S} (s : Nat) (n : Nat) (ch : Nat) (hs : s < 6) (hn : n < 32) (hc : ch < 4) : av_M l RX4 cX4_isOperator 4 (some .boolean) 1 [.ref 0, .int (nI s), .int (nI n), .int (nI ch)] σ (some (.int (b2i (tb (σ 4 (s * 4 + ch)) n)))) σ := by
  intro Q hQ
  show av_Ev l RX4 cX4_isOperator 4 (some .boolean) av_E0 1 0 [(0, .ref 0), (1, .int (nI s)), (2, .int (nI n)), (3, .int (nI ch))] [] σ Q
  refine ev_aload_n dX4_isOperator_0 rfl 0 rfl ?_
  refine ev_getR dX4_isOperator_1 C_X4 L_X4_34 (by decide) (by decide) sh_0 rfl ?_
  refine ev_iload_n dX4_isOperator_4 rfl 1 rfl ?_
  refine ev_iload_n dX4_isOperator_5 rfl 3 rfl ?_
  refine ev_callSi (x := nI (s * 4 + ch)) dX4_isOperator_6 (Or.inl M_X4_111) Y_X4_channelCell [.int (nI s), .int (nI ch)] (c_X4_channelCell s ch ) (by decide) (Nat.le_of_ble_eq_true rfl) rfl rfl (Nat.le_of_ble_eq_true rfl) ?_
  refine ev_iald (e := s * 4 + ch) (v := σ 4 (s * 4 + ch)) dX4_isOperator_9 (by decide) sh_4 (by omega) (by decide) rfl ?_
  refine ev_iload_n dX4_isOperator_10 rfl 2 rfl ?_
  refine ev_callSi (x := b2i (tb (σ 4 (s * 4 + ch)) n)) dX4_isOperator_11 (Or.inr M_X4_59) Y_X5_hasBit [.int (σ 4 (s * 4 + ch)), .int (nI n)] (c_X5_hasBit (σ 4 (s * 4 + ch)) n (by omega)) (by decide) (Nat.le_of_ble_eq_true rfl) rfl rfl (Nat.le_of_ble_eq_true rfl) ?_
  exact ev_ireturn dX4_isOperator_14 rfl (b2i_narrow _) (leafI hQ rfl rfl)

set_option maxRecDepth 100000 in
set_option maxHeartbeats 1000000 in
theorem c_X4_countChannelsOf {l : Launch} {σ : av_S} (s : Nat) (n : Nat) (hs : s < 6) (hn : n < 10) : av_M l RX4 cX4_countChannelsOf 5 (some .int) 2 [.ref 0, .int (nI s), .int (nI n)] σ (some (.int (nI (cc4 (σ 3) s n)))) σ := by
  intro Q hQ
  show av_Ev l RX4 cX4_countChannelsOf 5 (some .int) av_E0 2 0 [(0, .ref 0), (1, .int (nI s)), (2, .int (nI n))] [] σ Q
  refine ev_iconst dX4_countChannelsOf_0 (v := nI 0) (by decide) ?_
  refine ev_istore_n (lv' := [(3, .int (nI 0)), (0, .ref 0), (1, .int (nI s)), (2, .int (nI n))]) dX4_countChannelsOf_1 rfl (by decide) rfl ?_
  refine ev_iconst dX4_countChannelsOf_2 (v := nI 0) (by decide) ?_
  refine ev_istore (lv' := [(4, .int (nI 0)), (3, .int (nI 0)), (0, .ref 0), (1, .int (nI s)), (2, .int (nI n))]) dX4_countChannelsOf_3 (by decide) rfl ?_
  refine ev_lv (lv' := [(0, .ref 0), (1, .int (nI s)), (2, .int (nI n)), (3, .int (nI 0)), (4, .int (nI 0))]) [2, 3, 4, 1, 0] rfl ?_
  refine loop_up (fun k => av_Ev l RX4 cX4_countChannelsOf 5 (some .int) av_E0 2 5 [(0, .ref 0), (1, .int (nI s)), (2, .int (nI n)), (3, .int (nI (fo k (fun ch c => bif tb (σ 3 (s * 4 + ch)) n then c + 1 else c) 0))), (4, .int (nI k))] [] σ Q) 4 ?_ ?_
  · show av_Ev l RX4 cX4_countChannelsOf 5 (some .int) av_E0 2 5 [(0, .ref 0), (1, .int (nI s)), (2, .int (nI n)), (3, .int (nI (fo 4 (fun ch c => bif tb (σ 3 (s * 4 + ch)) n then c + 1 else c) 0))), (4, .int (nI 4))] [] σ Q
    refine ev_iload dX4_countChannelsOf_5 4 rfl ?_
    refine ev_iconst dX4_countChannelsOf_7 (v := nI 4) (by decide) ?_
    refine ev_ncmp_ge (tgt := 31) dX4_countChannelsOf_8 (by decide) (by omega) (by omega) (fun h8 => ?_) (fun h8 => ?_)
    · refine ev_iload_n dX4_countChannelsOf_31 rfl 3 rfl ?_
      exact ev_ireturn dX4_countChannelsOf_32 rfl rfl (leafI hQ (by first | rfl | (simp [h8]; done)) rfl)
    · exact absurd h8 (by omega)
  · intro k hk ihk
    show av_Ev l RX4 cX4_countChannelsOf 5 (some .int) av_E0 2 5 [(0, .ref 0), (1, .int (nI s)), (2, .int (nI n)), (3, .int (nI (fo k (fun ch c => bif tb (σ 3 (s * 4 + ch)) n then c + 1 else c) 0))), (4, .int (nI k))] [] σ Q
    refine ev_iload dX4_countChannelsOf_5 4 rfl ?_
    refine ev_iconst dX4_countChannelsOf_7 (v := nI 4) (by decide) ?_
    refine ev_ncmp_ge (tgt := 31) dX4_countChannelsOf_8 (by decide) (by omega) (by omega) (fun h8 => ?_) (fun h8 => ?_)
    · exact absurd h8 (by omega)
    · refine ev_aload_n dX4_countChannelsOf_11 rfl 0 rfl ?_
      refine ev_iload_n dX4_countChannelsOf_12 rfl 1 rfl ?_
      refine ev_iload_n dX4_countChannelsOf_13 rfl 2 rfl ?_
      refine ev_iload dX4_countChannelsOf_14 4 rfl ?_
      refine ev_callVi (x := b2i (tb (σ 3 (s * 4 + k)) n)) dX4_countChannelsOf_16 M_X4_87 Y_X4_isMember [.int (nI s), .int (nI n), .int (nI k)] (c_X4_isMember s n k (by omega) (by first | exact hn | omega) (by omega)) (by decide) (Nat.le_of_ble_eq_true rfl) (by decide) sh_0 rfl rfl rfl (Nat.le_of_ble_eq_true rfl) ?_
      refine ev_ifb_eq (tgt := 25) dX4_countChannelsOf_19 (by decide) (fun h19 => ?_) (fun h19 => ?_)
      · refine ev_iinc (lv' := [(4, .int (nI (k + 1))), (0, .ref 0), (1, .int (nI s)), (2, .int (nI n)), (3, .int (nI (fo k (fun ch c => bif tb (σ 3 (s * 4 + ch)) n then c + 1 else c) 0)))]) dX4_countChannelsOf_25 4 rfl (nI_inc k) (by decide) rfl ?_
        refine ev_goto (tgt := 5) dX4_countChannelsOf_28 (by decide) ?_
        refine ev_lv (lv' := [(0, .ref 0), (1, .int (nI s)), (2, .int (nI n)), (3, .int (nI (fo k (fun ch c => bif tb (σ 3 (s * 4 + ch)) n then c + 1 else c) 0))), (4, .int (nI (k + 1)))]) [1, 2, 3, 4, 0] rfl ?_
        have ih9 : av_Ev l RX4 cX4_countChannelsOf 5 (some .int) av_E0 2 5 [(0, .ref 0), (1, .int (nI s)), (2, .int (nI n)), (3, .int (nI (fo (k + 1) (fun ch c => bif tb (σ 3 (s * 4 + ch)) n then c + 1 else c) 0))), (4, .int (nI (k + 1)))] [] σ Q := ihk
        rw [show nI (fo (k + 1) (fun ch c => bif tb (σ 3 (s * 4 + ch)) n then c + 1 else c) 0) = nI (fo k (fun ch c => bif tb (σ 3 (s * 4 + ch)) n then c + 1 else c) 0) from (by simp [fo_s, h8, h19])] at ih9
        exact ih9
      · refine ev_iinc (lv' := [(3, .int (nI (fo k (fun ch c => bif tb (σ 3 (s * 4 + ch)) n then c + 1 else c) 0 + 1))), (0, .ref 0), (1, .int (nI s)), (2, .int (nI n)), (4, .int (nI k))]) dX4_countChannelsOf_22 3 rfl (nI_inc (fo k (fun ch c => bif tb (σ 3 (s * 4 + ch)) n then c + 1 else c) 0)) (by decide) rfl ?_
        refine ev_iinc (lv' := [(4, .int (nI (k + 1))), (3, .int (nI (fo k (fun ch c => bif tb (σ 3 (s * 4 + ch)) n then c + 1 else c) 0 + 1))), (0, .ref 0), (1, .int (nI s)), (2, .int (nI n))]) dX4_countChannelsOf_25 4 rfl (nI_inc k) (by decide) rfl ?_
        refine ev_goto (tgt := 5) dX4_countChannelsOf_28 (by decide) ?_
        refine ev_lv (lv' := [(0, .ref 0), (1, .int (nI s)), (2, .int (nI n)), (3, .int (nI (fo k (fun ch c => bif tb (σ 3 (s * 4 + ch)) n then c + 1 else c) 0 + 1))), (4, .int (nI (k + 1)))]) [2, 3, 4, 1, 0] rfl ?_
        have ih9 : av_Ev l RX4 cX4_countChannelsOf 5 (some .int) av_E0 2 5 [(0, .ref 0), (1, .int (nI s)), (2, .int (nI n)), (3, .int (nI (fo (k + 1) (fun ch c => bif tb (σ 3 (s * 4 + ch)) n then c + 1 else c) 0))), (4, .int (nI (k + 1)))] [] σ Q := ihk
        rw [show nI (fo (k + 1) (fun ch c => bif tb (σ 3 (s * 4 + ch)) n then c + 1 else c) 0) = nI (fo k (fun ch c => bif tb (σ 3 (s * 4 + ch)) n then c + 1 else c) 0 + 1) from (by simp [fo_s, h8, h19])] at ih9
        exact ih9

set_option maxRecDepth 100000 in
set_option maxHeartbeats 1000000 in
theorem c_X4_addUser {l : Launch} {σ : av_S} (s : Nat) (n : Nat) (hs : s < 6) (hn : n < 10) : av_M l RX4 cX4_addUser 3 none 1 [.ref 0, .int (nI s), .int (nI n)] σ none (av_set σ 2 (upd (σ 2) (s * 10 + n) (σ 0 1))) := by
  intro Q hQ
  show av_Ev l RX4 cX4_addUser 3 none av_E0 1 0 [(0, .ref 0), (1, .int (nI s)), (2, .int (nI n))] [] σ Q
  refine ev_aload_n dX4_addUser_0 rfl 0 rfl ?_
  refine ev_getR dX4_addUser_1 C_X4 L_X4_28 (by decide) (by decide) sh_0 rfl ?_
  refine ev_iload_n dX4_addUser_4 rfl 1 rfl ?_
  refine ev_iload_n dX4_addUser_5 rfl 2 rfl ?_
  refine ev_callSi (x := nI (s * 10 + n)) dX4_addUser_6 (Or.inl M_X4_74) Y_X4_userCell [.int (nI s), .int (nI n)] (c_X4_userCell s n ) (by decide) (Nat.le_of_ble_eq_true rfl) rfl rfl (Nat.le_of_ble_eq_true rfl) ?_
  refine ev_aload_n dX4_addUser_9 rfl 0 rfl ?_
  refine ev_getI dX4_addUser_10 C_X4 L_X4_15 (by decide) (by decide) sh_0 rfl ?_
  refine ev_iast (e := s * 10 + n) dX4_addUser_13 (by decide) sh_2 (by omega) (by decide) ?_
  exact ev_return dX4_addUser_14 rfl (leafV hQ rfl)

set_option maxRecDepth 100000 in
set_option maxHeartbeats 1000000 in
theorem c_X4_addMember {l : Launch} {σ : av_S} (s : Nat) (n : Nat) (ch : Nat) (hs : s < 6) (hn : n < 10) (hc : ch < 4) : av_M l RX4 cX4_addMember 5 none 1 [.ref 0, .int (nI s), .int (nI n), .int (nI ch)] σ none (av_set σ 3 (adM (σ 3) s n ch)) := by
  intro Q hQ
  show av_Ev l RX4 cX4_addMember 5 none av_E0 1 0 [(0, .ref 0), (1, .int (nI s)), (2, .int (nI n)), (3, .int (nI ch))] [] σ Q
  refine ev_iload_n dX4_addMember_0 rfl 1 rfl ?_
  refine ev_iload_n dX4_addMember_1 rfl 3 rfl ?_
  refine ev_callSi (x := nI (s * 4 + ch)) dX4_addMember_2 (Or.inl M_X4_111) Y_X4_channelCell [.int (nI s), .int (nI ch)] (c_X4_channelCell s ch ) (by decide) (Nat.le_of_ble_eq_true rfl) rfl rfl (Nat.le_of_ble_eq_true rfl) ?_
  refine ev_istore (lv' := [(4, .int (nI (s * 4 + ch))), (0, .ref 0), (1, .int (nI s)), (2, .int (nI n)), (3, .int (nI ch))]) dX4_addMember_5 (by decide) rfl ?_
  refine ev_aload_n dX4_addMember_7 rfl 1 rfl ?_
  refine ev_getR dX4_addMember_8 C_X4 L_X4_31 (by decide) (by decide) sh_0 rfl ?_
  refine ev_iload dX4_addMember_11 0 rfl ?_
  refine ev_aload_n dX4_addMember_13 rfl 1 rfl ?_
  refine ev_getR dX4_addMember_14 C_X4 L_X4_31 (by decide) (by decide) sh_0 rfl ?_
  refine ev_iload dX4_addMember_17 0 rfl ?_
  refine ev_iald (e := s * 4 + ch) (v := σ 3 (s * 4 + ch)) dX4_addMember_19 (by decide) sh_3 (by omega) (by decide) rfl ?_
  refine ev_iload_n dX4_addMember_20 rfl 3 rfl ?_
  refine ev_iconst dX4_addMember_21 (v := nI 1) (by decide) ?_
  refine ev_callSi (x := wb (σ 3 (s * 4 + ch)) n true) dX4_addMember_22 (Or.inr M_X4_63) Y_X5_withBit [.int (σ 3 (s * 4 + ch)), .int (nI n), .int (b2i true)] (c_X5_withBit (σ 3 (s * 4 + ch)) n true (by omega)) (by decide) (Nat.le_of_ble_eq_true rfl) rfl rfl (Nat.le_of_ble_eq_true rfl) ?_
  refine ev_iast (e := s * 4 + ch) dX4_addMember_25 (by decide) sh_3 (by omega) (by decide) ?_
  exact ev_return dX4_addMember_26 rfl (leafV hQ rfl)

set_option maxRecDepth 100000 in
set_option maxHeartbeats 1000000 in
theorem c_X4_addOperator {l : Launch} {σ : av_S} (s : Nat) (n : Nat) (ch : Nat) (hs : s < 6) (hn : n < 10) (hc : ch < 4) : av_M l RX4 cX4_addOperator 5 none 1 [.ref 0, .int (nI s), .int (nI n), .int (nI ch)] σ none (av_set σ 4 (adM (σ 4) s n ch)) := by
  intro Q hQ
  show av_Ev l RX4 cX4_addOperator 5 none av_E0 1 0 [(0, .ref 0), (1, .int (nI s)), (2, .int (nI n)), (3, .int (nI ch))] [] σ Q
  refine ev_iload_n dX4_addOperator_0 rfl 1 rfl ?_
  refine ev_iload_n dX4_addOperator_1 rfl 3 rfl ?_
  refine ev_callSi (x := nI (s * 4 + ch)) dX4_addOperator_2 (Or.inl M_X4_111) Y_X4_channelCell [.int (nI s), .int (nI ch)] (c_X4_channelCell s ch ) (by decide) (Nat.le_of_ble_eq_true rfl) rfl rfl (Nat.le_of_ble_eq_true rfl) ?_
  refine ev_istore (lv' := [(4, .int (nI (s * 4 + ch))), (0, .ref 0), (1, .int (nI s)), (2, .int (nI n)), (3, .int (nI ch))]) dX4_addOperator_5 (by decide) rfl ?_
  refine ev_aload_n dX4_addOperator_7 rfl 1 rfl ?_
  refine ev_getR dX4_addOperator_8 C_X4 L_X4_34 (by decide) (by decide) sh_0 rfl ?_
  refine ev_iload dX4_addOperator_11 0 rfl ?_
  refine ev_aload_n dX4_addOperator_13 rfl 1 rfl ?_
  refine ev_getR dX4_addOperator_14 C_X4 L_X4_34 (by decide) (by decide) sh_0 rfl ?_
  refine ev_iload dX4_addOperator_17 0 rfl ?_
  refine ev_iald (e := s * 4 + ch) (v := σ 4 (s * 4 + ch)) dX4_addOperator_19 (by decide) sh_4 (by omega) (by decide) rfl ?_
  refine ev_iload_n dX4_addOperator_20 rfl 3 rfl ?_
  refine ev_iconst dX4_addOperator_21 (v := nI 1) (by decide) ?_
  refine ev_callSi (x := wb (σ 4 (s * 4 + ch)) n true) dX4_addOperator_22 (Or.inr M_X4_63) Y_X5_withBit [.int (σ 4 (s * 4 + ch)), .int (nI n), .int (b2i true)] (c_X5_withBit (σ 4 (s * 4 + ch)) n true (by omega)) (by decide) (Nat.le_of_ble_eq_true rfl) rfl rfl (Nat.le_of_ble_eq_true rfl) ?_
  refine ev_iast (e := s * 4 + ch) dX4_addOperator_25 (by decide) sh_4 (by omega) (by decide) ?_
  exact ev_return dX4_addOperator_26 rfl (leafV hQ rfl)

set_option maxRecDepth 100000 in
set_option maxHeartbeats 1000000 in
theorem c_X4_removeMember {l : Launch} {σ : av_S} (s : Nat) (n : Nat) (ch : Nat) (hs : s < 6) (hn : n < 10) (hc : ch < 4) : av_M l RX4 cX4_removeMember 5 none 1 [.ref 0, .int (nI s), .int (nI n), .int (nI ch)] σ none (av_set (av_set σ 3 (rmM (σ 3) s n ch)) 4 (rmM (σ 4) s n ch)) := by
  intro Q hQ
  show av_Ev l RX4 cX4_removeMember 5 none av_E0 1 0 [(0, .ref 0), (1, .int (nI s)), (2, .int (nI n)), (3, .int (nI ch))] [] σ Q
  refine ev_iload_n dX4_removeMember_0 rfl 1 rfl ?_
  refine ev_iload_n dX4_removeMember_1 rfl 3 rfl ?_
  refine ev_callSi (x := nI (s * 4 + ch)) dX4_removeMember_2 (Or.inl M_X4_111) Y_X4_channelCell [.int (nI s), .int (nI ch)] (c_X4_channelCell s ch ) (by decide) (Nat.le_of_ble_eq_true rfl) rfl rfl (Nat.le_of_ble_eq_true rfl) ?_
  refine ev_istore (lv' := [(4, .int (nI (s * 4 + ch))), (0, .ref 0), (1, .int (nI s)), (2, .int (nI n)), (3, .int (nI ch))]) dX4_removeMember_5 (by decide) rfl ?_
  refine ev_aload_n dX4_removeMember_7 rfl 1 rfl ?_
  refine ev_getR dX4_removeMember_8 C_X4 L_X4_31 (by decide) (by decide) sh_0 rfl ?_
  refine ev_iload dX4_removeMember_11 0 rfl ?_
  refine ev_aload_n dX4_removeMember_13 rfl 1 rfl ?_
  refine ev_getR dX4_removeMember_14 C_X4 L_X4_31 (by decide) (by decide) sh_0 rfl ?_
  refine ev_iload dX4_removeMember_17 0 rfl ?_
  refine ev_iald (e := s * 4 + ch) (v := σ 3 (s * 4 + ch)) dX4_removeMember_19 (by decide) sh_3 (by omega) (by decide) rfl ?_
  refine ev_iload_n dX4_removeMember_20 rfl 3 rfl ?_
  refine ev_iconst dX4_removeMember_21 (v := nI 0) (by decide) ?_
  refine ev_callSi (x := wb (σ 3 (s * 4 + ch)) n false) dX4_removeMember_22 (Or.inr M_X4_63) Y_X5_withBit [.int (σ 3 (s * 4 + ch)), .int (nI n), .int (b2i false)] (c_X5_withBit (σ 3 (s * 4 + ch)) n false (by omega)) (by decide) (Nat.le_of_ble_eq_true rfl) rfl rfl (Nat.le_of_ble_eq_true rfl) ?_
  refine ev_iast (e := s * 4 + ch) dX4_removeMember_25 (by decide) sh_3 (by omega) (by decide) ?_
  refine ev_aload_n dX4_removeMember_26 rfl 1 rfl ?_
  refine ev_getR dX4_removeMember_27 C_X4 L_X4_34 (by decide) (by decide) sh_0 rfl ?_
  refine ev_iload dX4_removeMember_30 0 rfl ?_
  refine ev_aload_n dX4_removeMember_32 rfl 1 rfl ?_
  refine ev_getR dX4_removeMember_33 C_X4 L_X4_34 (by decide) (by decide) sh_0 rfl ?_
  refine ev_iload dX4_removeMember_36 0 rfl ?_
  refine ev_iald (e := s * 4 + ch) (v := σ 4 (s * 4 + ch)) dX4_removeMember_38 (by decide) sh_4 (by omega) (by decide) (by first | rfl | (simp only [av_set, cpS]; (repeat' split) <;> first | rfl | (exfalso; omega))) ?_
  refine ev_iload_n dX4_removeMember_39 rfl 3 rfl ?_
  refine ev_iconst dX4_removeMember_40 (v := nI 0) (by decide) ?_
  refine ev_callSi (x := wb (σ 4 (s * 4 + ch)) n false) dX4_removeMember_41 (Or.inr M_X4_63) Y_X5_withBit [.int (σ 4 (s * 4 + ch)), .int (nI n), .int (b2i false)] (c_X5_withBit (σ 4 (s * 4 + ch)) n false (by omega)) (by decide) (Nat.le_of_ble_eq_true rfl) rfl rfl (Nat.le_of_ble_eq_true rfl) ?_
  refine ev_iast (e := s * 4 + ch) dX4_removeMember_44 (by decide) sh_4 (by omega) (by decide) ?_
  refine ev_st (σ' := av_set (av_set σ 3 (upd (σ 3) (s * 4 + ch) (wb (σ 3 (s * 4 + ch)) n false))) 4 (upd (σ 4) (s * 4 + ch) (wb (σ 4 (s * 4 + ch)) n false))) (by first | rfl | (funext a; by_cases q3 : a = 3; (next => subst q3; rfl); by_cases q4 : a = 4; (next => subst q4; rfl); simp only [av_set, q3, q4, if_false]) | exact av_set_set _ _ _ _ | (funext a; unfold av_set; (repeat' split) <;> first | rfl | (exfalso; omega)) | (funext a; simp only [av_set, cpS]; (repeat' split) <;> first | rfl | (exfalso; omega))) ?_
  exact ev_return dX4_removeMember_45 rfl (leafV hQ rfl)

set_option maxRecDepth 100000 in
set_option maxHeartbeats 1000000 in
theorem c_X4_removeUser {l : Launch} {σ : av_S} (s : Nat) (n : Nat) (hs : s < 6) (hn : n < 10) : av_M l RX4 cX4_removeUser 4 none 2 [.ref 0, .int (nI s), .int (nI n)] σ none (av_set (av_set (av_set σ 2 (upd (σ 2) (s * 10 + n) (-1))) 3 (rmA (σ 3) s n)) 4 (rmA (σ 4) s n)) := by
  intro Q hQ
  show av_Ev l RX4 cX4_removeUser 4 none av_E0 2 0 [(0, .ref 0), (1, .int (nI s)), (2, .int (nI n))] [] σ Q
  refine ev_aload_n dX4_removeUser_0 rfl 0 rfl ?_
  refine ev_getR dX4_removeUser_1 C_X4 L_X4_28 (by decide) (by decide) sh_0 rfl ?_
  refine ev_iload_n dX4_removeUser_4 rfl 1 rfl ?_
  refine ev_iload_n dX4_removeUser_5 rfl 2 rfl ?_
  refine ev_callSi (x := nI (s * 10 + n)) dX4_removeUser_6 (Or.inl M_X4_74) Y_X4_userCell [.int (nI s), .int (nI n)] (c_X4_userCell s n ) (by decide) (Nat.le_of_ble_eq_true rfl) rfl rfl (Nat.le_of_ble_eq_true rfl) ?_
  refine ev_iconst dX4_removeUser_9 (v := (-1)) (by decide) ?_
  refine ev_iast (e := s * 10 + n) dX4_removeUser_10 (by decide) sh_2 (by omega) (by decide) ?_
  refine ev_iconst dX4_removeUser_11 (v := nI 0) (by decide) ?_
  refine ev_istore_n (lv' := [(3, .int (nI 0)), (0, .ref 0), (1, .int (nI s)), (2, .int (nI n))]) dX4_removeUser_12 rfl (by decide) rfl ?_
  refine ev_lv (lv' := [(0, .ref 0), (1, .int (nI s)), (2, .int (nI n)), (3, .int (nI 0))]) [1, 2, 3, 0] rfl ?_
  refine ev_st (σ' := av_set (av_set (av_set σ 2 (upd (σ 2) (s * 10 + n) (-1))) 3 (fo 0 (fun ch M => rmM M s n ch) (σ 3))) 4 (fo 0 (fun ch M => rmM M s n ch) (σ 4))) (by simp only [fo_0] <;> first | rfl | (funext a; unfold av_set; (repeat' split) <;> first | rfl | (subst_vars; rfl) | (exfalso; omega))) ?_
  refine loop_up (fun k => av_Ev l RX4 cX4_removeUser 4 none av_E0 2 13 [(0, .ref 0), (1, .int (nI s)), (2, .int (nI n)), (3, .int (nI k))] [] (av_set (av_set (av_set σ 2 (upd (σ 2) (s * 10 + n) (-1))) 3 (fo k (fun ch M => rmM M s n ch) (σ 3))) 4 (fo k (fun ch M => rmM M s n ch) (σ 4))) Q) 4 ?_ ?_
  · show av_Ev l RX4 cX4_removeUser 4 none av_E0 2 13 [(0, .ref 0), (1, .int (nI s)), (2, .int (nI n)), (3, .int (nI 4))] [] (av_set (av_set (av_set σ 2 (upd (σ 2) (s * 10 + n) (-1))) 3 (fo 4 (fun ch M => rmM M s n ch) (σ 3))) 4 (fo 4 (fun ch M => rmM M s n ch) (σ 4))) Q
    refine ev_iload_n dX4_removeUser_13 rfl 3 rfl ?_
    refine ev_iconst dX4_removeUser_14 (v := nI 4) (by decide) ?_
    refine ev_ncmp_ge (tgt := 31) dX4_removeUser_15 (by decide) (by omega) (by omega) (fun h15 => ?_) (fun h15 => ?_)
    · exact ev_return dX4_removeUser_31 rfl (leafV hQ rfl)
    · exact absurd h15 (by omega)
  · intro k hk ihk
    show av_Ev l RX4 cX4_removeUser 4 none av_E0 2 13 [(0, .ref 0), (1, .int (nI s)), (2, .int (nI n)), (3, .int (nI k))] [] (av_set (av_set (av_set σ 2 (upd (σ 2) (s * 10 + n) (-1))) 3 (fo k (fun ch M => rmM M s n ch) (σ 3))) 4 (fo k (fun ch M => rmM M s n ch) (σ 4))) Q
    refine ev_iload_n dX4_removeUser_13 rfl 3 rfl ?_
    refine ev_iconst dX4_removeUser_14 (v := nI 4) (by decide) ?_
    refine ev_ncmp_ge (tgt := 31) dX4_removeUser_15 (by decide) (by omega) (by omega) (fun h15 => ?_) (fun h15 => ?_)
    · exact absurd h15 (by omega)
    · refine ev_aload_n dX4_removeUser_18 rfl 0 rfl ?_
      refine ev_iload_n dX4_removeUser_19 rfl 1 rfl ?_
      refine ev_iload_n dX4_removeUser_20 rfl 2 rfl ?_
      refine ev_iload_n dX4_removeUser_21 rfl 3 rfl ?_
      refine ev_callVv dX4_removeUser_22 M_X4_91 Y_X4_removeMember [.int (nI s), .int (nI n), .int (nI k)] (c_X4_removeMember s n k (by omega) (by first | exact hn | omega) (by omega)) (by decide) (Nat.le_of_ble_eq_true rfl) (by decide) sh_0 rfl rfl rfl (Nat.le_of_ble_eq_true rfl) ?_
      refine ev_st (σ' := av_set (av_set (av_set σ 2 (upd (σ 2) (s * 10 + n) (-1))) 3 (rmM (fo k (fun ch M => rmM M s n ch) (σ 3)) s n k)) 4 (rmM (fo k (fun ch M => rmM M s n ch) (σ 4)) s n k)) (by first | rfl | (funext a; by_cases q2 : a = 2; (next => subst q2; rfl); by_cases q3 : a = 3; (next => subst q3; rfl); by_cases q4 : a = 4; (next => subst q4; rfl); simp only [av_set, q2, q3, q4, if_false]) | exact av_set_set _ _ _ _ | (funext a; unfold av_set; (repeat' split) <;> first | rfl | (exfalso; omega)) | (funext a; simp only [av_set, cpS]; (repeat' split) <;> first | rfl | (exfalso; omega))) ?_
      refine ev_iinc (lv' := [(3, .int (nI (k + 1))), (0, .ref 0), (1, .int (nI s)), (2, .int (nI n))]) dX4_removeUser_25 3 rfl (nI_inc k) (by decide) rfl ?_
      refine ev_goto (tgt := 13) dX4_removeUser_28 (by decide) ?_
      refine ev_lv (lv' := [(0, .ref 0), (1, .int (nI s)), (2, .int (nI n)), (3, .int (nI (k + 1)))]) [1, 2, 3, 0] rfl ?_
      have ih9 : av_Ev l RX4 cX4_removeUser 4 none av_E0 2 13 [(0, .ref 0), (1, .int (nI s)), (2, .int (nI n)), (3, .int (nI (k + 1)))] [] (av_set (av_set (av_set σ 2 (upd (σ 2) (s * 10 + n) (-1))) 3 (fo (k + 1) (fun ch M => rmM M s n ch) (σ 3))) 4 (fo (k + 1) (fun ch M => rmM M s n ch) (σ 4))) Q := ihk
      rw [show av_set (av_set (av_set σ 2 (upd (σ 2) (s * 10 + n) (-1))) 3 (fo (k + 1) (fun ch M => rmM M s n ch) (σ 3))) 4 (fo (k + 1) (fun ch M => rmM M s n ch) (σ 4)) = av_set (av_set (av_set σ 2 (upd (σ 2) (s * 10 + n) (-1))) 3 (rmM (fo k (fun ch M => rmM M s n ch) (σ 3)) s n k)) 4 (rmM (fo k (fun ch M => rmM M s n ch) (σ 4)) s n k) from rfl] at ih9
      exact ih9

set_option maxRecDepth 100000 in
set_option maxHeartbeats 1000000 in
theorem c_X4_unionOf3 {l : Launch} {σ : av_S} (S : Int32) (ch : Nat) (hc : ch < 4) : av_M l RX4 cX4_unionOf 5 (some .int) 1 [.ref 3, .int S, .int (nI ch)] σ (some (.int (un (σ 3) S ch))) σ := by
  intro Q hQ
  show av_Ev l RX4 cX4_unionOf 5 (some .int) av_E0 1 0 [(0, .ref 3), (1, .int S), (2, .int (nI ch))] [] σ Q
  refine ev_iconst dX4_unionOf_0 (v := nI 0) (by decide) ?_
  refine ev_istore_n (lv' := [(3, .int (nI 0)), (0, .ref 3), (1, .int S), (2, .int (nI ch))]) dX4_unionOf_1 rfl (by decide) rfl ?_
  refine ev_iconst dX4_unionOf_2 (v := nI 0) (by decide) ?_
  refine ev_istore (lv' := [(4, .int (nI 0)), (3, .int (nI 0)), (0, .ref 3), (1, .int S), (2, .int (nI ch))]) dX4_unionOf_3 (by decide) rfl ?_
  refine ev_lv (lv' := [(0, .ref 3), (1, .int S), (2, .int (nI ch)), (3, .int (nI 0)), (4, .int (nI 0))]) [2, 3, 4, 1, 0] rfl ?_
  refine loop_up (fun k => av_Ev l RX4 cX4_unionOf 5 (some .int) av_E0 1 5 [(0, .ref 3), (1, .int S), (2, .int (nI ch)), (3, .int (fo k (fun s a => bif tb S s then a ||| σ 3 (s * 4 + ch) else a) (nI 0))), (4, .int (nI k))] [] σ Q) 6 ?_ ?_
  · show av_Ev l RX4 cX4_unionOf 5 (some .int) av_E0 1 5 [(0, .ref 3), (1, .int S), (2, .int (nI ch)), (3, .int (fo 6 (fun s a => bif tb S s then a ||| σ 3 (s * 4 + ch) else a) (nI 0))), (4, .int (nI 6))] [] σ Q
    refine ev_iload dX4_unionOf_5 4 rfl ?_
    refine ev_bipush dX4_unionOf_7 (v := nI 6) (by decide) ?_
    refine ev_ncmp_ge (tgt := 38) dX4_unionOf_9 (by decide) (by omega) (by omega) (fun h9 => ?_) (fun h9 => ?_)
    · refine ev_iload_n dX4_unionOf_38 rfl 3 rfl ?_
      exact ev_ireturn dX4_unionOf_39 rfl rfl (leafI hQ (by first | rfl | (simp [h9]; done)) rfl)
    · exact absurd h9 (by omega)
  · intro k hk ihk
    show av_Ev l RX4 cX4_unionOf 5 (some .int) av_E0 1 5 [(0, .ref 3), (1, .int S), (2, .int (nI ch)), (3, .int (fo k (fun s a => bif tb S s then a ||| σ 3 (s * 4 + ch) else a) (nI 0))), (4, .int (nI k))] [] σ Q
    refine ev_iload dX4_unionOf_5 4 rfl ?_
    refine ev_bipush dX4_unionOf_7 (v := nI 6) (by decide) ?_
    refine ev_ncmp_ge (tgt := 38) dX4_unionOf_9 (by decide) (by omega) (by omega) (fun h9 => ?_) (fun h9 => ?_)
    · exact absurd h9 (by omega)
    · refine ev_iload_n dX4_unionOf_12 rfl 1 rfl ?_
      refine ev_iload dX4_unionOf_13 4 rfl ?_
      refine ev_callSi (x := b2i (tb S k)) dX4_unionOf_15 (Or.inr M_X4_59) Y_X5_hasBit [.int S, .int (nI k)] (c_X5_hasBit S k (by omega)) (by decide) (Nat.le_of_ble_eq_true rfl) rfl rfl (Nat.le_of_ble_eq_true rfl) ?_
      refine ev_ifb_eq (tgt := 32) dX4_unionOf_18 (by decide) (fun h18 => ?_) (fun h18 => ?_)
      · refine ev_iinc (lv' := [(4, .int (nI (k + 1))), (0, .ref 3), (1, .int S), (2, .int (nI ch)), (3, .int (fo k (fun s a => bif tb S s then a ||| σ 3 (s * 4 + ch) else a) (nI 0)))]) dX4_unionOf_32 4 rfl (nI_inc k) (by decide) rfl ?_
        refine ev_goto (tgt := 5) dX4_unionOf_35 (by decide) ?_
        refine ev_lv (lv' := [(0, .ref 3), (1, .int S), (2, .int (nI ch)), (3, .int (fo k (fun s a => bif tb S s then a ||| σ 3 (s * 4 + ch) else a) (nI 0))), (4, .int (nI (k + 1)))]) [1, 2, 3, 4, 0] rfl ?_
        have ih9 : av_Ev l RX4 cX4_unionOf 5 (some .int) av_E0 1 5 [(0, .ref 3), (1, .int S), (2, .int (nI ch)), (3, .int (fo (k + 1) (fun s a => bif tb S s then a ||| σ 3 (s * 4 + ch) else a) (nI 0))), (4, .int (nI (k + 1)))] [] σ Q := ihk
        rw [show fo (k + 1) (fun s a => bif tb S s then a ||| σ 3 (s * 4 + ch) else a) (nI 0) = fo k (fun s a => bif tb S s then a ||| σ 3 (s * 4 + ch) else a) (nI 0) from (by simp [fo_s, h9, h18])] at ih9
        exact ih9
      · refine ev_iload_n dX4_unionOf_21 rfl 3 rfl ?_
        refine ev_aload_n dX4_unionOf_22 rfl 0 rfl ?_
        refine ev_iload dX4_unionOf_23 4 rfl ?_
        refine ev_iload_n dX4_unionOf_25 rfl 2 rfl ?_
        refine ev_callSi (x := nI (k * 4 + ch)) dX4_unionOf_26 (Or.inl M_X4_111) Y_X4_channelCell [.int (nI k), .int (nI ch)] (c_X4_channelCell k ch ) (by decide) (Nat.le_of_ble_eq_true rfl) rfl rfl (Nat.le_of_ble_eq_true rfl) ?_
        refine ev_iald (e := k * 4 + ch) (v := σ 3 (k * 4 + ch)) dX4_unionOf_29 (by decide) sh_3 (by omega) (by decide) rfl ?_
        refine ev_ior dX4_unionOf_30 ?_
        refine ev_istore_n (lv' := [(3, .int ((fo k (fun s a => bif tb S s then a ||| σ 3 (s * 4 + ch) else a) (nI 0)) ||| (σ 3 (k * 4 + ch)))), (0, .ref 3), (1, .int S), (2, .int (nI ch)), (4, .int (nI k))]) dX4_unionOf_31 rfl (by decide) rfl ?_
        refine ev_iinc (lv' := [(4, .int (nI (k + 1))), (3, .int ((fo k (fun s a => bif tb S s then a ||| σ 3 (s * 4 + ch) else a) (nI 0)) ||| (σ 3 (k * 4 + ch)))), (0, .ref 3), (1, .int S), (2, .int (nI ch))]) dX4_unionOf_32 4 rfl (nI_inc k) (by decide) rfl ?_
        refine ev_goto (tgt := 5) dX4_unionOf_35 (by decide) ?_
        refine ev_lv (lv' := [(0, .ref 3), (1, .int S), (2, .int (nI ch)), (3, .int ((fo k (fun s a => bif tb S s then a ||| σ 3 (s * 4 + ch) else a) (nI 0)) ||| (σ 3 (k * 4 + ch)))), (4, .int (nI (k + 1)))]) [2, 3, 4, 1, 0] rfl ?_
        have ih9 : av_Ev l RX4 cX4_unionOf 5 (some .int) av_E0 1 5 [(0, .ref 3), (1, .int S), (2, .int (nI ch)), (3, .int (fo (k + 1) (fun s a => bif tb S s then a ||| σ 3 (s * 4 + ch) else a) (nI 0))), (4, .int (nI (k + 1)))] [] σ Q := ihk
        rw [show fo (k + 1) (fun s a => bif tb S s then a ||| σ 3 (s * 4 + ch) else a) (nI 0) = (fo k (fun s a => bif tb S s then a ||| σ 3 (s * 4 + ch) else a) (nI 0)) ||| (σ 3 (k * 4 + ch)) from (by simp [fo_s, h9, h18])] at ih9
        exact ih9

set_option maxRecDepth 100000 in
set_option maxHeartbeats 1000000 in
theorem c_X4_unionOf4 {l : Launch} {σ : av_S} (S : Int32) (ch : Nat) (hc : ch < 4) : av_M l RX4 cX4_unionOf 5 (some .int) 1 [.ref 4, .int S, .int (nI ch)] σ (some (.int (un (σ 4) S ch))) σ := by
  intro Q hQ
  show av_Ev l RX4 cX4_unionOf 5 (some .int) av_E0 1 0 [(0, .ref 4), (1, .int S), (2, .int (nI ch))] [] σ Q
  refine ev_iconst dX4_unionOf_0 (v := nI 0) (by decide) ?_
  refine ev_istore_n (lv' := [(3, .int (nI 0)), (0, .ref 4), (1, .int S), (2, .int (nI ch))]) dX4_unionOf_1 rfl (by decide) rfl ?_
  refine ev_iconst dX4_unionOf_2 (v := nI 0) (by decide) ?_
  refine ev_istore (lv' := [(4, .int (nI 0)), (3, .int (nI 0)), (0, .ref 4), (1, .int S), (2, .int (nI ch))]) dX4_unionOf_3 (by decide) rfl ?_
  refine ev_lv (lv' := [(0, .ref 4), (1, .int S), (2, .int (nI ch)), (3, .int (nI 0)), (4, .int (nI 0))]) [2, 3, 4, 1, 0] rfl ?_
  refine loop_up (fun k => av_Ev l RX4 cX4_unionOf 5 (some .int) av_E0 1 5 [(0, .ref 4), (1, .int S), (2, .int (nI ch)), (3, .int (fo k (fun s a => bif tb S s then a ||| σ 4 (s * 4 + ch) else a) (nI 0))), (4, .int (nI k))] [] σ Q) 6 ?_ ?_
  · show av_Ev l RX4 cX4_unionOf 5 (some .int) av_E0 1 5 [(0, .ref 4), (1, .int S), (2, .int (nI ch)), (3, .int (fo 6 (fun s a => bif tb S s then a ||| σ 4 (s * 4 + ch) else a) (nI 0))), (4, .int (nI 6))] [] σ Q
    refine ev_iload dX4_unionOf_5 4 rfl ?_
    refine ev_bipush dX4_unionOf_7 (v := nI 6) (by decide) ?_
    refine ev_ncmp_ge (tgt := 38) dX4_unionOf_9 (by decide) (by omega) (by omega) (fun h9 => ?_) (fun h9 => ?_)
    · refine ev_iload_n dX4_unionOf_38 rfl 3 rfl ?_
      exact ev_ireturn dX4_unionOf_39 rfl rfl (leafI hQ (by first | rfl | (simp [h9]; done)) rfl)
    · exact absurd h9 (by omega)
  · intro k hk ihk
    show av_Ev l RX4 cX4_unionOf 5 (some .int) av_E0 1 5 [(0, .ref 4), (1, .int S), (2, .int (nI ch)), (3, .int (fo k (fun s a => bif tb S s then a ||| σ 4 (s * 4 + ch) else a) (nI 0))), (4, .int (nI k))] [] σ Q
    refine ev_iload dX4_unionOf_5 4 rfl ?_
    refine ev_bipush dX4_unionOf_7 (v := nI 6) (by decide) ?_
    refine ev_ncmp_ge (tgt := 38) dX4_unionOf_9 (by decide) (by omega) (by omega) (fun h9 => ?_) (fun h9 => ?_)
    · exact absurd h9 (by omega)
    · refine ev_iload_n dX4_unionOf_12 rfl 1 rfl ?_
      refine ev_iload dX4_unionOf_13 4 rfl ?_
      refine ev_callSi (x := b2i (tb S k)) dX4_unionOf_15 (Or.inr M_X4_59) Y_X5_hasBit [.int S, .int (nI k)] (c_X5_hasBit S k (by omega)) (by decide) (Nat.le_of_ble_eq_true rfl) rfl rfl (Nat.le_of_ble_eq_true rfl) ?_
      refine ev_ifb_eq (tgt := 32) dX4_unionOf_18 (by decide) (fun h18 => ?_) (fun h18 => ?_)
      · refine ev_iinc (lv' := [(4, .int (nI (k + 1))), (0, .ref 4), (1, .int S), (2, .int (nI ch)), (3, .int (fo k (fun s a => bif tb S s then a ||| σ 4 (s * 4 + ch) else a) (nI 0)))]) dX4_unionOf_32 4 rfl (nI_inc k) (by decide) rfl ?_
        refine ev_goto (tgt := 5) dX4_unionOf_35 (by decide) ?_
        refine ev_lv (lv' := [(0, .ref 4), (1, .int S), (2, .int (nI ch)), (3, .int (fo k (fun s a => bif tb S s then a ||| σ 4 (s * 4 + ch) else a) (nI 0))), (4, .int (nI (k + 1)))]) [1, 2, 3, 4, 0] rfl ?_
        have ih9 : av_Ev l RX4 cX4_unionOf 5 (some .int) av_E0 1 5 [(0, .ref 4), (1, .int S), (2, .int (nI ch)), (3, .int (fo (k + 1) (fun s a => bif tb S s then a ||| σ 4 (s * 4 + ch) else a) (nI 0))), (4, .int (nI (k + 1)))] [] σ Q := ihk
        rw [show fo (k + 1) (fun s a => bif tb S s then a ||| σ 4 (s * 4 + ch) else a) (nI 0) = fo k (fun s a => bif tb S s then a ||| σ 4 (s * 4 + ch) else a) (nI 0) from (by simp [fo_s, h9, h18])] at ih9
        exact ih9
      · refine ev_iload_n dX4_unionOf_21 rfl 3 rfl ?_
        refine ev_aload_n dX4_unionOf_22 rfl 0 rfl ?_
        refine ev_iload dX4_unionOf_23 4 rfl ?_
        refine ev_iload_n dX4_unionOf_25 rfl 2 rfl ?_
        refine ev_callSi (x := nI (k * 4 + ch)) dX4_unionOf_26 (Or.inl M_X4_111) Y_X4_channelCell [.int (nI k), .int (nI ch)] (c_X4_channelCell k ch ) (by decide) (Nat.le_of_ble_eq_true rfl) rfl rfl (Nat.le_of_ble_eq_true rfl) ?_
        refine ev_iald (e := k * 4 + ch) (v := σ 4 (k * 4 + ch)) dX4_unionOf_29 (by decide) sh_4 (by omega) (by decide) rfl ?_
        refine ev_ior dX4_unionOf_30 ?_
        refine ev_istore_n (lv' := [(3, .int ((fo k (fun s a => bif tb S s then a ||| σ 4 (s * 4 + ch) else a) (nI 0)) ||| (σ 4 (k * 4 + ch)))), (0, .ref 4), (1, .int S), (2, .int (nI ch)), (4, .int (nI k))]) dX4_unionOf_31 rfl (by decide) rfl ?_
        refine ev_iinc (lv' := [(4, .int (nI (k + 1))), (3, .int ((fo k (fun s a => bif tb S s then a ||| σ 4 (s * 4 + ch) else a) (nI 0)) ||| (σ 4 (k * 4 + ch)))), (0, .ref 4), (1, .int S), (2, .int (nI ch))]) dX4_unionOf_32 4 rfl (nI_inc k) (by decide) rfl ?_
        refine ev_goto (tgt := 5) dX4_unionOf_35 (by decide) ?_
        refine ev_lv (lv' := [(0, .ref 4), (1, .int S), (2, .int (nI ch)), (3, .int ((fo k (fun s a => bif tb S s then a ||| σ 4 (s * 4 + ch) else a) (nI 0)) ||| (σ 4 (k * 4 + ch)))), (4, .int (nI (k + 1)))]) [2, 3, 4, 1, 0] rfl ?_
        have ih9 : av_Ev l RX4 cX4_unionOf 5 (some .int) av_E0 1 5 [(0, .ref 4), (1, .int S), (2, .int (nI ch)), (3, .int (fo (k + 1) (fun s a => bif tb S s then a ||| σ 4 (s * 4 + ch) else a) (nI 0))), (4, .int (nI (k + 1)))] [] σ Q := ihk
        rw [show fo (k + 1) (fun s a => bif tb S s then a ||| σ 4 (s * 4 + ch) else a) (nI 0) = (fo k (fun s a => bif tb S s then a ||| σ 4 (s * 4 + ch) else a) (nI 0)) ||| (σ 4 (k * 4 + ch)) from (by simp [fo_s, h9, h18])] at ih9
        exact ih9

set_option maxRecDepth 100000 in
set_option maxHeartbeats 1000000 in
theorem c_X4_membersIn {l : Launch} {σ : av_S} (S : Int32) (ch : Nat) (hc : ch < 4) : av_M l RX4 cX4_membersIn 3 (some .int) 2 [.ref 0, .int S, .int (nI ch)] σ (some (.int (un (σ 3) S ch))) σ := by
  intro Q hQ
  show av_Ev l RX4 cX4_membersIn 3 (some .int) av_E0 2 0 [(0, .ref 0), (1, .int S), (2, .int (nI ch))] [] σ Q
  refine ev_aload_n dX4_membersIn_0 rfl 0 rfl ?_
  refine ev_getR dX4_membersIn_1 C_X4 L_X4_31 (by decide) (by decide) sh_0 rfl ?_
  refine ev_iload_n dX4_membersIn_4 rfl 1 rfl ?_
  refine ev_iload_n dX4_membersIn_5 rfl 2 rfl ?_
  refine ev_callSi (x := un (σ 3) S ch) dX4_membersIn_6 (Or.inl M_X4_114) Y_X4_unionOf [.ref 3, .int S, .int (nI ch)] (c_X4_unionOf3 S ch (by omega)) (by decide) (Nat.le_of_ble_eq_true rfl) rfl rfl (Nat.le_of_ble_eq_true rfl) ?_
  exact ev_ireturn dX4_membersIn_9 rfl rfl (leafI hQ rfl rfl)

set_option maxRecDepth 100000 in
set_option maxHeartbeats 1000000 in
theorem c_X4_operatorsIn {l : Launch} {σ : av_S} (S : Int32) (ch : Nat) (hc : ch < 4) : av_M l RX4 cX4_operatorsIn 3 (some .int) 2 [.ref 0, .int S, .int (nI ch)] σ (some (.int (un (σ 4) S ch))) σ := by
  intro Q hQ
  show av_Ev l RX4 cX4_operatorsIn 3 (some .int) av_E0 2 0 [(0, .ref 0), (1, .int S), (2, .int (nI ch))] [] σ Q
  refine ev_aload_n dX4_operatorsIn_0 rfl 0 rfl ?_
  refine ev_getR dX4_operatorsIn_1 C_X4 L_X4_34 (by decide) (by decide) sh_0 rfl ?_
  refine ev_iload_n dX4_operatorsIn_4 rfl 1 rfl ?_
  refine ev_iload_n dX4_operatorsIn_5 rfl 2 rfl ?_
  refine ev_callSi (x := un (σ 4) S ch) dX4_operatorsIn_6 (Or.inl M_X4_114) Y_X4_unionOf [.ref 4, .int S, .int (nI ch)] (c_X4_unionOf4 S ch (by omega)) (by decide) (Nat.le_of_ble_eq_true rfl) rfl rfl (Nat.le_of_ble_eq_true rfl) ?_
  exact ev_ireturn dX4_operatorsIn_9 rfl rfl (leafI hQ rfl rfl)

set_option maxRecDepth 100000 in
set_option maxHeartbeats 1000000 in
theorem c_X4_shareNetwork {l : Launch} {σ : av_S} (a : Nat) (b : Nat) (ha : a < 6) (hb : b < 32) : av_M l RX4 cX4_shareNetwork 3 (some .boolean) 3 [.ref 0, .int (nI a), .int (nI b)] σ (some (.int (b2i (tb (net (σ 1) a) b)))) σ := by
  intro Q hQ
  show av_Ev l RX4 cX4_shareNetwork 3 (some .boolean) av_E0 3 0 [(0, .ref 0), (1, .int (nI a)), (2, .int (nI b))] [] σ Q
  refine ev_aload_n dX4_shareNetwork_0 rfl 0 rfl ?_
  refine ev_iload_n dX4_shareNetwork_1 rfl 1 rfl ?_
  refine ev_callVi (x := net (σ 1) a) dX4_shareNetwork_2 M_X4_71 Y_X4_networkOf [.int (nI a)] (c_X4_networkOf a (by omega)) (by decide) (Nat.le_of_ble_eq_true rfl) (by decide) sh_0 rfl rfl rfl (Nat.le_of_ble_eq_true rfl) ?_
  refine ev_iload_n dX4_shareNetwork_5 rfl 2 rfl ?_
  refine ev_callSi (x := b2i (tb (net (σ 1) a) b)) dX4_shareNetwork_6 (Or.inr M_X4_59) Y_X5_hasBit [.int (net (σ 1) a), .int (nI b)] (c_X5_hasBit (net (σ 1) a) b (by omega)) (by decide) (Nat.le_of_ble_eq_true rfl) rfl rfl (Nat.le_of_ble_eq_true rfl) ?_
  exact ev_ireturn dX4_shareNetwork_9 rfl (b2i_narrow _) (leafI hQ rfl rfl)

set_option maxRecDepth 100000 in
set_option maxHeartbeats 1000000 in
theorem c_X4_setOperators {l : Launch} {σ : av_S} (S : Int32) (ch : Nat) (N : Int32) (hc : ch < 4) : av_M l RX4 cX4_setOperators 6 none 1 [.ref 0, .int S, .int (nI ch), .int N] σ none (av_set σ 4 (so (σ 3) (σ 4) S ch N)) := by
  intro Q hQ
  show av_Ev l RX4 cX4_setOperators 6 none av_E0 1 0 [(0, .ref 0), (1, .int S), (2, .int (nI ch)), (3, .int N)] [] σ Q
  refine ev_iconst dX4_setOperators_0 (v := nI 0) (by decide) ?_
  refine ev_istore (lv' := [(4, .int (nI 0)), (0, .ref 0), (1, .int S), (2, .int (nI ch)), (3, .int N)]) dX4_setOperators_1 (by decide) rfl ?_
  refine ev_lv (lv' := [(0, .ref 0), (1, .int S), (2, .int (nI ch)), (3, .int N), (4, .int (nI 0))]) [1, 2, 3, 4, 0] rfl ?_
  refine ev_st (σ' := av_set σ 4 (fo 0 (fun s O => soF (σ 3) S ch N s O) (σ 4))) (by simp only [fo_0] <;> first | rfl | (funext a; unfold av_set; (repeat' split) <;> first | rfl | (subst_vars; rfl) | (exfalso; omega))) ?_
  refine loop_up (fun k => av_Ev l RX4 cX4_setOperators 6 none av_E0 1 3 [(0, .ref 0), (1, .int S), (2, .int (nI ch)), (3, .int N), (4, .int (nI k))] [] (av_set σ 4 (fo k (fun s O => soF (σ 3) S ch N s O) (σ 4))) Q) 6 ?_ ?_
  · show av_Ev l RX4 cX4_setOperators 6 none av_E0 1 3 [(0, .ref 0), (1, .int S), (2, .int (nI ch)), (3, .int N), (4, .int (nI 6))] [] (av_set σ 4 (fo 6 (fun s O => soF (σ 3) S ch N s O) (σ 4))) Q
    refine ev_iload dX4_setOperators_3 4 rfl ?_
    refine ev_bipush dX4_setOperators_5 (v := nI 6) (by decide) ?_
    refine ev_ncmp_ge (tgt := 49) dX4_setOperators_7 (by decide) (by omega) (by omega) (fun h7 => ?_) (fun h7 => ?_)
    · exact ev_return dX4_setOperators_49 rfl (leafV hQ rfl)
    · exact absurd h7 (by omega)
  · intro k hk ihk
    show av_Ev l RX4 cX4_setOperators 6 none av_E0 1 3 [(0, .ref 0), (1, .int S), (2, .int (nI ch)), (3, .int N), (4, .int (nI k))] [] (av_set σ 4 (fo k (fun s O => soF (σ 3) S ch N s O) (σ 4))) Q
    refine ev_iload dX4_setOperators_3 4 rfl ?_
    refine ev_bipush dX4_setOperators_5 (v := nI 6) (by decide) ?_
    refine ev_ncmp_ge (tgt := 49) dX4_setOperators_7 (by decide) (by omega) (by omega) (fun h7 => ?_) (fun h7 => ?_)
    · exact absurd h7 (by omega)
    · refine ev_iload_n dX4_setOperators_10 rfl 1 rfl ?_
      refine ev_iload dX4_setOperators_11 4 rfl ?_
      refine ev_callSi (x := b2i (tb S k)) dX4_setOperators_13 (Or.inr M_X4_59) Y_X5_hasBit [.int S, .int (nI k)] (c_X5_hasBit S k (by omega)) (by decide) (Nat.le_of_ble_eq_true rfl) rfl rfl (Nat.le_of_ble_eq_true rfl) ?_
      refine ev_ifb_eq (tgt := 43) dX4_setOperators_16 (by decide) (fun h16 => ?_) (fun h16 => ?_)
      · refine ev_iinc (lv' := [(4, .int (nI (k + 1))), (0, .ref 0), (1, .int S), (2, .int (nI ch)), (3, .int N)]) dX4_setOperators_43 4 rfl (nI_inc k) (by decide) rfl ?_
        refine ev_goto (tgt := 3) dX4_setOperators_46 (by decide) ?_
        refine ev_lv (lv' := [(0, .ref 0), (1, .int S), (2, .int (nI ch)), (3, .int N), (4, .int (nI (k + 1)))]) [1, 2, 3, 4, 0] rfl ?_
        have ih9 : av_Ev l RX4 cX4_setOperators 6 none av_E0 1 3 [(0, .ref 0), (1, .int S), (2, .int (nI ch)), (3, .int N), (4, .int (nI (k + 1)))] [] (av_set σ 4 (fo (k + 1) (fun s O => soF (σ 3) S ch N s O) (σ 4))) Q := ihk
        rw [show av_set σ 4 (fo (k + 1) (fun s O => soF (σ 3) S ch N s O) (σ 4)) = av_set σ 4 (fo k (fun s O => soF (σ 3) S ch N s O) (σ 4)) from (by rw [fo_s]; simp [soF, h7, h16])] at ih9
        exact ih9
      · refine ev_iload dX4_setOperators_19 4 rfl ?_
        refine ev_iload_n dX4_setOperators_21 rfl 2 rfl ?_
        refine ev_callSi (x := nI (k * 4 + ch)) dX4_setOperators_22 (Or.inl M_X4_111) Y_X4_channelCell [.int (nI k), .int (nI ch)] (c_X4_channelCell k ch ) (by decide) (Nat.le_of_ble_eq_true rfl) rfl rfl (Nat.le_of_ble_eq_true rfl) ?_
        refine ev_istore (lv' := [(5, .int (nI (k * 4 + ch))), (0, .ref 0), (1, .int S), (2, .int (nI ch)), (3, .int N), (4, .int (nI k))]) dX4_setOperators_25 (by decide) rfl ?_
        refine ev_aload_n dX4_setOperators_27 rfl 1 rfl ?_
        refine ev_getR dX4_setOperators_28 C_X4 L_X4_34 (by decide) (by decide) sh_0 rfl ?_
        refine ev_iload dX4_setOperators_31 0 rfl ?_
        refine ev_aload_n dX4_setOperators_33 rfl 1 rfl ?_
        refine ev_getR dX4_setOperators_34 C_X4 L_X4_31 (by decide) (by decide) sh_0 rfl ?_
        refine ev_iload dX4_setOperators_37 0 rfl ?_
        refine ev_iald (e := k * 4 + ch) (v := σ 3 (k * 4 + ch)) dX4_setOperators_39 (by decide) sh_3 (by omega) (by decide) (by first | rfl | (simp only [av_set, cpS]; (repeat' split) <;> first | rfl | (exfalso; omega))) ?_
        refine ev_iload_n dX4_setOperators_40 rfl 4 rfl ?_
        refine ev_iand dX4_setOperators_41 ?_
        refine ev_iast (e := k * 4 + ch) dX4_setOperators_42 (by decide) sh_4 (by omega) (by decide) ?_
        refine ev_st (σ' := av_set σ 4 (upd (fo k (fun s O => soF (σ 3) S ch N s O) (σ 4)) (k * 4 + ch) ((σ 3 (k * 4 + ch)) &&& N))) (by first | rfl | (funext a; by_cases q4 : a = 4; (next => subst q4; rfl); simp only [av_set, q4, if_false]) | exact av_set_set _ _ _ _ | (funext a; unfold av_set; (repeat' split) <;> first | rfl | (exfalso; omega)) | (funext a; simp only [av_set, cpS]; (repeat' split) <;> first | rfl | (exfalso; omega))) ?_
        refine ev_iinc (lv' := [(4, .int (nI (k + 1))), (5, .int (nI (k * 4 + ch))), (0, .ref 0), (1, .int S), (2, .int (nI ch)), (3, .int N)]) dX4_setOperators_43 5 rfl (nI_inc k) (by decide) rfl ?_
        refine ev_goto (tgt := 3) dX4_setOperators_46 (by decide) ?_
        refine ev_lv (lv' := [(0, .ref 0), (1, .int S), (2, .int (nI ch)), (3, .int N), (4, .int (nI (k + 1)))]) [2, 3, 4, 5, 0] rfl ?_
        have ih9 : av_Ev l RX4 cX4_setOperators 6 none av_E0 1 3 [(0, .ref 0), (1, .int S), (2, .int (nI ch)), (3, .int N), (4, .int (nI (k + 1)))] [] (av_set σ 4 (fo (k + 1) (fun s O => soF (σ 3) S ch N s O) (σ 4))) Q := ihk
        rw [show av_set σ 4 (fo (k + 1) (fun s O => soF (σ 3) S ch N s O) (σ 4)) = av_set σ 4 (upd (fo k (fun s O => soF (σ 3) S ch N s O) (σ 4)) (k * 4 + ch) ((σ 3 (k * 4 + ch)) &&& N)) from (by rw [fo_s]; simp [soF, h7, h16])] at ih9
        exact ih9

set_option maxRecDepth 100000 in
set_option maxHeartbeats 1000000 in
theorem c_X4_hasChannel {l : Launch} {σ : av_S} (s : Nat) (ch : Nat) (hs : s < 6) (hch : ch < 4) : av_M l RX4 cX4_hasChannel 3 (some .boolean) 3 [.ref 0, .int (nI s), .int (nI ch)] σ (some (.int (b2i (hc (σ 1) (σ 3) s ch)))) σ := by
  intro Q hQ
  show av_Ev l RX4 cX4_hasChannel 3 (some .boolean) av_E0 3 0 [(0, .ref 0), (1, .int (nI s)), (2, .int (nI ch))] [] σ Q
  refine ev_aload_n dX4_hasChannel_0 rfl 0 rfl ?_
  refine ev_aload_n dX4_hasChannel_1 rfl 0 rfl ?_
  refine ev_iload_n dX4_hasChannel_2 rfl 1 rfl ?_
  refine ev_callVi (x := net (σ 1) s) dX4_hasChannel_3 M_X4_71 Y_X4_networkOf [.int (nI s)] (c_X4_networkOf s (by omega)) (by decide) (Nat.le_of_ble_eq_true rfl) (by decide) sh_0 rfl rfl rfl (Nat.le_of_ble_eq_true rfl) ?_
  refine ev_iload_n dX4_hasChannel_6 rfl 2 rfl ?_
  refine ev_callVi (x := un (σ 3) (net (σ 1) s) ch) dX4_hasChannel_7 M_X4_118 Y_X4_membersIn [.int (net (σ 1) s), .int (nI ch)] (c_X4_membersIn (net (σ 1) s) ch (by omega)) (by decide) (Nat.le_of_ble_eq_true rfl) (by decide) sh_0 rfl rfl rfl (Nat.le_of_ble_eq_true rfl) ?_
  refine ev_if_eq (tgt := 17) dX4_hasChannel_10 (by decide) (fun h10 => ?_) (fun h10 => ?_)
  · refine ev_iconst dX4_hasChannel_17 (v := nI 0) (by decide) ?_
    exact ev_ireturn dX4_hasChannel_18 rfl (by decide) (leafI hQ (by simp [b2i, hc, h10]) rfl)
  · refine ev_iconst dX4_hasChannel_13 (v := nI 1) (by decide) ?_
    refine ev_goto (tgt := 18) dX4_hasChannel_14 (by decide) ?_
    exact ev_ireturn dX4_hasChannel_18 rfl (by decide) (leafI hQ (by simp [b2i, hc, h10]) rfl)

set_option maxRecDepth 100000 in
set_option maxHeartbeats 1000000 in
theorem c_X4_timeOfChannel {l : Launch} {σ : av_S} (s : Nat) (ch : Nat) (hs : s < 6) (hc : ch < 4) : av_M l RX4 cX4_timeOfChannel 3 (some .int) 1 [.ref 0, .int (nI s), .int (nI ch)] σ (some (.int (σ 5 (s * 4 + ch)))) σ := by
  intro Q hQ
  show av_Ev l RX4 cX4_timeOfChannel 3 (some .int) av_E0 1 0 [(0, .ref 0), (1, .int (nI s)), (2, .int (nI ch))] [] σ Q
  refine ev_aload_n dX4_timeOfChannel_0 rfl 0 rfl ?_
  refine ev_getR dX4_timeOfChannel_1 C_X4 L_X4_37 (by decide) (by decide) sh_0 rfl ?_
  refine ev_iload_n dX4_timeOfChannel_4 rfl 1 rfl ?_
  refine ev_iload_n dX4_timeOfChannel_5 rfl 2 rfl ?_
  refine ev_callSi (x := nI (s * 4 + ch)) dX4_timeOfChannel_6 (Or.inl M_X4_111) Y_X4_channelCell [.int (nI s), .int (nI ch)] (c_X4_channelCell s ch ) (by decide) (Nat.le_of_ble_eq_true rfl) rfl rfl (Nat.le_of_ble_eq_true rfl) ?_
  refine ev_iald (e := s * 4 + ch) (v := σ 5 (s * 4 + ch)) dX4_timeOfChannel_9 (by decide) sh_5 (by omega) (by decide) rfl ?_
  exact ev_ireturn dX4_timeOfChannel_10 rfl rfl (leafI hQ rfl rfl)

set_option maxRecDepth 100000 in
set_option maxHeartbeats 1000000 in
theorem c_X4_modesOfChannel {l : Launch} {σ : av_S} (s : Nat) (ch : Nat) (hs : s < 6) (hc : ch < 4) : av_M l RX4 cX4_modesOfChannel 3 (some .int) 1 [.ref 0, .int (nI s), .int (nI ch)] σ (some (.int (σ 6 (s * 4 + ch)))) σ := by
  intro Q hQ
  show av_Ev l RX4 cX4_modesOfChannel 3 (some .int) av_E0 1 0 [(0, .ref 0), (1, .int (nI s)), (2, .int (nI ch))] [] σ Q
  refine ev_aload_n dX4_modesOfChannel_0 rfl 0 rfl ?_
  refine ev_getR dX4_modesOfChannel_1 C_X4 L_X4_40 (by decide) (by decide) sh_0 rfl ?_
  refine ev_iload_n dX4_modesOfChannel_4 rfl 1 rfl ?_
  refine ev_iload_n dX4_modesOfChannel_5 rfl 2 rfl ?_
  refine ev_callSi (x := nI (s * 4 + ch)) dX4_modesOfChannel_6 (Or.inl M_X4_111) Y_X4_channelCell [.int (nI s), .int (nI ch)] (c_X4_channelCell s ch ) (by decide) (Nat.le_of_ble_eq_true rfl) rfl rfl (Nat.le_of_ble_eq_true rfl) ?_
  refine ev_iald (e := s * 4 + ch) (v := σ 6 (s * 4 + ch)) dX4_modesOfChannel_9 (by decide) sh_6 (by omega) (by decide) rfl ?_
  exact ev_ireturn dX4_modesOfChannel_10 rfl rfl (leafI hQ rfl rfl)

set_option maxRecDepth 100000 in
set_option maxHeartbeats 1000000 in
theorem c_X4_describeChannel {l : Launch} {σ : av_S} (S : Int32) (ch : Nat) (v : Int32) (w : Int32) (hc : ch < 4) : av_M l RX4 cX4_describeChannel 6 none 1 [.ref 0, .int S, .int (nI ch), .int v, .int w] σ none (av_set (av_set σ 5 (ds (σ 5) S ch v)) 6 (ds (σ 6) S ch w)) := by
  intro Q hQ
  show av_Ev l RX4 cX4_describeChannel 6 none av_E0 1 0 [(0, .ref 0), (1, .int S), (2, .int (nI ch)), (3, .int v), (4, .int w)] [] σ Q
  refine ev_iconst dX4_describeChannel_0 (v := nI 0) (by decide) ?_
  refine ev_istore (lv' := [(5, .int (nI 0)), (0, .ref 0), (1, .int S), (2, .int (nI ch)), (3, .int v), (4, .int w)]) dX4_describeChannel_1 (by decide) rfl ?_
  refine ev_lv (lv' := [(0, .ref 0), (1, .int S), (2, .int (nI ch)), (3, .int v), (4, .int w), (5, .int (nI 0))]) [1, 2, 3, 4, 5, 0] rfl ?_
  refine ev_st (σ' := av_set (av_set σ 5 (fo 0 (fun s C => dsF S ch v s C) (σ 5))) 6 (fo 0 (fun s C => dsF S ch w s C) (σ 6))) (by simp only [fo_0] <;> first | rfl | (funext a; unfold av_set; (repeat' split) <;> first | rfl | (subst_vars; rfl) | (exfalso; omega))) ?_
  refine loop_up (fun k => av_Ev l RX4 cX4_describeChannel 6 none av_E0 1 3 [(0, .ref 0), (1, .int S), (2, .int (nI ch)), (3, .int v), (4, .int w), (5, .int (nI k))] [] (av_set (av_set σ 5 (fo k (fun s C => dsF S ch v s C) (σ 5))) 6 (fo k (fun s C => dsF S ch w s C) (σ 6))) Q) 6 ?_ ?_
  · show av_Ev l RX4 cX4_describeChannel 6 none av_E0 1 3 [(0, .ref 0), (1, .int S), (2, .int (nI ch)), (3, .int v), (4, .int w), (5, .int (nI 6))] [] (av_set (av_set σ 5 (fo 6 (fun s C => dsF S ch v s C) (σ 5))) 6 (fo 6 (fun s C => dsF S ch w s C) (σ 6))) Q
    refine ev_iload dX4_describeChannel_3 5 rfl ?_
    refine ev_bipush dX4_describeChannel_5 (v := nI 6) (by decide) ?_
    refine ev_ncmp_ge (tgt := 50) dX4_describeChannel_7 (by decide) (by omega) (by omega) (fun h7 => ?_) (fun h7 => ?_)
    · exact ev_return dX4_describeChannel_50 rfl (leafV hQ rfl)
    · exact absurd h7 (by omega)
  · intro k hk ihk
    show av_Ev l RX4 cX4_describeChannel 6 none av_E0 1 3 [(0, .ref 0), (1, .int S), (2, .int (nI ch)), (3, .int v), (4, .int w), (5, .int (nI k))] [] (av_set (av_set σ 5 (fo k (fun s C => dsF S ch v s C) (σ 5))) 6 (fo k (fun s C => dsF S ch w s C) (σ 6))) Q
    refine ev_iload dX4_describeChannel_3 5 rfl ?_
    refine ev_bipush dX4_describeChannel_5 (v := nI 6) (by decide) ?_
    refine ev_ncmp_ge (tgt := 50) dX4_describeChannel_7 (by decide) (by omega) (by omega) (fun h7 => ?_) (fun h7 => ?_)
    · exact absurd h7 (by omega)
    · refine ev_iload_n dX4_describeChannel_10 rfl 1 rfl ?_
      refine ev_iload dX4_describeChannel_11 5 rfl ?_
      refine ev_callSi (x := b2i (tb S k)) dX4_describeChannel_13 (Or.inr M_X4_59) Y_X5_hasBit [.int S, .int (nI k)] (c_X5_hasBit S k (by omega)) (by decide) (Nat.le_of_ble_eq_true rfl) rfl rfl (Nat.le_of_ble_eq_true rfl) ?_
      refine ev_ifb_eq (tgt := 44) dX4_describeChannel_16 (by decide) (fun h16 => ?_) (fun h16 => ?_)
      · refine ev_iinc (lv' := [(5, .int (nI (k + 1))), (0, .ref 0), (1, .int S), (2, .int (nI ch)), (3, .int v), (4, .int w)]) dX4_describeChannel_44 5 rfl (nI_inc k) (by decide) rfl ?_
        refine ev_goto (tgt := 3) dX4_describeChannel_47 (by decide) ?_
        refine ev_lv (lv' := [(0, .ref 0), (1, .int S), (2, .int (nI ch)), (3, .int v), (4, .int w), (5, .int (nI (k + 1)))]) [1, 2, 3, 4, 5, 0] rfl ?_
        have ih9 : av_Ev l RX4 cX4_describeChannel 6 none av_E0 1 3 [(0, .ref 0), (1, .int S), (2, .int (nI ch)), (3, .int v), (4, .int w), (5, .int (nI (k + 1)))] [] (av_set (av_set σ 5 (fo (k + 1) (fun s C => dsF S ch v s C) (σ 5))) 6 (fo (k + 1) (fun s C => dsF S ch w s C) (σ 6))) Q := ihk
        rw [show av_set (av_set σ 5 (fo (k + 1) (fun s C => dsF S ch v s C) (σ 5))) 6 (fo (k + 1) (fun s C => dsF S ch w s C) (σ 6)) = av_set (av_set σ 5 (fo k (fun s C => dsF S ch v s C) (σ 5))) 6 (fo k (fun s C => dsF S ch w s C) (σ 6)) from (by rw [fo_s, fo_s]; simp [dsF, h7, h16])] at ih9
        exact ih9
      · refine ev_aload_n dX4_describeChannel_19 rfl 0 rfl ?_
        refine ev_getR dX4_describeChannel_20 C_X4 L_X4_37 (by decide) (by decide) sh_0 rfl ?_
        refine ev_iload dX4_describeChannel_23 5 rfl ?_
        refine ev_iload_n dX4_describeChannel_25 rfl 2 rfl ?_
        refine ev_callSi (x := nI (k * 4 + ch)) dX4_describeChannel_26 (Or.inl M_X4_111) Y_X4_channelCell [.int (nI k), .int (nI ch)] (c_X4_channelCell k ch ) (by decide) (Nat.le_of_ble_eq_true rfl) rfl rfl (Nat.le_of_ble_eq_true rfl) ?_
        refine ev_iload_n dX4_describeChannel_29 rfl 3 rfl ?_
        refine ev_iast (e := k * 4 + ch) dX4_describeChannel_30 (by decide) sh_5 (by omega) (by decide) ?_
        refine ev_st (σ' := av_set (av_set σ 5 (upd (fo k (fun s C => dsF S ch v s C) (σ 5)) (k * 4 + ch) v)) 6 (fo k (fun s C => dsF S ch w s C) (σ 6))) (by first | rfl | (funext a; by_cases q5 : a = 5; (next => subst q5; rfl); by_cases q6 : a = 6; (next => subst q6; rfl); simp only [av_set, q5, q6, if_false]) | exact av_set_set _ _ _ _ | (funext a; unfold av_set; (repeat' split) <;> first | rfl | (exfalso; omega)) | (funext a; simp only [av_set, cpS]; (repeat' split) <;> first | rfl | (exfalso; omega))) ?_
        refine ev_aload_n dX4_describeChannel_31 rfl 0 rfl ?_
        refine ev_getR dX4_describeChannel_32 C_X4 L_X4_40 (by decide) (by decide) sh_0 rfl ?_
        refine ev_iload dX4_describeChannel_35 5 rfl ?_
        refine ev_iload_n dX4_describeChannel_37 rfl 2 rfl ?_
        refine ev_callSi (x := nI (k * 4 + ch)) dX4_describeChannel_38 (Or.inl M_X4_111) Y_X4_channelCell [.int (nI k), .int (nI ch)] (c_X4_channelCell k ch ) (by decide) (Nat.le_of_ble_eq_true rfl) rfl rfl (Nat.le_of_ble_eq_true rfl) ?_
        refine ev_iload dX4_describeChannel_41 4 rfl ?_
        refine ev_iast (e := k * 4 + ch) dX4_describeChannel_43 (by decide) sh_6 (by omega) (by decide) ?_
        refine ev_st (σ' := av_set (av_set σ 5 (upd (fo k (fun s C => dsF S ch v s C) (σ 5)) (k * 4 + ch) v)) 6 (upd (fo k (fun s C => dsF S ch w s C) (σ 6)) (k * 4 + ch) w)) (by first | rfl | (funext a; by_cases q5 : a = 5; (next => subst q5; rfl); by_cases q6 : a = 6; (next => subst q6; rfl); simp only [av_set, q5, q6, if_false]) | exact av_set_set _ _ _ _ | (funext a; unfold av_set; (repeat' split) <;> first | rfl | (exfalso; omega)) | (funext a; simp only [av_set, cpS]; (repeat' split) <;> first | rfl | (exfalso; omega))) ?_
        refine ev_iinc (lv' := [(5, .int (nI (k + 1))), (0, .ref 0), (1, .int S), (2, .int (nI ch)), (3, .int v), (4, .int w)]) dX4_describeChannel_44 5 rfl (nI_inc k) (by decide) rfl ?_
        refine ev_goto (tgt := 3) dX4_describeChannel_47 (by decide) ?_
        refine ev_lv (lv' := [(0, .ref 0), (1, .int S), (2, .int (nI ch)), (3, .int v), (4, .int w), (5, .int (nI (k + 1)))]) [1, 2, 3, 4, 5, 0] rfl ?_
        have ih9 : av_Ev l RX4 cX4_describeChannel 6 none av_E0 1 3 [(0, .ref 0), (1, .int S), (2, .int (nI ch)), (3, .int v), (4, .int w), (5, .int (nI (k + 1)))] [] (av_set (av_set σ 5 (fo (k + 1) (fun s C => dsF S ch v s C) (σ 5))) 6 (fo (k + 1) (fun s C => dsF S ch w s C) (σ 6))) Q := ihk
        rw [show av_set (av_set σ 5 (fo (k + 1) (fun s C => dsF S ch v s C) (σ 5))) 6 (fo (k + 1) (fun s C => dsF S ch w s C) (σ 6)) = av_set (av_set σ 5 (upd (fo k (fun s C => dsF S ch v s C) (σ 5)) (k * 4 + ch) v)) 6 (upd (fo k (fun s C => dsF S ch w s C) (σ 6)) (k * 4 + ch) w) from (by rw [fo_s, fo_s]; simp [dsF, h7, h16])] at ih9
        exact ih9

set_option maxRecDepth 100000 in
set_option maxHeartbeats 1000000 in
theorem c_J6_bitCount_0f7a4 {l : Launch} {σ : av_S} (x : Int32)  : av_M l RJ6 cJ6_bitCount_0f7a4 1 (some .int) 0 [.int x] σ (some (.int (jbc x))) σ := by
  intro Q hQ
  show av_Ev l RJ6 cJ6_bitCount_0f7a4 1 (some .int) av_E0 0 0 [(0, .int x)] [] σ Q
  refine ev_iload_n dJ6_bitCount_0f7a4_0 rfl 0 rfl ?_
  refine ev_iload_n dJ6_bitCount_0f7a4_1 rfl 0 rfl ?_
  refine ev_iconst dJ6_bitCount_0f7a4_2 (v := nI 1) (by decide) ?_
  refine ev_iushr dJ6_bitCount_0f7a4_3 ?_
  refine ev_ldcw (v := 1431655765) dJ6_bitCount_0f7a4_4 K_J6_265 ?_
  refine ev_iand dJ6_bitCount_0f7a4_7 ?_
  refine ev_isub dJ6_bitCount_0f7a4_8 ?_
  refine ev_istore_n (lv' := [(0, .int (x - (((x.toUInt32 >>> ((nI 1).toUInt32 &&& Int32.toUInt32 31)).toInt32) &&& 1431655765)))]) dJ6_bitCount_0f7a4_9 rfl (by decide) rfl ?_
  refine ev_iload_n dJ6_bitCount_0f7a4_10 rfl 0 rfl ?_
  refine ev_ldcw (v := 858993459) dJ6_bitCount_0f7a4_11 K_J6_266 ?_
  refine ev_iand dJ6_bitCount_0f7a4_14 ?_
  refine ev_iload_n dJ6_bitCount_0f7a4_15 rfl 0 rfl ?_
  refine ev_iconst dJ6_bitCount_0f7a4_16 (v := nI 2) (by decide) ?_
  refine ev_iushr dJ6_bitCount_0f7a4_17 ?_
  refine ev_ldcw (v := 858993459) dJ6_bitCount_0f7a4_18 K_J6_266 ?_
  refine ev_iand dJ6_bitCount_0f7a4_21 ?_
  refine ev_iadd dJ6_bitCount_0f7a4_22 ?_
  refine ev_istore_n (lv' := [(0, .int (((x - (((x.toUInt32 >>> ((nI 1).toUInt32 &&& Int32.toUInt32 31)).toInt32) &&& 1431655765)) &&& 858993459) + ((((x - (((x.toUInt32 >>> ((nI 1).toUInt32 &&& Int32.toUInt32 31)).toInt32) &&& 1431655765)).toUInt32 >>> ((nI 2).toUInt32 &&& Int32.toUInt32 31)).toInt32) &&& 858993459)))]) dJ6_bitCount_0f7a4_23 rfl (by decide) rfl ?_
  refine ev_iload_n dJ6_bitCount_0f7a4_24 rfl 0 rfl ?_
  refine ev_iload_n dJ6_bitCount_0f7a4_25 rfl 0 rfl ?_
  refine ev_iconst dJ6_bitCount_0f7a4_26 (v := nI 4) (by decide) ?_
  refine ev_iushr dJ6_bitCount_0f7a4_27 ?_
  refine ev_iadd dJ6_bitCount_0f7a4_28 ?_
  refine ev_ldcw (v := 252645135) dJ6_bitCount_0f7a4_29 K_J6_267 ?_
  refine ev_iand dJ6_bitCount_0f7a4_32 ?_
  refine ev_istore_n (lv' := [(0, .int (((((x - (((x.toUInt32 >>> ((nI 1).toUInt32 &&& Int32.toUInt32 31)).toInt32) &&& 1431655765)) &&& 858993459) + ((((x - (((x.toUInt32 >>> ((nI 1).toUInt32 &&& Int32.toUInt32 31)).toInt32) &&& 1431655765)).toUInt32 >>> ((nI 2).toUInt32 &&& Int32.toUInt32 31)).toInt32) &&& 858993459)) + (((((x - (((x.toUInt32 >>> ((nI 1).toUInt32 &&& Int32.toUInt32 31)).toInt32) &&& 1431655765)) &&& 858993459) + ((((x - (((x.toUInt32 >>> ((nI 1).toUInt32 &&& Int32.toUInt32 31)).toInt32) &&& 1431655765)).toUInt32 >>> ((nI 2).toUInt32 &&& Int32.toUInt32 31)).toInt32) &&& 858993459)).toUInt32 >>> ((nI 4).toUInt32 &&& Int32.toUInt32 31)).toInt32)) &&& 252645135))]) dJ6_bitCount_0f7a4_33 rfl (by decide) rfl ?_
  refine ev_iload_n dJ6_bitCount_0f7a4_34 rfl 0 rfl ?_
  refine ev_iload_n dJ6_bitCount_0f7a4_35 rfl 0 rfl ?_
  refine ev_bipush dJ6_bitCount_0f7a4_36 (v := nI 8) (by decide) ?_
  refine ev_iushr dJ6_bitCount_0f7a4_38 ?_
  refine ev_iadd dJ6_bitCount_0f7a4_39 ?_
  refine ev_istore_n (lv' := [(0, .int ((((((x - (((x.toUInt32 >>> ((nI 1).toUInt32 &&& Int32.toUInt32 31)).toInt32) &&& 1431655765)) &&& 858993459) + ((((x - (((x.toUInt32 >>> ((nI 1).toUInt32 &&& Int32.toUInt32 31)).toInt32) &&& 1431655765)).toUInt32 >>> ((nI 2).toUInt32 &&& Int32.toUInt32 31)).toInt32) &&& 858993459)) + (((((x - (((x.toUInt32 >>> ((nI 1).toUInt32 &&& Int32.toUInt32 31)).toInt32) &&& 1431655765)) &&& 858993459) + ((((x - (((x.toUInt32 >>> ((nI 1).toUInt32 &&& Int32.toUInt32 31)).toInt32) &&& 1431655765)).toUInt32 >>> ((nI 2).toUInt32 &&& Int32.toUInt32 31)).toInt32) &&& 858993459)).toUInt32 >>> ((nI 4).toUInt32 &&& Int32.toUInt32 31)).toInt32)) &&& 252645135) + (((((((x - (((x.toUInt32 >>> ((nI 1).toUInt32 &&& Int32.toUInt32 31)).toInt32) &&& 1431655765)) &&& 858993459) + ((((x - (((x.toUInt32 >>> ((nI 1).toUInt32 &&& Int32.toUInt32 31)).toInt32) &&& 1431655765)).toUInt32 >>> ((nI 2).toUInt32 &&& Int32.toUInt32 31)).toInt32) &&& 858993459)) + (((((x - (((x.toUInt32 >>> ((nI 1).toUInt32 &&& Int32.toUInt32 31)).toInt32) &&& 1431655765)) &&& 858993459) + ((((x - (((x.toUInt32 >>> ((nI 1).toUInt32 &&& Int32.toUInt32 31)).toInt32) &&& 1431655765)).toUInt32 >>> ((nI 2).toUInt32 &&& Int32.toUInt32 31)).toInt32) &&& 858993459)).toUInt32 >>> ((nI 4).toUInt32 &&& Int32.toUInt32 31)).toInt32)) &&& 252645135).toUInt32 >>> ((nI 8).toUInt32 &&& Int32.toUInt32 31)).toInt32)))]) dJ6_bitCount_0f7a4_40 rfl (by decide) rfl ?_
  refine ev_iload_n dJ6_bitCount_0f7a4_41 rfl 0 rfl ?_
  refine ev_iload_n dJ6_bitCount_0f7a4_42 rfl 0 rfl ?_
  refine ev_bipush dJ6_bitCount_0f7a4_43 (v := nI 16) (by decide) ?_
  refine ev_iushr dJ6_bitCount_0f7a4_45 ?_
  refine ev_iadd dJ6_bitCount_0f7a4_46 ?_
  refine ev_istore_n (lv' := [(0, .int (((((((x - (((x.toUInt32 >>> ((nI 1).toUInt32 &&& Int32.toUInt32 31)).toInt32) &&& 1431655765)) &&& 858993459) + ((((x - (((x.toUInt32 >>> ((nI 1).toUInt32 &&& Int32.toUInt32 31)).toInt32) &&& 1431655765)).toUInt32 >>> ((nI 2).toUInt32 &&& Int32.toUInt32 31)).toInt32) &&& 858993459)) + (((((x - (((x.toUInt32 >>> ((nI 1).toUInt32 &&& Int32.toUInt32 31)).toInt32) &&& 1431655765)) &&& 858993459) + ((((x - (((x.toUInt32 >>> ((nI 1).toUInt32 &&& Int32.toUInt32 31)).toInt32) &&& 1431655765)).toUInt32 >>> ((nI 2).toUInt32 &&& Int32.toUInt32 31)).toInt32) &&& 858993459)).toUInt32 >>> ((nI 4).toUInt32 &&& Int32.toUInt32 31)).toInt32)) &&& 252645135) + (((((((x - (((x.toUInt32 >>> ((nI 1).toUInt32 &&& Int32.toUInt32 31)).toInt32) &&& 1431655765)) &&& 858993459) + ((((x - (((x.toUInt32 >>> ((nI 1).toUInt32 &&& Int32.toUInt32 31)).toInt32) &&& 1431655765)).toUInt32 >>> ((nI 2).toUInt32 &&& Int32.toUInt32 31)).toInt32) &&& 858993459)) + (((((x - (((x.toUInt32 >>> ((nI 1).toUInt32 &&& Int32.toUInt32 31)).toInt32) &&& 1431655765)) &&& 858993459) + ((((x - (((x.toUInt32 >>> ((nI 1).toUInt32 &&& Int32.toUInt32 31)).toInt32) &&& 1431655765)).toUInt32 >>> ((nI 2).toUInt32 &&& Int32.toUInt32 31)).toInt32) &&& 858993459)).toUInt32 >>> ((nI 4).toUInt32 &&& Int32.toUInt32 31)).toInt32)) &&& 252645135).toUInt32 >>> ((nI 8).toUInt32 &&& Int32.toUInt32 31)).toInt32)) + ((((((((x - (((x.toUInt32 >>> ((nI 1).toUInt32 &&& Int32.toUInt32 31)).toInt32) &&& 1431655765)) &&& 858993459) + ((((x - (((x.toUInt32 >>> ((nI 1).toUInt32 &&& Int32.toUInt32 31)).toInt32) &&& 1431655765)).toUInt32 >>> ((nI 2).toUInt32 &&& Int32.toUInt32 31)).toInt32) &&& 858993459)) + (((((x - (((x.toUInt32 >>> ((nI 1).toUInt32 &&& Int32.toUInt32 31)).toInt32) &&& 1431655765)) &&& 858993459) + ((((x - (((x.toUInt32 >>> ((nI 1).toUInt32 &&& Int32.toUInt32 31)).toInt32) &&& 1431655765)).toUInt32 >>> ((nI 2).toUInt32 &&& Int32.toUInt32 31)).toInt32) &&& 858993459)).toUInt32 >>> ((nI 4).toUInt32 &&& Int32.toUInt32 31)).toInt32)) &&& 252645135) + (((((((x - (((x.toUInt32 >>> ((nI 1).toUInt32 &&& Int32.toUInt32 31)).toInt32) &&& 1431655765)) &&& 858993459) + ((((x - (((x.toUInt32 >>> ((nI 1).toUInt32 &&& Int32.toUInt32 31)).toInt32) &&& 1431655765)).toUInt32 >>> ((nI 2).toUInt32 &&& Int32.toUInt32 31)).toInt32) &&& 858993459)) + (((((x - (((x.toUInt32 >>> ((nI 1).toUInt32 &&& Int32.toUInt32 31)).toInt32) &&& 1431655765)) &&& 858993459) + ((((x - (((x.toUInt32 >>> ((nI 1).toUInt32 &&& Int32.toUInt32 31)).toInt32) &&& 1431655765)).toUInt32 >>> ((nI 2).toUInt32 &&& Int32.toUInt32 31)).toInt32) &&& 858993459)).toUInt32 >>> ((nI 4).toUInt32 &&& Int32.toUInt32 31)).toInt32)) &&& 252645135).toUInt32 >>> ((nI 8).toUInt32 &&& Int32.toUInt32 31)).toInt32)).toUInt32 >>> ((nI 16).toUInt32 &&& Int32.toUInt32 31)).toInt32)))]) dJ6_bitCount_0f7a4_47 rfl (by decide) rfl ?_
  refine ev_iload_n dJ6_bitCount_0f7a4_48 rfl 0 rfl ?_
  refine ev_bipush dJ6_bitCount_0f7a4_49 (v := nI 63) (by decide) ?_
  refine ev_iand dJ6_bitCount_0f7a4_51 ?_
  exact ev_ireturn dJ6_bitCount_0f7a4_52 rfl rfl (leafI hQ (by first | rfl | (simp []; done)) rfl)

set_option maxRecDepth 100000 in
set_option maxHeartbeats 1000000 in
theorem c_J7_fill1 {l : Launch} {σ : av_S} (v : Int32)  : av_M l RJ7 cJ7_fill_53178 4 none 0 [.ref 1, .int v] σ none (av_set σ 1 (fl (σ 1) 6 v)) := by
  intro Q hQ
  show av_Ev l RJ7 cJ7_fill_53178 4 none av_E0 0 0 [(0, .ref 1), (1, .int v)] [] σ Q
  refine ev_iconst dJ7_fill_53178_0 (v := nI 0) (by decide) ?_
  refine ev_istore_n (lv' := [(2, .int (nI 0)), (0, .ref 1), (1, .int v)]) dJ7_fill_53178_1 rfl (by decide) rfl ?_
  refine ev_aload_n dJ7_fill_53178_2 rfl 1 rfl ?_
  refine ev_alen (v := nI 6) dJ7_fill_53178_3 (by decide) sh_1 (by decide) rfl ?_
  refine ev_istore_n (lv' := [(3, .int (nI 6)), (2, .int (nI 0)), (0, .ref 1), (1, .int v)]) dJ7_fill_53178_4 rfl (by decide) rfl ?_
  refine ev_lv (lv' := [(0, .ref 1), (1, .int v), (2, .int (nI 0)), (3, .int (nI 6))]) [2, 3, 1, 0] rfl ?_
  refine ev_st (σ' := av_set σ 1 (fo 0 (fun k g => upd g k v) (σ 1))) (by simp only [fo_0] <;> first | rfl | (funext a; unfold av_set; (repeat' split) <;> first | rfl | (subst_vars; rfl) | (exfalso; omega))) ?_
  refine loop_up (fun k => av_Ev l RJ7 cJ7_fill_53178 4 none av_E0 0 5 [(0, .ref 1), (1, .int v), (2, .int (nI k)), (3, .int (nI 6))] [] (av_set σ 1 (fo k (fun k g => upd g k v) (σ 1))) Q) 6 ?_ ?_
  · show av_Ev l RJ7 cJ7_fill_53178 4 none av_E0 0 5 [(0, .ref 1), (1, .int v), (2, .int (nI 6)), (3, .int (nI 6))] [] (av_set σ 1 (fo 6 (fun k g => upd g k v) (σ 1))) Q
    refine ev_iload_n dJ7_fill_53178_5 rfl 2 rfl ?_
    refine ev_iload_n dJ7_fill_53178_6 rfl 3 rfl ?_
    refine ev_ncmp_ge (tgt := 20) dJ7_fill_53178_7 (by decide) (by omega) (by omega) (fun h7 => ?_) (fun h7 => ?_)
    · exact ev_return dJ7_fill_53178_20 rfl (leafV hQ rfl)
    · exact absurd h7 (by omega)
  · intro k hk ihk
    show av_Ev l RJ7 cJ7_fill_53178 4 none av_E0 0 5 [(0, .ref 1), (1, .int v), (2, .int (nI k)), (3, .int (nI 6))] [] (av_set σ 1 (fo k (fun k g => upd g k v) (σ 1))) Q
    refine ev_iload_n dJ7_fill_53178_5 rfl 2 rfl ?_
    refine ev_iload_n dJ7_fill_53178_6 rfl 3 rfl ?_
    refine ev_ncmp_ge (tgt := 20) dJ7_fill_53178_7 (by decide) (by omega) (by omega) (fun h7 => ?_) (fun h7 => ?_)
    · exact absurd h7 (by omega)
    · refine ev_aload_n dJ7_fill_53178_10 rfl 0 rfl ?_
      refine ev_iload_n dJ7_fill_53178_11 rfl 2 rfl ?_
      refine ev_iload_n dJ7_fill_53178_12 rfl 1 rfl ?_
      refine ev_iast (e := k) dJ7_fill_53178_13 (by decide) sh_1 (by omega) (by decide) ?_
      refine ev_st (σ' := av_set σ 1 (upd (fo k (fun k g => upd g k v) (σ 1)) k v)) (by first | rfl | (funext a; by_cases q1 : a = 1; (next => subst q1; rfl); simp only [av_set, q1, if_false]) | exact av_set_set _ _ _ _ | (funext a; unfold av_set; (repeat' split) <;> first | rfl | (exfalso; omega)) | (funext a; simp only [av_set, cpS]; (repeat' split) <;> first | rfl | (exfalso; omega))) ?_
      refine ev_iinc (lv' := [(2, .int (nI (k + 1))), (0, .ref 1), (1, .int v), (3, .int (nI 6))]) dJ7_fill_53178_14 2 rfl (nI_inc k) (by decide) rfl ?_
      refine ev_goto (tgt := 5) dJ7_fill_53178_17 (by decide) ?_
      refine ev_lv (lv' := [(0, .ref 1), (1, .int v), (2, .int (nI (k + 1))), (3, .int (nI 6))]) [1, 2, 0, 3] rfl ?_
      have ih9 : av_Ev l RJ7 cJ7_fill_53178 4 none av_E0 0 5 [(0, .ref 1), (1, .int v), (2, .int (nI (k + 1))), (3, .int (nI 6))] [] (av_set σ 1 (fo (k + 1) (fun k g => upd g k v) (σ 1))) Q := ihk
      rw [show av_set σ 1 (fo (k + 1) (fun k g => upd g k v) (σ 1)) = av_set σ 1 (upd (fo k (fun k g => upd g k v) (σ 1)) k v) from rfl] at ih9
      exact ih9

set_option maxRecDepth 100000 in
set_option maxHeartbeats 1000000 in
theorem c_J7_fill2 {l : Launch} {σ : av_S} (v : Int32)  : av_M l RJ7 cJ7_fill_53178 4 none 0 [.ref 2, .int v] σ none (av_set σ 2 (fl (σ 2) 60 v)) := by
  intro Q hQ
  show av_Ev l RJ7 cJ7_fill_53178 4 none av_E0 0 0 [(0, .ref 2), (1, .int v)] [] σ Q
  refine ev_iconst dJ7_fill_53178_0 (v := nI 0) (by decide) ?_
  refine ev_istore_n (lv' := [(2, .int (nI 0)), (0, .ref 2), (1, .int v)]) dJ7_fill_53178_1 rfl (by decide) rfl ?_
  refine ev_aload_n dJ7_fill_53178_2 rfl 1 rfl ?_
  refine ev_alen (v := nI 60) dJ7_fill_53178_3 (by decide) sh_2 (by decide) rfl ?_
  refine ev_istore_n (lv' := [(3, .int (nI 60)), (2, .int (nI 0)), (0, .ref 2), (1, .int v)]) dJ7_fill_53178_4 rfl (by decide) rfl ?_
  refine ev_lv (lv' := [(0, .ref 2), (1, .int v), (2, .int (nI 0)), (3, .int (nI 60))]) [2, 3, 1, 0] rfl ?_
  refine ev_st (σ' := av_set σ 2 (fo 0 (fun k g => upd g k v) (σ 2))) (by simp only [fo_0] <;> first | rfl | (funext a; unfold av_set; (repeat' split) <;> first | rfl | (subst_vars; rfl) | (exfalso; omega))) ?_
  refine loop_up (fun k => av_Ev l RJ7 cJ7_fill_53178 4 none av_E0 0 5 [(0, .ref 2), (1, .int v), (2, .int (nI k)), (3, .int (nI 60))] [] (av_set σ 2 (fo k (fun k g => upd g k v) (σ 2))) Q) 60 ?_ ?_
  · show av_Ev l RJ7 cJ7_fill_53178 4 none av_E0 0 5 [(0, .ref 2), (1, .int v), (2, .int (nI 60)), (3, .int (nI 60))] [] (av_set σ 2 (fo 60 (fun k g => upd g k v) (σ 2))) Q
    refine ev_iload_n dJ7_fill_53178_5 rfl 2 rfl ?_
    refine ev_iload_n dJ7_fill_53178_6 rfl 3 rfl ?_
    refine ev_ncmp_ge (tgt := 20) dJ7_fill_53178_7 (by decide) (by omega) (by omega) (fun h7 => ?_) (fun h7 => ?_)
    · exact ev_return dJ7_fill_53178_20 rfl (leafV hQ rfl)
    · exact absurd h7 (by omega)
  · intro k hk ihk
    show av_Ev l RJ7 cJ7_fill_53178 4 none av_E0 0 5 [(0, .ref 2), (1, .int v), (2, .int (nI k)), (3, .int (nI 60))] [] (av_set σ 2 (fo k (fun k g => upd g k v) (σ 2))) Q
    refine ev_iload_n dJ7_fill_53178_5 rfl 2 rfl ?_
    refine ev_iload_n dJ7_fill_53178_6 rfl 3 rfl ?_
    refine ev_ncmp_ge (tgt := 20) dJ7_fill_53178_7 (by decide) (by omega) (by omega) (fun h7 => ?_) (fun h7 => ?_)
    · exact absurd h7 (by omega)
    · refine ev_aload_n dJ7_fill_53178_10 rfl 0 rfl ?_
      refine ev_iload_n dJ7_fill_53178_11 rfl 2 rfl ?_
      refine ev_iload_n dJ7_fill_53178_12 rfl 1 rfl ?_
      refine ev_iast (e := k) dJ7_fill_53178_13 (by decide) sh_2 (by omega) (by decide) ?_
      refine ev_st (σ' := av_set σ 2 (upd (fo k (fun k g => upd g k v) (σ 2)) k v)) (by first | rfl | (funext a; by_cases q2 : a = 2; (next => subst q2; rfl); simp only [av_set, q2, if_false]) | exact av_set_set _ _ _ _ | (funext a; unfold av_set; (repeat' split) <;> first | rfl | (exfalso; omega)) | (funext a; simp only [av_set, cpS]; (repeat' split) <;> first | rfl | (exfalso; omega))) ?_
      refine ev_iinc (lv' := [(2, .int (nI (k + 1))), (0, .ref 2), (1, .int v), (3, .int (nI 60))]) dJ7_fill_53178_14 2 rfl (nI_inc k) (by decide) rfl ?_
      refine ev_goto (tgt := 5) dJ7_fill_53178_17 (by decide) ?_
      refine ev_lv (lv' := [(0, .ref 2), (1, .int v), (2, .int (nI (k + 1))), (3, .int (nI 60))]) [1, 2, 0, 3] rfl ?_
      have ih9 : av_Ev l RJ7 cJ7_fill_53178 4 none av_E0 0 5 [(0, .ref 2), (1, .int v), (2, .int (nI (k + 1))), (3, .int (nI 60))] [] (av_set σ 2 (fo (k + 1) (fun k g => upd g k v) (σ 2))) Q := ihk
      rw [show av_set σ 2 (fo (k + 1) (fun k g => upd g k v) (σ 2)) = av_set σ 2 (upd (fo k (fun k g => upd g k v) (σ 2)) k v) from rfl] at ih9
      exact ih9

set_option maxRecDepth 100000 in
set_option maxHeartbeats 1000000 in
theorem c_J7_fill3 {l : Launch} {σ : av_S} (v : Int32)  : av_M l RJ7 cJ7_fill_53178 4 none 0 [.ref 3, .int v] σ none (av_set σ 3 (fl (σ 3) 24 v)) := by
  intro Q hQ
  show av_Ev l RJ7 cJ7_fill_53178 4 none av_E0 0 0 [(0, .ref 3), (1, .int v)] [] σ Q
  refine ev_iconst dJ7_fill_53178_0 (v := nI 0) (by decide) ?_
  refine ev_istore_n (lv' := [(2, .int (nI 0)), (0, .ref 3), (1, .int v)]) dJ7_fill_53178_1 rfl (by decide) rfl ?_
  refine ev_aload_n dJ7_fill_53178_2 rfl 1 rfl ?_
  refine ev_alen (v := nI 24) dJ7_fill_53178_3 (by decide) sh_3 (by decide) rfl ?_
  refine ev_istore_n (lv' := [(3, .int (nI 24)), (2, .int (nI 0)), (0, .ref 3), (1, .int v)]) dJ7_fill_53178_4 rfl (by decide) rfl ?_
  refine ev_lv (lv' := [(0, .ref 3), (1, .int v), (2, .int (nI 0)), (3, .int (nI 24))]) [2, 3, 1, 0] rfl ?_
  refine ev_st (σ' := av_set σ 3 (fo 0 (fun k g => upd g k v) (σ 3))) (by simp only [fo_0] <;> first | rfl | (funext a; unfold av_set; (repeat' split) <;> first | rfl | (subst_vars; rfl) | (exfalso; omega))) ?_
  refine loop_up (fun k => av_Ev l RJ7 cJ7_fill_53178 4 none av_E0 0 5 [(0, .ref 3), (1, .int v), (2, .int (nI k)), (3, .int (nI 24))] [] (av_set σ 3 (fo k (fun k g => upd g k v) (σ 3))) Q) 24 ?_ ?_
  · show av_Ev l RJ7 cJ7_fill_53178 4 none av_E0 0 5 [(0, .ref 3), (1, .int v), (2, .int (nI 24)), (3, .int (nI 24))] [] (av_set σ 3 (fo 24 (fun k g => upd g k v) (σ 3))) Q
    refine ev_iload_n dJ7_fill_53178_5 rfl 2 rfl ?_
    refine ev_iload_n dJ7_fill_53178_6 rfl 3 rfl ?_
    refine ev_ncmp_ge (tgt := 20) dJ7_fill_53178_7 (by decide) (by omega) (by omega) (fun h7 => ?_) (fun h7 => ?_)
    · exact ev_return dJ7_fill_53178_20 rfl (leafV hQ rfl)
    · exact absurd h7 (by omega)
  · intro k hk ihk
    show av_Ev l RJ7 cJ7_fill_53178 4 none av_E0 0 5 [(0, .ref 3), (1, .int v), (2, .int (nI k)), (3, .int (nI 24))] [] (av_set σ 3 (fo k (fun k g => upd g k v) (σ 3))) Q
    refine ev_iload_n dJ7_fill_53178_5 rfl 2 rfl ?_
    refine ev_iload_n dJ7_fill_53178_6 rfl 3 rfl ?_
    refine ev_ncmp_ge (tgt := 20) dJ7_fill_53178_7 (by decide) (by omega) (by omega) (fun h7 => ?_) (fun h7 => ?_)
    · exact absurd h7 (by omega)
    · refine ev_aload_n dJ7_fill_53178_10 rfl 0 rfl ?_
      refine ev_iload_n dJ7_fill_53178_11 rfl 2 rfl ?_
      refine ev_iload_n dJ7_fill_53178_12 rfl 1 rfl ?_
      refine ev_iast (e := k) dJ7_fill_53178_13 (by decide) sh_3 (by omega) (by decide) ?_
      refine ev_st (σ' := av_set σ 3 (upd (fo k (fun k g => upd g k v) (σ 3)) k v)) (by first | rfl | (funext a; by_cases q3 : a = 3; (next => subst q3; rfl); simp only [av_set, q3, if_false]) | exact av_set_set _ _ _ _ | (funext a; unfold av_set; (repeat' split) <;> first | rfl | (exfalso; omega)) | (funext a; simp only [av_set, cpS]; (repeat' split) <;> first | rfl | (exfalso; omega))) ?_
      refine ev_iinc (lv' := [(2, .int (nI (k + 1))), (0, .ref 3), (1, .int v), (3, .int (nI 24))]) dJ7_fill_53178_14 2 rfl (nI_inc k) (by decide) rfl ?_
      refine ev_goto (tgt := 5) dJ7_fill_53178_17 (by decide) ?_
      refine ev_lv (lv' := [(0, .ref 3), (1, .int v), (2, .int (nI (k + 1))), (3, .int (nI 24))]) [1, 2, 0, 3] rfl ?_
      have ih9 : av_Ev l RJ7 cJ7_fill_53178 4 none av_E0 0 5 [(0, .ref 3), (1, .int v), (2, .int (nI (k + 1))), (3, .int (nI 24))] [] (av_set σ 3 (fo (k + 1) (fun k g => upd g k v) (σ 3))) Q := ihk
      rw [show av_set σ 3 (fo (k + 1) (fun k g => upd g k v) (σ 3)) = av_set σ 3 (upd (fo k (fun k g => upd g k v) (σ 3)) k v) from rfl] at ih9
      exact ih9

set_option maxRecDepth 100000 in
set_option maxHeartbeats 1000000 in
theorem c_J7_fill4 {l : Launch} {σ : av_S} (v : Int32)  : av_M l RJ7 cJ7_fill_53178 4 none 0 [.ref 4, .int v] σ none (av_set σ 4 (fl (σ 4) 24 v)) := by
  intro Q hQ
  show av_Ev l RJ7 cJ7_fill_53178 4 none av_E0 0 0 [(0, .ref 4), (1, .int v)] [] σ Q
  refine ev_iconst dJ7_fill_53178_0 (v := nI 0) (by decide) ?_
  refine ev_istore_n (lv' := [(2, .int (nI 0)), (0, .ref 4), (1, .int v)]) dJ7_fill_53178_1 rfl (by decide) rfl ?_
  refine ev_aload_n dJ7_fill_53178_2 rfl 1 rfl ?_
  refine ev_alen (v := nI 24) dJ7_fill_53178_3 (by decide) sh_4 (by decide) rfl ?_
  refine ev_istore_n (lv' := [(3, .int (nI 24)), (2, .int (nI 0)), (0, .ref 4), (1, .int v)]) dJ7_fill_53178_4 rfl (by decide) rfl ?_
  refine ev_lv (lv' := [(0, .ref 4), (1, .int v), (2, .int (nI 0)), (3, .int (nI 24))]) [2, 3, 1, 0] rfl ?_
  refine ev_st (σ' := av_set σ 4 (fo 0 (fun k g => upd g k v) (σ 4))) (by simp only [fo_0] <;> first | rfl | (funext a; unfold av_set; (repeat' split) <;> first | rfl | (subst_vars; rfl) | (exfalso; omega))) ?_
  refine loop_up (fun k => av_Ev l RJ7 cJ7_fill_53178 4 none av_E0 0 5 [(0, .ref 4), (1, .int v), (2, .int (nI k)), (3, .int (nI 24))] [] (av_set σ 4 (fo k (fun k g => upd g k v) (σ 4))) Q) 24 ?_ ?_
  · show av_Ev l RJ7 cJ7_fill_53178 4 none av_E0 0 5 [(0, .ref 4), (1, .int v), (2, .int (nI 24)), (3, .int (nI 24))] [] (av_set σ 4 (fo 24 (fun k g => upd g k v) (σ 4))) Q
    refine ev_iload_n dJ7_fill_53178_5 rfl 2 rfl ?_
    refine ev_iload_n dJ7_fill_53178_6 rfl 3 rfl ?_
    refine ev_ncmp_ge (tgt := 20) dJ7_fill_53178_7 (by decide) (by omega) (by omega) (fun h7 => ?_) (fun h7 => ?_)
    · exact ev_return dJ7_fill_53178_20 rfl (leafV hQ rfl)
    · exact absurd h7 (by omega)
  · intro k hk ihk
    show av_Ev l RJ7 cJ7_fill_53178 4 none av_E0 0 5 [(0, .ref 4), (1, .int v), (2, .int (nI k)), (3, .int (nI 24))] [] (av_set σ 4 (fo k (fun k g => upd g k v) (σ 4))) Q
    refine ev_iload_n dJ7_fill_53178_5 rfl 2 rfl ?_
    refine ev_iload_n dJ7_fill_53178_6 rfl 3 rfl ?_
    refine ev_ncmp_ge (tgt := 20) dJ7_fill_53178_7 (by decide) (by omega) (by omega) (fun h7 => ?_) (fun h7 => ?_)
    · exact absurd h7 (by omega)
    · refine ev_aload_n dJ7_fill_53178_10 rfl 0 rfl ?_
      refine ev_iload_n dJ7_fill_53178_11 rfl 2 rfl ?_
      refine ev_iload_n dJ7_fill_53178_12 rfl 1 rfl ?_
      refine ev_iast (e := k) dJ7_fill_53178_13 (by decide) sh_4 (by omega) (by decide) ?_
      refine ev_st (σ' := av_set σ 4 (upd (fo k (fun k g => upd g k v) (σ 4)) k v)) (by first | rfl | (funext a; by_cases q4 : a = 4; (next => subst q4; rfl); simp only [av_set, q4, if_false]) | exact av_set_set _ _ _ _ | (funext a; unfold av_set; (repeat' split) <;> first | rfl | (exfalso; omega)) | (funext a; simp only [av_set, cpS]; (repeat' split) <;> first | rfl | (exfalso; omega))) ?_
      refine ev_iinc (lv' := [(2, .int (nI (k + 1))), (0, .ref 4), (1, .int v), (3, .int (nI 24))]) dJ7_fill_53178_14 2 rfl (nI_inc k) (by decide) rfl ?_
      refine ev_goto (tgt := 5) dJ7_fill_53178_17 (by decide) ?_
      refine ev_lv (lv' := [(0, .ref 4), (1, .int v), (2, .int (nI (k + 1))), (3, .int (nI 24))]) [1, 2, 0, 3] rfl ?_
      have ih9 : av_Ev l RJ7 cJ7_fill_53178 4 none av_E0 0 5 [(0, .ref 4), (1, .int v), (2, .int (nI (k + 1))), (3, .int (nI 24))] [] (av_set σ 4 (fo (k + 1) (fun k g => upd g k v) (σ 4))) Q := ihk
      rw [show av_set σ 4 (fo (k + 1) (fun k g => upd g k v) (σ 4)) = av_set σ 4 (upd (fo k (fun k g => upd g k v) (σ 4)) k v) from rfl] at ih9
      exact ih9

set_option maxRecDepth 100000 in
set_option maxHeartbeats 1000000 in
theorem c_X4_reset {l : Launch} {σ : av_S} (x : Int32)  : av_M l RX4 cX4_reset 2 none 1 [.ref 0, .int x] σ none (av_set (av_set (av_set (av_set (av_set σ 0 (upd (upd (upd (upd (σ 0) 0 x) 1 (nI 0)) 2 (nI 0)) 3 (nI 0))) 1 (fl (σ 1) 6 (nI 0))) 2 (fl (σ 2) 60 (-1))) 3 (fl (σ 3) 24 (nI 0))) 4 (fl (σ 4) 24 (nI 0))) := by
  intro Q hQ
  show av_Ev l RX4 cX4_reset 2 none av_E0 1 0 [(0, .ref 0), (1, .int x)] [] σ Q
  refine ev_aload_n dX4_reset_0 rfl 0 rfl ?_
  refine ev_iload_n dX4_reset_1 rfl 1 rfl ?_
  refine ev_putI dX4_reset_2 C_X4 L_X4_9 (by decide) (by decide) sh_0 rfl rfl rfl ?_
  refine ev_aload_n dX4_reset_5 rfl 0 rfl ?_
  refine ev_iconst dX4_reset_6 (v := nI 0) (by decide) ?_
  refine ev_putI dX4_reset_7 C_X4 L_X4_15 (by decide) (by decide) sh_0 rfl rfl rfl ?_
  refine ev_st (σ' := av_set σ 0 (upd (upd (σ 0) 0 x) 1 (nI 0))) (by first | rfl | (funext a; by_cases q0 : a = 0; (next => subst q0; rfl); simp only [av_set, q0, if_false]) | exact av_set_set _ _ _ _ | (funext a; unfold av_set; (repeat' split) <;> first | rfl | (exfalso; omega)) | (funext a; simp only [av_set, cpS]; (repeat' split) <;> first | rfl | (exfalso; omega))) ?_
  refine ev_aload_n dX4_reset_10 rfl 0 rfl ?_
  refine ev_iconst dX4_reset_11 (v := nI 0) (by decide) ?_
  refine ev_putI dX4_reset_12 C_X4 L_X4_18 (by decide) (by decide) sh_0 rfl rfl rfl ?_
  refine ev_st (σ' := av_set σ 0 (upd (upd (upd (σ 0) 0 x) 1 (nI 0)) 2 (nI 0))) (by first | rfl | (funext a; by_cases q0 : a = 0; (next => subst q0; rfl); simp only [av_set, q0, if_false]) | exact av_set_set _ _ _ _ | (funext a; unfold av_set; (repeat' split) <;> first | rfl | (exfalso; omega)) | (funext a; simp only [av_set, cpS]; (repeat' split) <;> first | rfl | (exfalso; omega))) ?_
  refine ev_aload_n dX4_reset_15 rfl 0 rfl ?_
  refine ev_iconst dX4_reset_16 (v := nI 0) (by decide) ?_
  refine ev_putI dX4_reset_17 C_X4 L_X4_21 (by decide) (by decide) sh_0 rfl rfl rfl ?_
  refine ev_st (σ' := av_set σ 0 (upd (upd (upd (upd (σ 0) 0 x) 1 (nI 0)) 2 (nI 0)) 3 (nI 0))) (by first | rfl | (funext a; by_cases q0 : a = 0; (next => subst q0; rfl); simp only [av_set, q0, if_false]) | exact av_set_set _ _ _ _ | (funext a; unfold av_set; (repeat' split) <;> first | rfl | (exfalso; omega)) | (funext a; simp only [av_set, cpS]; (repeat' split) <;> first | rfl | (exfalso; omega))) ?_
  refine ev_aload_n dX4_reset_20 rfl 0 rfl ?_
  refine ev_getR dX4_reset_21 C_X4 L_X4_24 (by decide) (by decide) sh_0 rfl ?_
  refine ev_iconst dX4_reset_24 (v := nI 0) (by decide) ?_
  refine ev_callSv dX4_reset_25 (Or.inl M_X4_43) Y_J7_fill_53178 [.ref 1, .int (nI 0)] (c_J7_fill1 (nI 0) ) (by decide) (Nat.le_of_ble_eq_true rfl) rfl rfl (Nat.le_of_ble_eq_true rfl) ?_
  refine ev_st (σ' := av_set (av_set σ 0 (upd (upd (upd (upd (σ 0) 0 x) 1 (nI 0)) 2 (nI 0)) 3 (nI 0))) 1 (fl (σ 1) 6 (nI 0))) (by first | rfl | (funext a; by_cases q0 : a = 0; (next => subst q0; rfl); by_cases q1 : a = 1; (next => subst q1; rfl); simp only [av_set, q0, q1, if_false]) | exact av_set_set _ _ _ _ | (funext a; unfold av_set; (repeat' split) <;> first | rfl | (exfalso; omega)) | (funext a; simp only [av_set, cpS]; (repeat' split) <;> first | rfl | (exfalso; omega))) ?_
  refine ev_aload_n dX4_reset_28 rfl 0 rfl ?_
  refine ev_getR dX4_reset_29 C_X4 L_X4_28 (by decide) (by decide) sh_0 rfl ?_
  refine ev_iconst dX4_reset_32 (v := (-1)) (by decide) ?_
  refine ev_callSv dX4_reset_33 (Or.inl M_X4_43) Y_J7_fill_53178 [.ref 2, .int (-1)] (c_J7_fill2 (-1) ) (by decide) (Nat.le_of_ble_eq_true rfl) rfl rfl (Nat.le_of_ble_eq_true rfl) ?_
  refine ev_st (σ' := av_set (av_set (av_set σ 0 (upd (upd (upd (upd (σ 0) 0 x) 1 (nI 0)) 2 (nI 0)) 3 (nI 0))) 1 (fl (σ 1) 6 (nI 0))) 2 (fl (σ 2) 60 (-1))) (by first | rfl | (funext a; by_cases q0 : a = 0; (next => subst q0; rfl); by_cases q1 : a = 1; (next => subst q1; rfl); by_cases q2 : a = 2; (next => subst q2; rfl); simp only [av_set, q0, q1, q2, if_false]) | exact av_set_set _ _ _ _ | (funext a; unfold av_set; (repeat' split) <;> first | rfl | (exfalso; omega)) | (funext a; simp only [av_set, cpS]; (repeat' split) <;> first | rfl | (exfalso; omega))) ?_
  refine ev_aload_n dX4_reset_36 rfl 0 rfl ?_
  refine ev_getR dX4_reset_37 C_X4 L_X4_31 (by decide) (by decide) sh_0 rfl ?_
  refine ev_iconst dX4_reset_40 (v := nI 0) (by decide) ?_
  refine ev_callSv dX4_reset_41 (Or.inl M_X4_43) Y_J7_fill_53178 [.ref 3, .int (nI 0)] (c_J7_fill3 (nI 0) ) (by decide) (Nat.le_of_ble_eq_true rfl) rfl rfl (Nat.le_of_ble_eq_true rfl) ?_
  refine ev_st (σ' := av_set (av_set (av_set (av_set σ 0 (upd (upd (upd (upd (σ 0) 0 x) 1 (nI 0)) 2 (nI 0)) 3 (nI 0))) 1 (fl (σ 1) 6 (nI 0))) 2 (fl (σ 2) 60 (-1))) 3 (fl (σ 3) 24 (nI 0))) (by first | rfl | (funext a; by_cases q0 : a = 0; (next => subst q0; rfl); by_cases q1 : a = 1; (next => subst q1; rfl); by_cases q2 : a = 2; (next => subst q2; rfl); by_cases q3 : a = 3; (next => subst q3; rfl); simp only [av_set, q0, q1, q2, q3, if_false]) | exact av_set_set _ _ _ _ | (funext a; unfold av_set; (repeat' split) <;> first | rfl | (exfalso; omega)) | (funext a; simp only [av_set, cpS]; (repeat' split) <;> first | rfl | (exfalso; omega))) ?_
  refine ev_aload_n dX4_reset_44 rfl 0 rfl ?_
  refine ev_getR dX4_reset_45 C_X4 L_X4_34 (by decide) (by decide) sh_0 rfl ?_
  refine ev_iconst dX4_reset_48 (v := nI 0) (by decide) ?_
  refine ev_callSv dX4_reset_49 (Or.inl M_X4_43) Y_J7_fill_53178 [.ref 4, .int (nI 0)] (c_J7_fill4 (nI 0) ) (by decide) (Nat.le_of_ble_eq_true rfl) rfl rfl (Nat.le_of_ble_eq_true rfl) ?_
  refine ev_st (σ' := av_set (av_set (av_set (av_set (av_set σ 0 (upd (upd (upd (upd (σ 0) 0 x) 1 (nI 0)) 2 (nI 0)) 3 (nI 0))) 1 (fl (σ 1) 6 (nI 0))) 2 (fl (σ 2) 60 (-1))) 3 (fl (σ 3) 24 (nI 0))) 4 (fl (σ 4) 24 (nI 0))) (by first | rfl | (funext a; by_cases q0 : a = 0; (next => subst q0; rfl); by_cases q1 : a = 1; (next => subst q1; rfl); by_cases q2 : a = 2; (next => subst q2; rfl); by_cases q3 : a = 3; (next => subst q3; rfl); by_cases q4 : a = 4; (next => subst q4; rfl); simp only [av_set, q0, q1, q2, q3, q4, if_false]) | exact av_set_set _ _ _ _ | (funext a; unfold av_set; (repeat' split) <;> first | rfl | (exfalso; omega)) | (funext a; simp only [av_set, cpS]; (repeat' split) <;> first | rfl | (exfalso; omega))) ?_
  exact ev_return dX4_reset_52 rfl (leafV hQ rfl)

set_option maxRecDepth 100000 in
set_option maxHeartbeats 1000000 in
theorem c_X4_renameUser {l : Launch} {σ : av_S} (s : Nat) (n : Nat) (q : Nat) (hs : s < 6) (hn : n < 10) (hq : q < 10) : av_M l RX4 cX4_renameUser 5 none 3 [.ref 0, .int (nI s), .int (nI n), .int (nI q)] σ none (av_set (av_set (av_set σ 2 (rmU (upd (σ 2) (s * 10 + q) (σ 0 1)) s n)) 3 (rmA (cpA (σ 3) s n q) s n)) 4 (rmA (cpA (σ 4) s n q) s n)) := by
  intro Q hQ
  show av_Ev l RX4 cX4_renameUser 5 none av_E0 3 0 [(0, .ref 0), (1, .int (nI s)), (2, .int (nI n)), (3, .int (nI q))] [] σ Q
  refine ev_aload_n dX4_renameUser_0 rfl 0 rfl ?_
  refine ev_iload_n dX4_renameUser_1 rfl 1 rfl ?_
  refine ev_iload_n dX4_renameUser_2 rfl 3 rfl ?_
  refine ev_callVv (σ' := av_set σ 2 (upd (σ 2) (s * 10 + q) (σ 0 1))) dX4_renameUser_3 M_X4_95 Y_X4_addUser [.int (nI s), .int (nI q)] (c_X4_addUser s q (by omega) (by first | exact hn | omega)) (by decide) (Nat.le_of_ble_eq_true rfl) (by decide) sh_0 rfl rfl rfl (Nat.le_of_ble_eq_true rfl) ?_
  refine ev_iconst dX4_renameUser_6 (v := nI 0) (by decide) ?_
  refine ev_istore (lv' := [(4, .int (nI 0)), (0, .ref 0), (1, .int (nI s)), (2, .int (nI n)), (3, .int (nI q))]) dX4_renameUser_7 (by decide) rfl ?_
  refine ev_lv (lv' := [(0, .ref 0), (1, .int (nI s)), (2, .int (nI n)), (3, .int (nI q)), (4, .int (nI 0))]) [1, 2, 3, 4, 0] rfl ?_
  refine ev_st (σ' := av_set (av_set (av_set σ 2 (upd (σ 2) (s * 10 + q) (σ 0 1))) 3 (fo 0 (fun ch M => cpM n q s ch M) (σ 3))) 4 (fo 0 (fun ch M => cpM n q s ch M) (σ 4))) (by simp only [fo_0] <;> first | rfl | (funext a; unfold av_set; (repeat' split) <;> first | rfl | (subst_vars; rfl) | (exfalso; omega))) ?_
  refine loop_up (fun k => av_Ev l RX4 cX4_renameUser 5 none av_E0 3 9 [(0, .ref 0), (1, .int (nI s)), (2, .int (nI n)), (3, .int (nI q)), (4, .int (nI k))] [] (av_set (av_set (av_set σ 2 (upd (σ 2) (s * 10 + q) (σ 0 1))) 3 (fo k (fun ch M => cpM n q s ch M) (σ 3))) 4 (fo k (fun ch M => cpM n q s ch M) (σ 4))) Q) 4 ?_ ?_
  · show av_Ev l RX4 cX4_renameUser 5 none av_E0 3 9 [(0, .ref 0), (1, .int (nI s)), (2, .int (nI n)), (3, .int (nI q)), (4, .int (nI 4))] [] (av_set (av_set (av_set σ 2 (upd (σ 2) (s * 10 + q) (σ 0 1))) 3 (fo 4 (fun ch M => cpM n q s ch M) (σ 3))) 4 (fo 4 (fun ch M => cpM n q s ch M) (σ 4))) Q
    refine ev_iload dX4_renameUser_9 4 rfl ?_
    refine ev_iconst dX4_renameUser_11 (v := nI 4) (by decide) ?_
    refine ev_ncmp_ge (tgt := 59) dX4_renameUser_12 (by decide) (by omega) (by omega) (fun h12 => ?_) (fun h12 => ?_)
    · refine ev_aload_n dX4_renameUser_59 rfl 0 rfl ?_
      refine ev_iload_n dX4_renameUser_60 rfl 1 rfl ?_
      refine ev_iload_n dX4_renameUser_61 rfl 2 rfl ?_
      refine ev_callVv dX4_renameUser_62 M_X4_108 Y_X4_removeUser [.int (nI s), .int (nI n)] (c_X4_removeUser s n (by omega) (by first | exact hn | omega)) (by decide) (Nat.le_of_ble_eq_true rfl) (by decide) sh_0 rfl rfl rfl (Nat.le_of_ble_eq_true rfl) ?_
      refine ev_st (σ' := av_set (av_set (av_set σ 2 (upd (upd (σ 2) (s * 10 + q) (σ 0 1)) (s * 10 + n) (-1))) 3 (rmA (fo 4 (fun ch M => cpM n q s ch M) (σ 3)) s n)) 4 (rmA (fo 4 (fun ch M => cpM n q s ch M) (σ 4)) s n)) (by first | rfl | (funext a; by_cases q2 : a = 2; (next => subst q2; rfl); by_cases q3 : a = 3; (next => subst q3; rfl); by_cases q4 : a = 4; (next => subst q4; rfl); simp only [av_set, q2, q3, q4, if_false]) | exact av_set_set _ _ _ _ | (funext a; unfold av_set; (repeat' split) <;> first | rfl | (exfalso; omega)) | (funext a; simp only [av_set, cpS]; (repeat' split) <;> first | rfl | (exfalso; omega))) ?_
      exact ev_return dX4_renameUser_65 rfl (leafV hQ rfl)
    · exact absurd h12 (by omega)
  · intro k hk ihk
    show av_Ev l RX4 cX4_renameUser 5 none av_E0 3 9 [(0, .ref 0), (1, .int (nI s)), (2, .int (nI n)), (3, .int (nI q)), (4, .int (nI k))] [] (av_set (av_set (av_set σ 2 (upd (σ 2) (s * 10 + q) (σ 0 1))) 3 (fo k (fun ch M => cpM n q s ch M) (σ 3))) 4 (fo k (fun ch M => cpM n q s ch M) (σ 4))) Q
    refine ev_iload dX4_renameUser_9 4 rfl ?_
    refine ev_iconst dX4_renameUser_11 (v := nI 4) (by decide) ?_
    refine ev_ncmp_ge (tgt := 59) dX4_renameUser_12 (by decide) (by omega) (by omega) (fun h12 => ?_) (fun h12 => ?_)
    · exact absurd h12 (by omega)
    · refine ev_aload_n dX4_renameUser_15 rfl 0 rfl ?_
      refine ev_iload_n dX4_renameUser_16 rfl 1 rfl ?_
      refine ev_iload_n dX4_renameUser_17 rfl 2 rfl ?_
      refine ev_iload dX4_renameUser_18 4 rfl ?_
      refine ev_callVi (x := b2i (tb ((fo k (fun ch M => cpM n q s ch M) (σ 3)) (s * 4 + k)) n)) dX4_renameUser_20 M_X4_87 Y_X4_isMember [.int (nI s), .int (nI n), .int (nI k)] (c_X4_isMember s n k (by omega) (by first | exact hn | omega) (by omega)) (by decide) (Nat.le_of_ble_eq_true rfl) (by decide) sh_0 rfl rfl rfl (Nat.le_of_ble_eq_true rfl) ?_
      refine ev_ifb_eq (tgt := 34) dX4_renameUser_23 (by decide) (fun h23 => ?_) (fun h23 => ?_)
      · refine ev_aload_n dX4_renameUser_34 rfl 0 rfl ?_
        refine ev_iload_n dX4_renameUser_35 rfl 1 rfl ?_
        refine ev_iload_n dX4_renameUser_36 rfl 2 rfl ?_
        refine ev_iload dX4_renameUser_37 4 rfl ?_
        refine ev_callVi (x := b2i (tb ((fo k (fun ch M => cpM n q s ch M) (σ 4)) (s * 4 + k)) n)) dX4_renameUser_39 M_X4_102 Y_X4_isOperator [.int (nI s), .int (nI n), .int (nI k)] (c_X4_isOperator s n k (by omega) (by first | exact hn | omega) (by omega)) (by decide) (Nat.le_of_ble_eq_true rfl) (by decide) sh_0 rfl rfl rfl (Nat.le_of_ble_eq_true rfl) ?_
        refine ev_ifb_eq (tgt := 53) dX4_renameUser_42 (by decide) (fun h42 => ?_) (fun h42 => ?_)
        · refine ev_iinc (lv' := [(4, .int (nI (k + 1))), (0, .ref 0), (1, .int (nI s)), (2, .int (nI n)), (3, .int (nI q))]) dX4_renameUser_53 4 rfl (nI_inc k) (by decide) rfl ?_
          refine ev_goto (tgt := 9) dX4_renameUser_56 (by decide) ?_
          refine ev_lv (lv' := [(0, .ref 0), (1, .int (nI s)), (2, .int (nI n)), (3, .int (nI q)), (4, .int (nI (k + 1)))]) [1, 2, 3, 4, 0] rfl ?_
          have ih9 : av_Ev l RX4 cX4_renameUser 5 none av_E0 3 9 [(0, .ref 0), (1, .int (nI s)), (2, .int (nI n)), (3, .int (nI q)), (4, .int (nI (k + 1)))] [] (av_set (av_set (av_set σ 2 (upd (σ 2) (s * 10 + q) (σ 0 1))) 3 (fo (k + 1) (fun ch M => cpM n q s ch M) (σ 3))) 4 (fo (k + 1) (fun ch M => cpM n q s ch M) (σ 4))) Q := ihk
          rw [show av_set (av_set (av_set σ 2 (upd (σ 2) (s * 10 + q) (σ 0 1))) 3 (fo (k + 1) (fun ch M => cpM n q s ch M) (σ 3))) 4 (fo (k + 1) (fun ch M => cpM n q s ch M) (σ 4)) = av_set (av_set (av_set σ 2 (upd (σ 2) (s * 10 + q) (σ 0 1))) 3 (fo k (fun ch M => cpM n q s ch M) (σ 3))) 4 (fo k (fun ch M => cpM n q s ch M) (σ 4)) from (by simp only [fo_s, cpM_t, cpM_f, h12, h23, h42])] at ih9
          exact ih9
        · refine ev_aload_n dX4_renameUser_45 rfl 0 rfl ?_
          refine ev_iload_n dX4_renameUser_46 rfl 1 rfl ?_
          refine ev_iload_n dX4_renameUser_47 rfl 3 rfl ?_
          refine ev_iload dX4_renameUser_48 4 rfl ?_
          refine ev_callVv dX4_renameUser_50 M_X4_105 Y_X4_addOperator [.int (nI s), .int (nI q), .int (nI k)] (c_X4_addOperator s q k (by omega) (by first | exact hn | omega) (by omega)) (by decide) (Nat.le_of_ble_eq_true rfl) (by decide) sh_0 rfl rfl rfl (Nat.le_of_ble_eq_true rfl) ?_
          refine ev_st (σ' := av_set (av_set (av_set σ 2 (upd (σ 2) (s * 10 + q) (σ 0 1))) 3 (fo k (fun ch M => cpM n q s ch M) (σ 3))) 4 (adM (fo k (fun ch M => cpM n q s ch M) (σ 4)) s q k)) (by first | rfl | (funext a; by_cases q2 : a = 2; (next => subst q2; rfl); by_cases q3 : a = 3; (next => subst q3; rfl); by_cases q4 : a = 4; (next => subst q4; rfl); simp only [av_set, q2, q3, q4, if_false]) | exact av_set_set _ _ _ _ | (funext a; unfold av_set; (repeat' split) <;> first | rfl | (exfalso; omega)) | (funext a; simp only [av_set, cpS]; (repeat' split) <;> first | rfl | (exfalso; omega))) ?_
          refine ev_iinc (lv' := [(4, .int (nI (k + 1))), (0, .ref 0), (1, .int (nI s)), (2, .int (nI n)), (3, .int (nI q))]) dX4_renameUser_53 4 rfl (nI_inc k) (by decide) rfl ?_
          refine ev_goto (tgt := 9) dX4_renameUser_56 (by decide) ?_
          refine ev_lv (lv' := [(0, .ref 0), (1, .int (nI s)), (2, .int (nI n)), (3, .int (nI q)), (4, .int (nI (k + 1)))]) [1, 2, 3, 4, 0] rfl ?_
          have ih9 : av_Ev l RX4 cX4_renameUser 5 none av_E0 3 9 [(0, .ref 0), (1, .int (nI s)), (2, .int (nI n)), (3, .int (nI q)), (4, .int (nI (k + 1)))] [] (av_set (av_set (av_set σ 2 (upd (σ 2) (s * 10 + q) (σ 0 1))) 3 (fo (k + 1) (fun ch M => cpM n q s ch M) (σ 3))) 4 (fo (k + 1) (fun ch M => cpM n q s ch M) (σ 4))) Q := ihk
          rw [show av_set (av_set (av_set σ 2 (upd (σ 2) (s * 10 + q) (σ 0 1))) 3 (fo (k + 1) (fun ch M => cpM n q s ch M) (σ 3))) 4 (fo (k + 1) (fun ch M => cpM n q s ch M) (σ 4)) = av_set (av_set (av_set σ 2 (upd (σ 2) (s * 10 + q) (σ 0 1))) 3 (fo k (fun ch M => cpM n q s ch M) (σ 3))) 4 (adM (fo k (fun ch M => cpM n q s ch M) (σ 4)) s q k) from (by simp only [fo_s, cpM_t, cpM_f, h12, h23, h42])] at ih9
          exact ih9
      · refine ev_aload_n dX4_renameUser_26 rfl 0 rfl ?_
        refine ev_iload_n dX4_renameUser_27 rfl 1 rfl ?_
        refine ev_iload_n dX4_renameUser_28 rfl 3 rfl ?_
        refine ev_iload dX4_renameUser_29 4 rfl ?_
        refine ev_callVv dX4_renameUser_31 M_X4_99 Y_X4_addMember [.int (nI s), .int (nI q), .int (nI k)] (c_X4_addMember s q k (by omega) (by first | exact hn | omega) (by omega)) (by decide) (Nat.le_of_ble_eq_true rfl) (by decide) sh_0 rfl rfl rfl (Nat.le_of_ble_eq_true rfl) ?_
        refine ev_st (σ' := av_set (av_set (av_set σ 2 (upd (σ 2) (s * 10 + q) (σ 0 1))) 3 (adM (fo k (fun ch M => cpM n q s ch M) (σ 3)) s q k)) 4 (fo k (fun ch M => cpM n q s ch M) (σ 4))) (by first | rfl | (funext a; by_cases q2 : a = 2; (next => subst q2; rfl); by_cases q3 : a = 3; (next => subst q3; rfl); by_cases q4 : a = 4; (next => subst q4; rfl); simp only [av_set, q2, q3, q4, if_false]) | exact av_set_set _ _ _ _ | (funext a; unfold av_set; (repeat' split) <;> first | rfl | (exfalso; omega)) | (funext a; simp only [av_set, cpS]; (repeat' split) <;> first | rfl | (exfalso; omega))) ?_
        refine ev_aload_n dX4_renameUser_34 rfl 0 rfl ?_
        refine ev_iload_n dX4_renameUser_35 rfl 1 rfl ?_
        refine ev_iload_n dX4_renameUser_36 rfl 2 rfl ?_
        refine ev_iload dX4_renameUser_37 4 rfl ?_
        refine ev_callVi (x := b2i (tb ((fo k (fun ch M => cpM n q s ch M) (σ 4)) (s * 4 + k)) n)) dX4_renameUser_39 M_X4_102 Y_X4_isOperator [.int (nI s), .int (nI n), .int (nI k)] (c_X4_isOperator s n k (by omega) (by first | exact hn | omega) (by omega)) (by decide) (Nat.le_of_ble_eq_true rfl) (by decide) sh_0 rfl rfl rfl (Nat.le_of_ble_eq_true rfl) ?_
        refine ev_ifb_eq (tgt := 53) dX4_renameUser_42 (by decide) (fun h42 => ?_) (fun h42 => ?_)
        · refine ev_iinc (lv' := [(4, .int (nI (k + 1))), (0, .ref 0), (1, .int (nI s)), (2, .int (nI n)), (3, .int (nI q))]) dX4_renameUser_53 4 rfl (nI_inc k) (by decide) rfl ?_
          refine ev_goto (tgt := 9) dX4_renameUser_56 (by decide) ?_
          refine ev_lv (lv' := [(0, .ref 0), (1, .int (nI s)), (2, .int (nI n)), (3, .int (nI q)), (4, .int (nI (k + 1)))]) [1, 2, 3, 4, 0] rfl ?_
          have ih9 : av_Ev l RX4 cX4_renameUser 5 none av_E0 3 9 [(0, .ref 0), (1, .int (nI s)), (2, .int (nI n)), (3, .int (nI q)), (4, .int (nI (k + 1)))] [] (av_set (av_set (av_set σ 2 (upd (σ 2) (s * 10 + q) (σ 0 1))) 3 (fo (k + 1) (fun ch M => cpM n q s ch M) (σ 3))) 4 (fo (k + 1) (fun ch M => cpM n q s ch M) (σ 4))) Q := ihk
          rw [show av_set (av_set (av_set σ 2 (upd (σ 2) (s * 10 + q) (σ 0 1))) 3 (fo (k + 1) (fun ch M => cpM n q s ch M) (σ 3))) 4 (fo (k + 1) (fun ch M => cpM n q s ch M) (σ 4)) = av_set (av_set (av_set σ 2 (upd (σ 2) (s * 10 + q) (σ 0 1))) 3 (adM (fo k (fun ch M => cpM n q s ch M) (σ 3)) s q k)) 4 (fo k (fun ch M => cpM n q s ch M) (σ 4)) from (by simp only [fo_s, cpM_t, cpM_f, h12, h23, h42])] at ih9
          exact ih9
        · refine ev_aload_n dX4_renameUser_45 rfl 0 rfl ?_
          refine ev_iload_n dX4_renameUser_46 rfl 1 rfl ?_
          refine ev_iload_n dX4_renameUser_47 rfl 3 rfl ?_
          refine ev_iload dX4_renameUser_48 4 rfl ?_
          refine ev_callVv dX4_renameUser_50 M_X4_105 Y_X4_addOperator [.int (nI s), .int (nI q), .int (nI k)] (c_X4_addOperator s q k (by omega) (by first | exact hn | omega) (by omega)) (by decide) (Nat.le_of_ble_eq_true rfl) (by decide) sh_0 rfl rfl rfl (Nat.le_of_ble_eq_true rfl) ?_
          refine ev_st (σ' := av_set (av_set (av_set σ 2 (upd (σ 2) (s * 10 + q) (σ 0 1))) 3 (adM (fo k (fun ch M => cpM n q s ch M) (σ 3)) s q k)) 4 (adM (fo k (fun ch M => cpM n q s ch M) (σ 4)) s q k)) (by first | rfl | (funext a; by_cases q2 : a = 2; (next => subst q2; rfl); by_cases q3 : a = 3; (next => subst q3; rfl); by_cases q4 : a = 4; (next => subst q4; rfl); simp only [av_set, q2, q3, q4, if_false]) | exact av_set_set _ _ _ _ | (funext a; unfold av_set; (repeat' split) <;> first | rfl | (exfalso; omega)) | (funext a; simp only [av_set, cpS]; (repeat' split) <;> first | rfl | (exfalso; omega))) ?_
          refine ev_iinc (lv' := [(4, .int (nI (k + 1))), (0, .ref 0), (1, .int (nI s)), (2, .int (nI n)), (3, .int (nI q))]) dX4_renameUser_53 4 rfl (nI_inc k) (by decide) rfl ?_
          refine ev_goto (tgt := 9) dX4_renameUser_56 (by decide) ?_
          refine ev_lv (lv' := [(0, .ref 0), (1, .int (nI s)), (2, .int (nI n)), (3, .int (nI q)), (4, .int (nI (k + 1)))]) [1, 2, 3, 4, 0] rfl ?_
          have ih9 : av_Ev l RX4 cX4_renameUser 5 none av_E0 3 9 [(0, .ref 0), (1, .int (nI s)), (2, .int (nI n)), (3, .int (nI q)), (4, .int (nI (k + 1)))] [] (av_set (av_set (av_set σ 2 (upd (σ 2) (s * 10 + q) (σ 0 1))) 3 (fo (k + 1) (fun ch M => cpM n q s ch M) (σ 3))) 4 (fo (k + 1) (fun ch M => cpM n q s ch M) (σ 4))) Q := ihk
          rw [show av_set (av_set (av_set σ 2 (upd (σ 2) (s * 10 + q) (σ 0 1))) 3 (fo (k + 1) (fun ch M => cpM n q s ch M) (σ 3))) 4 (fo (k + 1) (fun ch M => cpM n q s ch M) (σ 4)) = av_set (av_set (av_set σ 2 (upd (σ 2) (s * 10 + q) (σ 0 1))) 3 (adM (fo k (fun ch M => cpM n q s ch M) (σ 3)) s q k)) 4 (adM (fo k (fun ch M => cpM n q s ch M) (σ 4)) s q k) from (by simp only [fo_s, cpM_t, cpM_f, h12, h23, h42])] at ih9
          exact ih9

set_option maxRecDepth 100000 in
set_option maxHeartbeats 1000000 in
theorem c_X4_countMessages {l : Launch} {σ : av_S} (s : Nat) (hs : s < 6) : av_M l RX4 cX4_countMessages 6 (some .int) 3 [.ref 0, .int (nI s)] σ (some (.int (cm (σ 1) (σ 2) (σ 3) (σ 6) s))) σ := by
  intro Q hQ
  show av_Ev l RX4 cX4_countMessages 6 (some .int) av_E0 3 0 [(0, .ref 0), (1, .int (nI s))] [] σ Q
  refine ev_aload_n dX4_countMessages_0 rfl 0 rfl ?_
  refine ev_iload_n dX4_countMessages_1 rfl 1 rfl ?_
  refine ev_callVi (x := net (σ 1) s) dX4_countMessages_2 M_X4_71 Y_X4_networkOf [.int (nI s)] (c_X4_networkOf s (by omega)) (by decide) (Nat.le_of_ble_eq_true rfl) (by decide) sh_0 rfl rfl rfl (Nat.le_of_ble_eq_true rfl) ?_
  refine ev_istore_n (lv' := [(2, .int (net (σ 1) s)), (0, .ref 0), (1, .int (nI s))]) dX4_countMessages_5 rfl (by decide) rfl ?_
  refine ev_iload_n dX4_countMessages_6 rfl 0 rfl ?_
  refine ev_callSi (x := jbc (net (σ 1) s)) dX4_countMessages_7 (Or.inl M_X4_121) Y_J6_bitCount_0f7a4 [.int (net (σ 1) s)] (c_J6_bitCount_0f7a4 (net (σ 1) s) ) (by decide) (Nat.le_of_ble_eq_true rfl) rfl rfl (Nat.le_of_ble_eq_true rfl) ?_
  refine ev_aload_n dX4_countMessages_10 rfl 1 rfl ?_
  refine ev_iload_n dX4_countMessages_11 rfl 0 rfl ?_
  refine ev_callVi (x := nI (cu (σ 2) (net (σ 1) s))) dX4_countMessages_12 M_X4_126 Y_X4_countUsers [.int (net (σ 1) s)] (c_X4_countUsers (net (σ 1) s) ) (by decide) (Nat.le_of_ble_eq_true rfl) (by decide) sh_0 rfl rfl rfl (Nat.le_of_ble_eq_true rfl) ?_
  refine ev_iadd dX4_countMessages_15 ?_
  refine ev_istore_n (lv' := [(3, .int ((jbc (net (σ 1) s)) + (nI (cu (σ 2) (net (σ 1) s))))), (2, .int (net (σ 1) s)), (0, .ref 0), (1, .int (nI s))]) dX4_countMessages_16 rfl (by decide) rfl ?_
  refine ev_iconst dX4_countMessages_17 (v := nI 0) (by decide) ?_
  refine ev_istore (lv' := [(4, .int (nI 0)), (3, .int ((jbc (net (σ 1) s)) + (nI (cu (σ 2) (net (σ 1) s))))), (2, .int (net (σ 1) s)), (0, .ref 0), (1, .int (nI s))]) dX4_countMessages_18 (by decide) rfl ?_
  refine ev_lv (lv' := [(0, .ref 0), (1, .int (nI s)), (2, .int (net (σ 1) s)), (3, .int ((jbc (net (σ 1) s)) + (nI (cu (σ 2) (net (σ 1) s))))), (4, .int (nI 0))]) [3, 4, 2, 1, 0] rfl ?_
  refine loop_up (fun k => av_Ev l RX4 cX4_countMessages 6 (some .int) av_E0 3 20 [(0, .ref 0), (1, .int (nI s)), (2, .int (net (σ 1) s)), (3, .int (fo k (fun ch x => cmF (σ 1) (σ 3) (σ 6) s ch x) (jbc (net (σ 1) s) + nI (cu (σ 2) (net (σ 1) s))))), (4, .int (nI k))] [] σ Q) 4 ?_ ?_
  · show av_Ev l RX4 cX4_countMessages 6 (some .int) av_E0 3 20 [(0, .ref 0), (1, .int (nI s)), (2, .int (net (σ 1) s)), (3, .int (fo 4 (fun ch x => cmF (σ 1) (σ 3) (σ 6) s ch x) (jbc (net (σ 1) s) + nI (cu (σ 2) (net (σ 1) s))))), (4, .int (nI 4))] [] σ Q
    refine ev_iload dX4_countMessages_20 4 rfl ?_
    refine ev_iconst dX4_countMessages_22 (v := nI 4) (by decide) ?_
    refine ev_ncmp_ge (tgt := 65) dX4_countMessages_23 (by decide) (by omega) (by omega) (fun h23 => ?_) (fun h23 => ?_)
    · refine ev_iload_n dX4_countMessages_65 rfl 3 rfl ?_
      exact ev_ireturn dX4_countMessages_66 rfl rfl (leafI hQ (by first | rfl | (simp [h23]; done)) rfl)
    · exact absurd h23 (by omega)
  · intro k hk ihk
    show av_Ev l RX4 cX4_countMessages 6 (some .int) av_E0 3 20 [(0, .ref 0), (1, .int (nI s)), (2, .int (net (σ 1) s)), (3, .int (fo k (fun ch x => cmF (σ 1) (σ 3) (σ 6) s ch x) (jbc (net (σ 1) s) + nI (cu (σ 2) (net (σ 1) s))))), (4, .int (nI k))] [] σ Q
    refine ev_iload dX4_countMessages_20 4 rfl ?_
    refine ev_iconst dX4_countMessages_22 (v := nI 4) (by decide) ?_
    refine ev_ncmp_ge (tgt := 65) dX4_countMessages_23 (by decide) (by omega) (by omega) (fun h23 => ?_) (fun h23 => ?_)
    · exact absurd h23 (by omega)
    · refine ev_aload_n dX4_countMessages_26 rfl 0 rfl ?_
      refine ev_iload_n dX4_countMessages_27 rfl 2 rfl ?_
      refine ev_iload dX4_countMessages_28 4 rfl ?_
      refine ev_callVi (x := un (σ 3) (net (σ 1) s) k) dX4_countMessages_30 M_X4_118 Y_X4_membersIn [.int (net (σ 1) s), .int (nI k)] (c_X4_membersIn (net (σ 1) s) k (by omega)) (by decide) (Nat.le_of_ble_eq_true rfl) (by decide) sh_0 rfl rfl rfl (Nat.le_of_ble_eq_true rfl) ?_
      refine ev_callSi (x := jbc (un (σ 3) (net (σ 1) s) k)) dX4_countMessages_33 (Or.inl M_X4_121) Y_J6_bitCount_0f7a4 [.int (un (σ 3) (net (σ 1) s) k)] (c_J6_bitCount_0f7a4 (un (σ 3) (net (σ 1) s) k) ) (by decide) (Nat.le_of_ble_eq_true rfl) rfl rfl (Nat.le_of_ble_eq_true rfl) ?_
      refine ev_istore (lv' := [(5, .int (jbc (un (σ 3) (net (σ 1) s) k))), (0, .ref 0), (1, .int (nI s)), (2, .int (net (σ 1) s)), (3, .int (fo k (fun ch x => cmF (σ 1) (σ 3) (σ 6) s ch x) (jbc (net (σ 1) s) + nI (cu (σ 2) (net (σ 1) s))))), (4, .int (nI k))]) dX4_countMessages_36 (by decide) rfl ?_
      refine ev_iload dX4_countMessages_38 0 rfl ?_
      refine ev_if_le (tgt := 59) dX4_countMessages_40 (by decide) (fun h40 => ?_) (fun h40 => ?_)
      · refine ev_iinc (lv' := [(4, .int (nI (k + 1))), (5, .int (jbc (un (σ 3) (net (σ 1) s) k))), (0, .ref 0), (1, .int (nI s)), (2, .int (net (σ 1) s)), (3, .int (fo k (fun ch x => cmF (σ 1) (σ 3) (σ 6) s ch x) (jbc (net (σ 1) s) + nI (cu (σ 2) (net (σ 1) s)))))]) dX4_countMessages_59 5 rfl (nI_inc k) (by decide) rfl ?_
        refine ev_goto (tgt := 20) dX4_countMessages_62 (by decide) ?_
        refine ev_lv (lv' := [(0, .ref 0), (1, .int (nI s)), (2, .int (net (σ 1) s)), (3, .int (fo k (fun ch x => cmF (σ 1) (σ 3) (σ 6) s ch x) (jbc (net (σ 1) s) + nI (cu (σ 2) (net (σ 1) s))))), (4, .int (nI (k + 1)))]) [2, 3, 4, 5, 0] rfl ?_
        have ih9 : av_Ev l RX4 cX4_countMessages 6 (some .int) av_E0 3 20 [(0, .ref 0), (1, .int (nI s)), (2, .int (net (σ 1) s)), (3, .int (fo (k + 1) (fun ch x => cmF (σ 1) (σ 3) (σ 6) s ch x) (jbc (net (σ 1) s) + nI (cu (σ 2) (net (σ 1) s))))), (4, .int (nI (k + 1)))] [] σ Q := ihk
        rw [show fo (k + 1) (fun ch x => cmF (σ 1) (σ 3) (σ 6) s ch x) (jbc (net (σ 1) s) + nI (cu (σ 2) (net (σ 1) s))) = fo k (fun ch x => cmF (σ 1) (σ 3) (σ 6) s ch x) (jbc (net (σ 1) s) + nI (cu (σ 2) (net (σ 1) s))) from (by rw [fo_s]; simp [cmF, h23, h40])] at ih9
        exact ih9
      · refine ev_iload_n dX4_countMessages_43 rfl 4 rfl ?_
        refine ev_iload dX4_countMessages_44 0 rfl ?_
        refine ev_aload_n dX4_countMessages_46 rfl 1 rfl ?_
        refine ev_iload_n dX4_countMessages_47 rfl 2 rfl ?_
        refine ev_iload dX4_countMessages_48 5 rfl ?_
        refine ev_callVi (x := σ 6 (s * 4 + k)) dX4_countMessages_50 M_X4_129 Y_X4_modesOfChannel [.int (nI s), .int (nI k)] (c_X4_modesOfChannel s k (by omega) (by omega)) (by decide) (Nat.le_of_ble_eq_true rfl) (by decide) sh_0 rfl rfl rfl (Nat.le_of_ble_eq_true rfl) ?_
        refine ev_callSi (x := jbc (σ 6 (s * 4 + k))) dX4_countMessages_53 (Or.inl M_X4_121) Y_J6_bitCount_0f7a4 [.int (σ 6 (s * 4 + k))] (c_J6_bitCount_0f7a4 (σ 6 (s * 4 + k)) ) (by decide) (Nat.le_of_ble_eq_true rfl) rfl rfl (Nat.le_of_ble_eq_true rfl) ?_
        refine ev_iadd dX4_countMessages_56 ?_
        refine ev_iadd dX4_countMessages_57 ?_
        refine ev_istore_n (lv' := [(3, .int ((fo k (fun ch x => cmF (σ 1) (σ 3) (σ 6) s ch x) (jbc (net (σ 1) s) + nI (cu (σ 2) (net (σ 1) s)))) + ((jbc (un (σ 3) (net (σ 1) s) k)) + (jbc (σ 6 (s * 4 + k)))))), (5, .int (jbc (un (σ 3) (net (σ 1) s) k))), (0, .ref 0), (1, .int (nI s)), (2, .int (net (σ 1) s)), (4, .int (nI k))]) dX4_countMessages_58 rfl (by decide) rfl ?_
        refine ev_iinc (lv' := [(4, .int (nI (k + 1))), (3, .int ((fo k (fun ch x => cmF (σ 1) (σ 3) (σ 6) s ch x) (jbc (net (σ 1) s) + nI (cu (σ 2) (net (σ 1) s)))) + ((jbc (un (σ 3) (net (σ 1) s) k)) + (jbc (σ 6 (s * 4 + k)))))), (5, .int (jbc (un (σ 3) (net (σ 1) s) k))), (0, .ref 0), (1, .int (nI s)), (2, .int (net (σ 1) s))]) dX4_countMessages_59 5 rfl (nI_inc k) (by decide) rfl ?_
        refine ev_goto (tgt := 20) dX4_countMessages_62 (by decide) ?_
        refine ev_lv (lv' := [(0, .ref 0), (1, .int (nI s)), (2, .int (net (σ 1) s)), (3, .int ((fo k (fun ch x => cmF (σ 1) (σ 3) (σ 6) s ch x) (jbc (net (σ 1) s) + nI (cu (σ 2) (net (σ 1) s)))) + ((jbc (un (σ 3) (net (σ 1) s) k)) + (jbc (σ 6 (s * 4 + k)))))), (4, .int (nI (k + 1)))]) [3, 4, 5, 1, 0] rfl ?_
        have ih9 : av_Ev l RX4 cX4_countMessages 6 (some .int) av_E0 3 20 [(0, .ref 0), (1, .int (nI s)), (2, .int (net (σ 1) s)), (3, .int (fo (k + 1) (fun ch x => cmF (σ 1) (σ 3) (σ 6) s ch x) (jbc (net (σ 1) s) + nI (cu (σ 2) (net (σ 1) s))))), (4, .int (nI (k + 1)))] [] σ Q := ihk
        rw [show fo (k + 1) (fun ch x => cmF (σ 1) (σ 3) (σ 6) s ch x) (jbc (net (σ 1) s) + nI (cu (σ 2) (net (σ 1) s))) = (fo k (fun ch x => cmF (σ 1) (σ 3) (σ 6) s ch x) (jbc (net (σ 1) s) + nI (cu (σ 2) (net (σ 1) s)))) + ((jbc (un (σ 3) (net (σ 1) s) k)) + (jbc (σ 6 (s * 4 + k)))) from (by rw [fo_s]; simp [cmF, h23, h40])] at ih9
        exact ih9

