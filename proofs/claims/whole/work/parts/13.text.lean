/-! ===== ModeText: contracts ===== -/
set_option maxRecDepth 100000 in
set_option maxHeartbeats 1000000 in
theorem c_J1_canEncode_9a6ad {l : Launch} {σ : av_S} (c : Nat) (hc : c < 256) : av_M l RJ1 cJ1_canEncode_9a6ad 1 (some .boolean) 0 [.int (nI c)] σ (some (.int (b2i true))) σ := by
  intro Q hQ
  show av_Ev l RJ1 cJ1_canEncode_9a6ad 1 (some .boolean) av_E0 0 0 [(0, .int (nI c))] [] σ Q
  refine ev_iload_n dJ1_canEncode_9a6ad_0 rfl 0 rfl ?_
  refine ev_nif_lt (tgt := 15) dJ1_canEncode_9a6ad_1 (by decide) (by omega) ?_
  refine ev_iload_n dJ1_canEncode_9a6ad_4 rfl 0 rfl ?_
  refine ev_sipush dJ1_canEncode_9a6ad_5 (v := nI 255) (by decide) ?_
  refine ev_ncmp_gt (tgt := 15) dJ1_canEncode_9a6ad_8 (by decide) (by omega) (by omega) (fun h8 => ?_) (fun h8 => ?_)
  · exact absurd h8 (by omega)
  · refine ev_iconst dJ1_canEncode_9a6ad_11 (v := nI 1) (by decide) ?_
    refine ev_goto (tgt := 16) dJ1_canEncode_9a6ad_12 (by decide) ?_
    exact ev_ireturn dJ1_canEncode_9a6ad_16 rfl (by decide) (leafI hQ (by first | rfl | (simp [h8]; done)) rfl)

set_option maxRecDepth 100000 in
set_option maxHeartbeats 1000000 in
theorem c_J1_indexOfChar_4cfef {l : Launch} {σ : av_S} (c : Nat)  : av_M l RJ1 cJ1_indexOfChar_4cfef 6 (some .int) 0 [.ref 88, .int (nI c), .int (nI 0), .int (nI 6)] σ (some (.int (oI (ix c)))) σ := by
  intro Q hQ
  show av_Ev l RJ1 cJ1_indexOfChar_4cfef 6 (some .int) av_E0 0 0 [(0, .ref 88), (1, .int (nI c)), (2, .int (nI 0)), (3, .int (nI 6))] [] σ Q
  refine ev_iload_n dJ1_indexOfChar_4cfef_0 rfl 1 rfl ?_
  refine ev_i2b dJ1_indexOfChar_4cfef_1 ?_
  refine ev_istore (lv' := [(4, .int ((nI c).toInt8.toInt32)), (0, .ref 88), (1, .int (nI c)), (2, .int (nI 0)), (3, .int (nI 6))]) dJ1_indexOfChar_4cfef_2 (by decide) rfl ?_
  refine ev_iload_n dJ1_indexOfChar_4cfef_4 rfl 3 rfl ?_
  refine ev_istore (lv' := [(5, .int (nI 0)), (4, .int ((nI c).toInt8.toInt32)), (0, .ref 88), (1, .int (nI c)), (2, .int (nI 0)), (3, .int (nI 6))]) dJ1_indexOfChar_4cfef_5 (by decide) rfl ?_
  refine ev_lv (lv' := [(0, .ref 88), (1, .int (nI c)), (2, .int (nI 0)), (3, .int (nI 6)), (4, .int ((nI c).toInt8.toInt32)), (5, .int (nI 0))]) [2, 3, 4, 5, 1, 0] rfl ?_
  refine loop_up (fun k => fnd (6 - k) k (fun i => decide (mb i = (nI c).toInt8.toInt32)) = ix c → av_Ev l RJ1 cJ1_indexOfChar_4cfef 6 (some .int) av_E0 0 7 [(0, .ref 88), (1, .int (nI c)), (2, .int (nI 0)), (3, .int (nI 6)), (4, .int ((nI c).toInt8.toInt32)), (5, .int (nI k))] [] σ Q) 6 ?_ ?_ (rfl)
  · intro hR
    refine ev_iload dJ1_indexOfChar_4cfef_7 5 rfl ?_
    refine ev_iload_n dJ1_indexOfChar_4cfef_9 rfl 3 rfl ?_
    refine ev_ncmp_ge (tgt := 31) dJ1_indexOfChar_4cfef_10 (by decide) (by omega) (by omega) (fun h10 => ?_) (fun h10 => ?_)
    · refine ev_iconst dJ1_indexOfChar_4cfef_31 (v := (-1)) (by decide) ?_
      exact ev_ireturn dJ1_indexOfChar_4cfef_32 rfl rfl (leafI hQ (by first | (rw [← hR, fnd_go hk]; simp [h10]; rfl) | (rw [← hR]; rfl)) rfl)
    · exact absurd h10 (by omega)
  · intro k hk ihk hR
    refine ev_iload dJ1_indexOfChar_4cfef_7 5 rfl ?_
    refine ev_iload_n dJ1_indexOfChar_4cfef_9 rfl 3 rfl ?_
    refine ev_ncmp_ge (tgt := 31) dJ1_indexOfChar_4cfef_10 (by decide) (by omega) (by omega) (fun h10 => ?_) (fun h10 => ?_)
    · exact absurd h10 (by omega)
    · refine ev_aload_n dJ1_indexOfChar_4cfef_13 rfl 0 rfl ?_
      refine ev_iload dJ1_indexOfChar_4cfef_14 5 rfl ?_
      refine ev_strbyte dJ1_indexOfChar_4cfef_16 (by omega) ?_
      refine ev_iload dJ1_indexOfChar_4cfef_17 4 rfl ?_
      refine ev_icmp_ne (tgt := 25) dJ1_indexOfChar_4cfef_19 (by decide) (fun h19 => ?_) (fun h19 => ?_)
      · refine ev_iinc (lv' := [(5, .int (nI (k + 1))), (0, .ref 88), (1, .int (nI c)), (2, .int (nI 0)), (3, .int (nI 6)), (4, .int ((nI c).toInt8.toInt32))]) dJ1_indexOfChar_4cfef_25 5 rfl (nI_inc k) (by decide) rfl ?_
        refine ev_goto (tgt := 7) dJ1_indexOfChar_4cfef_28 (by decide) ?_
        refine ev_lv (lv' := [(0, .ref 88), (1, .int (nI c)), (2, .int (nI 0)), (3, .int (nI 6)), (4, .int ((nI c).toInt8.toInt32)), (5, .int (nI (k + 1)))]) [1, 2, 3, 4, 5, 0] rfl ?_
        have ih9 := ihk (by rw [← hR, fnd_go hk]; simp [h10, h19])
        exact ih9
      · refine ev_iload dJ1_indexOfChar_4cfef_22 5 rfl ?_
        exact ev_ireturn dJ1_indexOfChar_4cfef_24 rfl rfl (leafI hQ (by first | (rw [← hR, fnd_go hk]; simp [h10, h19]; rfl) | (rw [← hR]; rfl)) rfl)

set_option maxRecDepth 100000 in
set_option maxHeartbeats 1000000 in
theorem c_J1_indexOf_4cfef {l : Launch} {σ : av_S} (c : Nat) (hc : c < 256) : av_M l RJ1 cJ1_indexOf_4cfef 4 (some .int) 1 [.ref 88, .int (nI c), .int (nI 0), .int (nI 6)] σ (some (.int (oI (ix c)))) σ := by
  intro Q hQ
  show av_Ev l RJ1 cJ1_indexOf_4cfef 4 (some .int) av_E0 1 0 [(0, .ref 88), (1, .int (nI c)), (2, .int (nI 0)), (3, .int (nI 6))] [] σ Q
  refine ev_iload_n dJ1_indexOf_4cfef_0 rfl 1 rfl ?_
  refine ev_callSi (x := b2i true) dJ1_indexOf_4cfef_1 (Or.inl M_J1_88) Y_J1_canEncode_9a6ad [.int (nI c)] (c_J1_canEncode_9a6ad c (by omega)) (by decide) (Nat.le_of_ble_eq_true rfl) rfl rfl (Nat.le_of_ble_eq_true rfl) ?_
  refine ev_ifb_ne (tgt := 9) dJ1_indexOf_4cfef_4 (by decide) (fun h4 => ?_) (fun h4 => ?_)
  · refine ev_iload_n dJ1_indexOf_4cfef_9 rfl 2 rfl ?_
    refine ev_iconst dJ1_indexOf_4cfef_10 (v := nI 0) (by decide) ?_
    refine ev_max (v := nI 0) dJ1_indexOf_4cfef_11 M_J1_92 (by decide) (Nat.le_of_ble_eq_true rfl) rfl ?_
    refine ev_istore_n (lv' := [(2, .int (nI 0)), (0, .ref 88), (1, .int (nI c)), (3, .int (nI 6))]) dJ1_indexOf_4cfef_14 rfl (by decide) rfl ?_
    refine ev_iload_n dJ1_indexOf_4cfef_15 rfl 3 rfl ?_
    refine ev_aload_n dJ1_indexOf_4cfef_16 rfl 1 rfl ?_
    refine ev_strlen dJ1_indexOf_4cfef_17 ?_
    refine ev_min (v := nI 6) dJ1_indexOf_4cfef_18 M_J1_38 (by decide) (Nat.le_of_ble_eq_true rfl) rfl ?_
    refine ev_istore_n (lv' := [(3, .int (nI 6)), (2, .int (nI 0)), (0, .ref 88), (1, .int (nI c))]) dJ1_indexOf_4cfef_21 rfl (by decide) rfl ?_
    refine ev_iload_n dJ1_indexOf_4cfef_22 rfl 1 rfl ?_
    refine ev_iload_n dJ1_indexOf_4cfef_23 rfl 0 rfl ?_
    refine ev_ncmp_lt (tgt := 29) dJ1_indexOf_4cfef_24 (by decide) (by omega) (by omega) (fun h24 => ?_) (fun h24 => ?_)
    · refine ev_aload_n dJ1_indexOf_4cfef_29 rfl 2 rfl ?_
      refine ev_iload_n dJ1_indexOf_4cfef_30 rfl 3 rfl ?_
      refine ev_iload_n dJ1_indexOf_4cfef_31 rfl 1 rfl ?_
      refine ev_iload_n dJ1_indexOf_4cfef_32 rfl 0 rfl ?_
      refine ev_callSi (x := oI (ix c)) dJ1_indexOf_4cfef_33 (Or.inl M_J1_95) Y_J1_indexOfChar_4cfef [.ref 88, .int (nI c), .int (nI 0), .int (nI 6)] (c_J1_indexOfChar_4cfef c ) (by decide) (Nat.le_of_ble_eq_true rfl) rfl rfl (Nat.le_of_ble_eq_true rfl) ?_
      rcases ho33 : ix c with _ | u33
      · refine ev_top (v := (-1)) rfl ?_
        exact ev_ireturn dJ1_indexOf_4cfef_36 rfl rfl (leafI hQ (by simp [h4, h24, ho33, oI]) rfl)
      · have hu33 : u33 < 6 := ix_lt ho33
        refine ev_top (v := nI u33) rfl ?_
        exact ev_ireturn dJ1_indexOf_4cfef_36 rfl rfl (leafI hQ (by simp [h4, h24, ho33, oI]) rfl)
    · exact absurd h24 (by omega)
  · exact absurd h4 (by decide)

set_option maxRecDepth 100000 in
set_option maxHeartbeats 1000000 in
theorem c_J0_isLatin1_aae02 {l : Launch} {σ : av_S}   : av_M l RJ0 cJ0_isLatin1_aae02 1 (some .boolean) 0 [.ref 87] σ (some (.int (b2i true))) σ := by
  intro Q hQ
  show av_Ev l RJ0 cJ0_isLatin1_aae02 1 (some .boolean) av_E0 0 0 [(0, .ref 87)] [] σ Q
  refine ev_compact dJ0_isLatin1_aae02_0 ?_
  refine ev_nif_eq (tgt := 17) dJ0_isLatin1_aae02_3 (by decide) (by omega) (fun h3 => ?_) (fun h3 => ?_)
  · exact absurd h3 (by omega)
  · refine ev_aload_n dJ0_isLatin1_aae02_6 rfl 0 rfl ?_
    refine ev_strcod dJ0_isLatin1_aae02_7 ?_
    refine ev_nif_ne (tgt := 17) dJ0_isLatin1_aae02_10 (by decide) (by omega) (fun h10 => ?_) (fun h10 => ?_)
    · exact absurd h10 (by omega)
    · refine ev_iconst dJ0_isLatin1_aae02_13 (v := nI 1) (by decide) ?_
      refine ev_goto (tgt := 18) dJ0_isLatin1_aae02_14 (by decide) ?_
      exact ev_ireturn dJ0_isLatin1_aae02_18 rfl (by decide) (leafI hQ (by first | rfl | (simp [h3, h10]; done)) rfl)

set_option maxRecDepth 100000 in
set_option maxHeartbeats 1000000 in
theorem c_J0_coder_7d493 {l : Launch} {σ : av_S}   : av_M l RJ0 cJ0_coder_7d493 1 (some .byte) 0 [.ref 87] σ (some (.int (nI 0))) σ := by
  intro Q hQ
  show av_Ev l RJ0 cJ0_coder_7d493 1 (some .byte) av_E0 0 0 [(0, .ref 87)] [] σ Q
  refine ev_compact dJ0_coder_7d493_0 ?_
  refine ev_nif_eq (tgt := 13) dJ0_coder_7d493_3 (by decide) (by omega) (fun h3 => ?_) (fun h3 => ?_)
  · exact absurd h3 (by omega)
  · refine ev_aload_n dJ0_coder_7d493_6 rfl 0 rfl ?_
    refine ev_strcod dJ0_coder_7d493_7 ?_
    refine ev_goto (tgt := 14) dJ0_coder_7d493_10 (by decide) ?_
    exact ev_ireturn dJ0_coder_7d493_14 rfl rfl (leafI hQ rfl rfl)

set_option maxRecDepth 100000 in
set_option maxHeartbeats 1000000 in
theorem c_J0_length_8abf5 {l : Launch} {σ : av_S}   : av_M l RJ0 cJ0_length_8abf5 1 (some .int) 1 [.ref 87] σ (some (.int (nI 6))) σ := by
  intro Q hQ
  show av_Ev l RJ0 cJ0_length_8abf5 1 (some .int) av_E0 1 0 [(0, .ref 87)] [] σ Q
  refine ev_aload_n dJ0_length_8abf5_0 rfl 0 rfl ?_
  refine ev_strval dJ0_length_8abf5_1 ?_
  refine ev_strlen dJ0_length_8abf5_4 ?_
  refine ev_aload_n dJ0_length_8abf5_5 rfl 0 rfl ?_
  refine ev_callT (x := nI 0) dJ0_length_8abf5_6 M_J0_335 Y_J0_coder_7d493 rfl [] (c_J0_coder_7d493  ) (by decide) (Nat.le_of_ble_eq_true rfl) rfl rfl (Nat.le_of_ble_eq_true rfl) ?_
  refine ev_ishr dJ0_length_8abf5_9 ?_
  exact ev_ireturn dJ0_length_8abf5_10 rfl rfl (leafI hQ (by decide) rfl)

set_option maxRecDepth 100000 in
set_option maxHeartbeats 1000000 in
theorem c_J0_indexOf_7cf53 {l : Launch} {σ : av_S} (c : Nat) (hc : c < 256) : av_M l RJ0 cJ0_indexOf_7cf53 3 (some .int) 2 [.ref 87, .int (nI c), .int (nI 0)] σ (some (.int (oI (ix c)))) σ := by
  intro Q hQ
  show av_Ev l RJ0 cJ0_indexOf_7cf53 3 (some .int) av_E0 2 0 [(0, .ref 87), (1, .int (nI c)), (2, .int (nI 0))] [] σ Q
  refine ev_aload_n dJ0_indexOf_7cf53_0 rfl 0 rfl ?_
  refine ev_callT (x := b2i true) dJ0_indexOf_7cf53_1 M_J0_492 Y_J0_isLatin1_aae02 rfl [] (c_J0_isLatin1_aae02  ) (by decide) (Nat.le_of_ble_eq_true rfl) rfl rfl (Nat.le_of_ble_eq_true rfl) ?_
  refine ev_ifb_eq (tgt := 23) dJ0_indexOf_7cf53_4 (by decide) (fun h4 => ?_) (fun h4 => ?_)
  · exact absurd h4 (by decide)
  · refine ev_aload_n dJ0_indexOf_7cf53_7 rfl 0 rfl ?_
    refine ev_strval dJ0_indexOf_7cf53_8 ?_
    refine ev_iload_n dJ0_indexOf_7cf53_11 rfl 1 rfl ?_
    refine ev_iload_n dJ0_indexOf_7cf53_12 rfl 2 rfl ?_
    refine ev_aload_n dJ0_indexOf_7cf53_13 rfl 0 rfl ?_
    refine ev_callT (x := nI 6) dJ0_indexOf_7cf53_14 M_J0_505 Y_J0_length_8abf5 rfl [] (c_J0_length_8abf5  ) (by decide) (Nat.le_of_ble_eq_true rfl) rfl rfl (Nat.le_of_ble_eq_true rfl) ?_
    refine ev_callSi (x := oI (ix c)) dJ0_indexOf_7cf53_17 (Or.inl M_J0_637) Y_J1_indexOf_4cfef [.ref 88, .int (nI c), .int (nI 0), .int (nI 6)] (c_J1_indexOf_4cfef c (by omega)) (by decide) (Nat.le_of_ble_eq_true rfl) rfl rfl (Nat.le_of_ble_eq_true rfl) ?_
    rcases ho17 : ix c with _ | u17
    · refine ev_top (v := (-1)) rfl ?_
      refine ev_goto (tgt := 36) dJ0_indexOf_7cf53_20 (by decide) ?_
      exact ev_ireturn dJ0_indexOf_7cf53_36 rfl rfl (leafI hQ (by simp [h4, ho17, oI]) rfl)
    · have hu17 : u17 < 6 := ix_lt ho17
      refine ev_top (v := nI u17) rfl ?_
      refine ev_goto (tgt := 36) dJ0_indexOf_7cf53_20 (by decide) ?_
      exact ev_ireturn dJ0_indexOf_7cf53_36 rfl rfl (leafI hQ (by simp [h4, ho17, oI]) rfl)

set_option maxRecDepth 100000 in
set_option maxHeartbeats 1000000 in
theorem c_J0_indexOf_0f7a4 {l : Launch} {σ : av_S} (c : Nat) (hc : c < 256) : av_M l RJ0 cJ0_indexOf_0f7a4 2 (some .int) 3 [.ref 87, .int (nI c)] σ (some (.int (oI (ix c)))) σ := by
  intro Q hQ
  show av_Ev l RJ0 cJ0_indexOf_0f7a4 2 (some .int) av_E0 3 0 [(0, .ref 87), (1, .int (nI c))] [] σ Q
  refine ev_aload_n dJ0_indexOf_0f7a4_0 rfl 0 rfl ?_
  refine ev_iload_n dJ0_indexOf_0f7a4_1 rfl 1 rfl ?_
  refine ev_iconst dJ0_indexOf_0f7a4_2 (v := nI 0) (by decide) ?_
  refine ev_callT (x := oI (ix c)) dJ0_indexOf_0f7a4_3 M_J0_633 Y_J0_indexOf_7cf53 rfl [.int (nI c), .int (nI 0)] (c_J0_indexOf_7cf53 c (by omega)) (by decide) (Nat.le_of_ble_eq_true rfl) rfl rfl (Nat.le_of_ble_eq_true rfl) ?_
  rcases ho3 : ix c with _ | u3
  · refine ev_top (v := (-1)) rfl ?_
    exact ev_ireturn dJ0_indexOf_0f7a4_6 rfl rfl (leafI hQ (by simp [ho3, oI]) rfl)
  · have hu3 : u3 < 6 := ix_lt ho3
    refine ev_top (v := nI u3) rfl ?_
    exact ev_ireturn dJ0_indexOf_0f7a4_6 rfl rfl (leafI hQ (by simp [ho3, oI]) rfl)

set_option maxRecDepth 100000 in
set_option maxHeartbeats 1000000 in
theorem c_X2_isSign {l : Launch} {σ : av_S} (c : Nat) (hc : c < 256) : av_M l RX2 cX2_isSign 1 (some .boolean) 0 [.int (nI c)] σ (some (.int (b2i (sg c)))) σ := by
  intro Q hQ
  show av_Ev l RX2 cX2_isSign 1 (some .boolean) av_E0 0 0 [(0, .int (nI c))] [] σ Q
  refine ev_iload_n dX2_isSign_0 rfl 0 rfl ?_
  refine ev_bipush dX2_isSign_1 (v := nI 43) (by decide) ?_
  refine ev_ncmp_eq (tgt := 12) dX2_isSign_3 (by decide) (by omega) (by omega) (fun h3 => ?_) (fun h3 => ?_)
  · refine ev_iconst dX2_isSign_12 (v := nI 1) (by decide) ?_
    refine ev_goto (tgt := 17) dX2_isSign_13 (by decide) ?_
    exact ev_ireturn dX2_isSign_17 rfl (by decide) (leafI hQ (by simp [b2i, sg, h3]) rfl)
  · refine ev_iload_n dX2_isSign_6 rfl 0 rfl ?_
    refine ev_bipush dX2_isSign_7 (v := nI 45) (by decide) ?_
    refine ev_ncmp_ne (tgt := 16) dX2_isSign_9 (by decide) (by omega) (by omega) (fun h9 => ?_) (fun h9 => ?_)
    · refine ev_iconst dX2_isSign_16 (v := nI 0) (by decide) ?_
      exact ev_ireturn dX2_isSign_17 rfl (by decide) (leafI hQ (by simp [b2i, sg, h3, h9]) rfl)
    · refine ev_iconst dX2_isSign_12 (v := nI 1) (by decide) ?_
      refine ev_goto (tgt := 17) dX2_isSign_13 (by decide) ?_
      exact ev_ireturn dX2_isSign_17 rfl (by decide) (leafI hQ (by simp [b2i, sg, h3, h9]) rfl)

set_option maxRecDepth 100000 in
set_option maxHeartbeats 1000000 in
theorem c_X2_isDigit {l : Launch} {σ : av_S} (c : Nat) (hc : c < 256) : av_M l RX2 cX2_isDigit 1 (some .boolean) 0 [.int (nI c)] σ (some (.int (b2i (dg c)))) σ := by
  intro Q hQ
  show av_Ev l RX2 cX2_isDigit 1 (some .boolean) av_E0 0 0 [(0, .int (nI c))] [] σ Q
  refine ev_iload_n dX2_isDigit_0 rfl 0 rfl ?_
  refine ev_bipush dX2_isDigit_1 (v := nI 48) (by decide) ?_
  refine ev_ncmp_lt (tgt := 16) dX2_isDigit_3 (by decide) (by omega) (by omega) (fun h3 => ?_) (fun h3 => ?_)
  · refine ev_iconst dX2_isDigit_16 (v := nI 0) (by decide) ?_
    exact ev_ireturn dX2_isDigit_17 rfl (by decide) (leafI hQ (by first | (rw [show dg c = true from decide_eq_true ⟨by omega, by omega⟩]; rfl) | (rw [show dg c = false from decide_eq_false (by omega)]; rfl)) rfl)
  · refine ev_iload_n dX2_isDigit_6 rfl 0 rfl ?_
    refine ev_bipush dX2_isDigit_7 (v := nI 57) (by decide) ?_
    refine ev_ncmp_gt (tgt := 16) dX2_isDigit_9 (by decide) (by omega) (by omega) (fun h9 => ?_) (fun h9 => ?_)
    · refine ev_iconst dX2_isDigit_16 (v := nI 0) (by decide) ?_
      exact ev_ireturn dX2_isDigit_17 rfl (by decide) (leafI hQ (by first | (rw [show dg c = true from decide_eq_true ⟨by omega, by omega⟩]; rfl) | (rw [show dg c = false from decide_eq_false (by omega)]; rfl)) rfl)
    · refine ev_iconst dX2_isDigit_12 (v := nI 1) (by decide) ?_
      refine ev_goto (tgt := 17) dX2_isDigit_13 (by decide) ?_
      exact ev_ireturn dX2_isDigit_17 rfl (by decide) (leafI hQ (by first | (rw [show dg c = true from decide_eq_true ⟨by omega, by omega⟩]; rfl) | (rw [show dg c = false from decide_eq_false (by omega)]; rfl)) rfl)

set_option maxRecDepth 100000 in
set_option maxHeartbeats 1000000 in
theorem c_X2_isFull {l : Launch} {σ : av_S} (n : Nat) (hn : σ 66 1 = nI n) (hn4 : n ≤ 40) : av_M l RX2 cX2_isFull 1 (some .boolean) 0 [.ref 66] σ (some (.int (b2i (decide (40 ≤ n))))) σ := by
  intro Q hQ
  show av_Ev l RX2 cX2_isFull 1 (some .boolean) av_E0 0 0 [(0, .ref 66)] [] σ Q
  refine ev_aload_n dX2_isFull_0 rfl 0 rfl ?_
  refine ev_getI dX2_isFull_1 C_X2 L_X2_15 (by decide) (by decide) sh_66 rfl ?_
  refine ev_top (v := nI n) hn ?_
  refine ev_bipush dX2_isFull_4 (v := nI 40) (by decide) ?_
  refine ev_ncmp_lt (tgt := 13) dX2_isFull_6 (by decide) (by omega) (by omega) (fun h6 => ?_) (fun h6 => ?_)
  · refine ev_iconst dX2_isFull_13 (v := nI 0) (by decide) ?_
    exact ev_ireturn dX2_isFull_14 rfl (by decide) (leafI hQ (by first | (rw [show decide (40 ≤ n) = true from decide_eq_true (by omega)]; rfl) | (rw [show decide (40 ≤ n) = false from decide_eq_false (by omega)]; rfl)) rfl)
  · refine ev_iconst dX2_isFull_9 (v := nI 1) (by decide) ?_
    refine ev_goto (tgt := 14) dX2_isFull_10 (by decide) ?_
    exact ev_ireturn dX2_isFull_14 rfl (by decide) (leafI hQ (by first | (rw [show decide (40 ≤ n) = true from decide_eq_true (by omega)]; rfl) | (rw [show decide (40 ≤ n) = false from decide_eq_false (by omega)]; rfl)) rfl)

set_option maxRecDepth 100000 in
set_option maxHeartbeats 1000000 in
theorem c_X2_add {l : Launch} {σ : av_S} (x : Int32) (n : Nat) (hx : vp_nar .char x = x) (hn : σ 66 1 = nI n) (hn4 : n < 40) : av_M l RX2 cX2_add 2 none 1 [.ref 66, .int x] σ none (av_set (av_set σ 66 (upd (σ 66) 1 (nI (n + 1)))) 67 (upd (σ 67) n x)) := by
  intro Q hQ
  show av_Ev l RX2 cX2_add 2 none av_E0 1 0 [(0, .ref 66), (1, .int x)] [] σ Q
  refine ev_aload_n dX2_add_0 rfl 0 rfl ?_
  refine ev_callVi (x := b2i (decide (40 ≤ n))) dX2_add_1 M_X2_19 Y_X2_isFull [] (c_X2_isFull n hn (by first | exact hn4 | omega)) (by decide) (Nat.le_of_ble_eq_true rfl) (by decide) sh_66 rfl rfl rfl (Nat.le_of_ble_eq_true rfl) ?_
  refine ev_ifb_ne (tgt := 27) dX2_add_4 (by decide) (fun h4 => ?_) (fun h4 => ?_)
  · exact absurd h4 (by simp; omega)
  · refine ev_aload_n dX2_add_7 rfl 0 rfl ?_
    refine ev_getR dX2_add_8 C_X2 L_X2_9 (by decide) (by decide) sh_66 rfl ?_
    refine ev_aload_n dX2_add_11 rfl 0 rfl ?_
    refine ev_getI dX2_add_12 C_X2 L_X2_15 (by decide) (by decide) sh_66 rfl ?_
    refine ev_top (v := nI n) hn ?_
    refine ev_iload_n dX2_add_15 rfl 1 rfl ?_
    refine ev_cast (e := n) dX2_add_16 (by decide) sh_67 (by omega) (by decide) hx ?_
    refine ev_aload_n dX2_add_17 rfl 0 rfl ?_
    refine ev_dup_a dX2_add_18 ?_
    refine ev_getI dX2_add_19 C_X2 L_X2_15 (by decide) (by decide) sh_66 rfl ?_
    refine ev_top (v := σ 66 1) (by first | rfl | (simp only [av_set, cpS]; (repeat' split) <;> first | rfl | (exfalso; omega))) ?_
    refine ev_top (v := nI n) hn ?_
    refine ev_iconst dX2_add_22 (v := nI 1) (by decide) ?_
    refine ev_iadd dX2_add_23 ?_
    refine ev_top (v := nI (n + 1)) (nI_add _ _) ?_
    refine ev_putI dX2_add_24 C_X2 L_X2_15 (by decide) (by decide) sh_66 rfl rfl rfl ?_
    refine ev_st (σ' := av_set (av_set σ 66 (upd (σ 66) 1 (nI (n + 1)))) 67 (upd (σ 67) n x)) (by first | rfl | (funext a; by_cases q66 : a = 66; (next => subst q66; rfl); by_cases q67 : a = 67; (next => subst q67; rfl); simp only [av_set, q66, q67, if_false]) | exact av_set_set _ _ _ _ | (funext a; unfold av_set; (repeat' split) <;> first | rfl | (exfalso; omega)) | (funext a; simp only [av_set, cpS]; (repeat' split) <;> first | rfl | (exfalso; omega))) ?_
    exact ev_return dX2_add_27 rfl (leafV hQ rfl)

set_option maxRecDepth 100000 in
set_option maxHeartbeats 1000000 in
theorem c_X2_empty {l : Launch} {σ : av_S}   : av_M l RX2 cX2_empty 1 none 0 [.ref 66] σ none (av_set σ 66 (upd (σ 66) 1 (nI 0))) := by
  intro Q hQ
  show av_Ev l RX2 cX2_empty 1 none av_E0 0 0 [(0, .ref 66)] [] σ Q
  refine ev_aload_n dX2_empty_0 rfl 0 rfl ?_
  refine ev_iconst dX2_empty_1 (v := nI 0) (by decide) ?_
  refine ev_putI dX2_empty_2 C_X2 L_X2_15 (by decide) (by decide) sh_66 rfl rfl rfl ?_
  exact ev_return dX2_empty_5 rfl (leafV hQ rfl)

set_option maxRecDepth 100000 in
set_option maxHeartbeats 1000000 in
theorem c_X2_placeAfter {l : Launch} {σ : av_S} (p : Nat) (c : Nat) (M : Int32) (hp : p ≤ 4) (hc : c < 256) : av_M l RX2 cX2_placeAfter 4 (some .int) 4 [.int (nI p), .int (nI c), .int M] σ (some (.int (nI (pa p c M)))) σ := by
  intro Q hQ
  show av_Ev l RX2 cX2_placeAfter 4 (some .int) av_E0 4 0 [(0, .int (nI p)), (1, .int (nI c)), (2, .int M)] [] σ Q
  refine ev_iload_n dX2_placeAfter_0 rfl 0 rfl ?_
  refine ev_iconst dX2_placeAfter_1 (v := nI 4) (by decide) ?_
  refine ev_ncmp_ne (tgt := 39) dX2_placeAfter_2 (by decide) (by omega) (by omega) (fun h2 => ?_) (fun h2 => ?_)
  · refine ev_iload_n dX2_placeAfter_39 rfl 1 rfl ?_
    refine ev_callSi (x := b2i (sg c)) dX2_placeAfter_40 (Or.inl M_X2_35) Y_X2_isSign [.int (nI c)] (c_X2_isSign c (by omega)) (by decide) (Nat.le_of_ble_eq_true rfl) rfl rfl (Nat.le_of_ble_eq_true rfl) ?_
    refine ev_ifb_eq (tgt := 57) dX2_placeAfter_43 (by decide) (fun h43 => ?_) (fun h43 => ?_)
    · refine ev_iload_n dX2_placeAfter_57 rfl 0 rfl ?_
      refine ev_iconst dX2_placeAfter_58 (v := nI 1) (by decide) ?_
      refine ev_ncmp_ne (tgt := 64) dX2_placeAfter_59 (by decide) (by omega) (by omega) (fun h59 => ?_) (fun h59 => ?_)
      · refine ev_iload_n dX2_placeAfter_64 rfl 1 rfl ?_
        refine ev_bipush dX2_placeAfter_65 (v := nI 111) (by decide) ?_
        refine ev_ncmp_ne (tgt := 72) dX2_placeAfter_67 (by decide) (by omega) (by omega) (fun h67 => ?_) (fun h67 => ?_)
        · refine ev_ldcS dX2_placeAfter_72 ?_
          refine ev_iload_n dX2_placeAfter_74 rfl 1 rfl ?_
          refine ev_callT (x := oI (ix c)) dX2_placeAfter_75 M_X2_40 Y_J0_indexOf_0f7a4 rfl [.int (nI c)] (c_J0_indexOf_0f7a4 c (by omega)) (by decide) (Nat.le_of_ble_eq_true rfl) rfl rfl (Nat.le_of_ble_eq_true rfl) ?_
          rcases ho75 : ix c with _ | u75
          · refine ev_top (v := (-1)) rfl ?_
            refine ev_if_lt (tgt := 85) dX2_placeAfter_78 (by decide) (fun h78 => ?_) (fun h78 => ?_)
            · refine ev_iconst dX2_placeAfter_85 (v := nI 0) (by decide) ?_
              exact ev_ireturn dX2_placeAfter_86 rfl rfl (leafI hQ (by simp [pa, h2, h43, h59, h67, ho75, h78]) rfl)
            · exact absurd (by decide) h78
          · have hu75 : u75 < 6 := ix_lt ho75
            refine ev_top (v := nI u75) rfl ?_
            refine ev_nif_lt (tgt := 85) dX2_placeAfter_78 (by decide) (by omega) ?_
            refine ev_iconst dX2_placeAfter_81 (v := nI 3) (by decide) ?_
            refine ev_goto (tgt := 86) dX2_placeAfter_82 (by decide) ?_
            exact ev_ireturn dX2_placeAfter_86 rfl rfl (leafI hQ (by simp [pa, h2, h43, h59, h67, ho75]) rfl)
        · refine ev_iconst dX2_placeAfter_70 (v := nI 4) (by decide) ?_
          exact ev_ireturn dX2_placeAfter_71 rfl rfl (leafI hQ (by unfold pa; rw [if_neg h2, h43, cond_false, if_neg h59, if_pos h67]) rfl)
      · refine ev_iconst dX2_placeAfter_62 (v := nI 0) (by decide) ?_
        exact ev_ireturn dX2_placeAfter_63 rfl rfl (leafI hQ (by simp [pa, h2, h43, h59]) rfl)
    · refine ev_iload_n dX2_placeAfter_46 rfl 0 rfl ?_
      refine ev_iconst dX2_placeAfter_47 (v := nI 2) (by decide) ?_
      refine ev_ncmp_ne (tgt := 55) dX2_placeAfter_48 (by decide) (by omega) (by omega) (fun h48 => ?_) (fun h48 => ?_)
      · refine ev_iconst dX2_placeAfter_55 (v := nI 2) (by decide) ?_
        exact ev_ireturn dX2_placeAfter_56 rfl rfl (leafI hQ (by simp [pa, h2, h43, h48]) rfl)
      · refine ev_iconst dX2_placeAfter_51 (v := nI 0) (by decide) ?_
        refine ev_goto (tgt := 56) dX2_placeAfter_52 (by decide) ?_
        exact ev_ireturn dX2_placeAfter_56 rfl rfl (leafI hQ (by simp [pa, h2, h43, h48]) rfl)
  · refine ev_iload_n dX2_placeAfter_5 rfl 1 rfl ?_
    refine ev_callSi (x := b2i (dg c)) dX2_placeAfter_6 (Or.inl M_X2_27) Y_X2_isDigit [.int (nI c)] (c_X2_isDigit c (by omega)) (by decide) (Nat.le_of_ble_eq_true rfl) rfl rfl (Nat.le_of_ble_eq_true rfl) ?_
    refine ev_ifb_eq (tgt := 27) dX2_placeAfter_9 (by decide) (fun h9 => ?_) (fun h9 => ?_)
    · refine ev_iconst dX2_placeAfter_27 (v := nI 0) (by decide) ?_
      refine ev_istore_n (lv' := [(3, .int (nI 0)), (0, .int (nI p)), (1, .int (nI c)), (2, .int M)]) dX2_placeAfter_28 rfl (by decide) rfl ?_
      refine ev_iload_n dX2_placeAfter_29 rfl 0 rfl ?_
      refine ev_nif_eq (tgt := 37) dX2_placeAfter_30 (by decide) (by omega) (fun h30 => ?_) (fun h30 => ?_)
      · refine ev_iconst dX2_placeAfter_37 (v := nI 0) (by decide) ?_
        exact ev_ireturn dX2_placeAfter_38 rfl rfl (leafI hQ (by simp [pa, h2, h9, h30]) rfl)
      · exact absurd h30 (by omega)
    · have hd9 := dg_ge h9
      refine ev_iload_n dX2_placeAfter_12 rfl 2 rfl ?_
      refine ev_iload_n dX2_placeAfter_13 rfl 1 rfl ?_
      refine ev_bipush dX2_placeAfter_14 (v := nI 48) (by decide) ?_
      refine ev_isub dX2_placeAfter_16 ?_
      refine ev_top (v := nI (c - 48)) (pk_sub (by omega)) ?_
      refine ev_callSi (x := b2i (tb M (c - 48))) dX2_placeAfter_17 (Or.inr M_X2_31) Y_X5_hasBit [.int M, .int (nI (c - 48))] (c_X5_hasBit M (c - 48) (by omega)) (by decide) (Nat.le_of_ble_eq_true rfl) rfl rfl (Nat.le_of_ble_eq_true rfl) ?_
      refine ev_ifb_eq (tgt := 27) dX2_placeAfter_20 (by decide) (fun h20 => ?_) (fun h20 => ?_)
      · refine ev_iconst dX2_placeAfter_27 (v := nI 0) (by decide) ?_
        refine ev_istore_n (lv' := [(3, .int (nI 0)), (0, .int (nI p)), (1, .int (nI c)), (2, .int M)]) dX2_placeAfter_28 rfl (by decide) rfl ?_
        refine ev_iload_n dX2_placeAfter_29 rfl 0 rfl ?_
        refine ev_nif_eq (tgt := 37) dX2_placeAfter_30 (by decide) (by omega) (fun h30 => ?_) (fun h30 => ?_)
        · refine ev_iconst dX2_placeAfter_37 (v := nI 0) (by decide) ?_
          exact ev_ireturn dX2_placeAfter_38 rfl rfl (leafI hQ (by simp [pa, h2, h9, h20, h30]) rfl)
        · exact absurd h30 (by omega)
      · refine ev_iconst dX2_placeAfter_23 (v := nI 1) (by decide) ?_
        refine ev_goto (tgt := 28) dX2_placeAfter_24 (by decide) ?_
        refine ev_istore_n (lv' := [(3, .int (nI 1)), (0, .int (nI p)), (1, .int (nI c)), (2, .int M)]) dX2_placeAfter_28 rfl (by decide) rfl ?_
        refine ev_iload_n dX2_placeAfter_29 rfl 0 rfl ?_
        refine ev_nif_eq (tgt := 37) dX2_placeAfter_30 (by decide) (by omega) (fun h30 => ?_) (fun h30 => ?_)
        · exact absurd h30 (by omega)
        · refine ev_iconst dX2_placeAfter_33 (v := nI 3) (by decide) ?_
          refine ev_goto (tgt := 38) dX2_placeAfter_34 (by decide) ?_
          exact ev_ireturn dX2_placeAfter_38 rfl rfl (leafI hQ (by simp [pa, h2, h9, h20, h30]) rfl)

set_option maxRecDepth 100000 in
set_option maxHeartbeats 1000000 in
theorem c_X2_errorOffset {l : Launch} {σ : av_S} (M : Int32) (t : Nat → Nat) (n : Nat) (hn : σ 66 1 = nI n) (hn4 : n ≤ 40) (ht : ∀ i, i < n → σ 67 i = nI (t i) ∧ t i < 256) : av_M l RX2 cX2_errorOffset 4 (some .int) 5 [.ref 66, .int M] σ (some (.int (oI (eo t n M)))) σ := by
  intro Q hQ
  show av_Ev l RX2 cX2_errorOffset 4 (some .int) av_E0 5 0 [(0, .ref 66), (1, .int M)] [] σ Q
  refine ev_iconst dX2_errorOffset_0 (v := nI 1) (by decide) ?_
  refine ev_istore_n (lv' := [(2, .int (nI 1)), (0, .ref 66), (1, .int M)]) dX2_errorOffset_1 rfl (by decide) rfl ?_
  refine ev_iconst dX2_errorOffset_2 (v := nI 0) (by decide) ?_
  refine ev_istore_n (lv' := [(3, .int (nI 0)), (2, .int (nI 1)), (0, .ref 66), (1, .int M)]) dX2_errorOffset_3 rfl (by decide) rfl ?_
  refine ev_lv (lv' := [(0, .ref 66), (1, .int M), (2, .int (nI 1)), (3, .int (nI 0))]) [2, 3, 1, 0] rfl ?_
  refine loop_up (fun k => fnd (n - k) k (fun i => decide (pl t M (i + 1) = 0)) = fnd n 0 (fun i => decide (pl t M (i + 1) = 0)) → av_Ev l RX2 cX2_errorOffset 4 (some .int) av_E0 5 4 [(0, .ref 66), (1, .int M), (2, .int (nI (pl t M k))), (3, .int (nI k))] [] σ Q) n ?_ ?_ (rfl)
  · intro hR
    refine ev_iload_n dX2_errorOffset_4 rfl 3 rfl ?_
    refine ev_aload_n dX2_errorOffset_5 rfl 0 rfl ?_
    refine ev_getI dX2_errorOffset_6 C_X2 L_X2_15 (by decide) (by decide) sh_66 rfl ?_
    refine ev_top (v := nI n) hn ?_
    refine ev_ncmp_ge (tgt := 36) dX2_errorOffset_9 (by decide) (by omega) (by omega) (fun h9 => ?_) (fun h9 => ?_)
    · have hp9 := pl_le t M n
      have e9 : fnd n 0 (fun i => decide (pl t M (i + 1) = 0)) = none := by rw [← hR, Nat.sub_self]; rfl
      refine ev_iload_n dX2_errorOffset_36 rfl 2 rfl ?_
      refine ev_iconst dX2_errorOffset_37 (v := nI 3) (by decide) ?_
      refine ev_ncmp_ne (tgt := 45) dX2_errorOffset_38 (by decide) (by omega) (by omega) (fun h38 => ?_) (fun h38 => ?_)
      · refine ev_aload_n dX2_errorOffset_45 rfl 0 rfl ?_
        refine ev_getI dX2_errorOffset_46 C_X2 L_X2_15 (by decide) (by decide) sh_66 rfl ?_
        refine ev_top (v := nI n) hn ?_
        exact ev_ireturn dX2_errorOffset_49 rfl rfl (leafI hQ (by simp [eo, e9, oI, h9, h38]) rfl)
      · refine ev_iconst dX2_errorOffset_41 (v := (-1)) (by decide) ?_
        refine ev_goto (tgt := 49) dX2_errorOffset_42 (by decide) ?_
        exact ev_ireturn dX2_errorOffset_49 rfl rfl (leafI hQ (by simp [eo, e9, oI, h9, h38]) rfl)
    · exact absurd h9 (by omega)
  · intro k hk ihk hR
    refine ev_iload_n dX2_errorOffset_4 rfl 3 rfl ?_
    refine ev_aload_n dX2_errorOffset_5 rfl 0 rfl ?_
    refine ev_getI dX2_errorOffset_6 C_X2 L_X2_15 (by decide) (by decide) sh_66 rfl ?_
    refine ev_top (v := nI n) hn ?_
    refine ev_ncmp_ge (tgt := 36) dX2_errorOffset_9 (by decide) (by omega) (by omega) (fun h9 => ?_) (fun h9 => ?_)
    · exact absurd h9 (by omega)
    · refine ev_iload_n dX2_errorOffset_12 rfl 2 rfl ?_
      refine ev_aload_n dX2_errorOffset_13 rfl 0 rfl ?_
      refine ev_getR dX2_errorOffset_14 C_X2 L_X2_9 (by decide) (by decide) sh_66 rfl ?_
      refine ev_iload_n dX2_errorOffset_17 rfl 3 rfl ?_
      refine ev_cald (e := k) (v := σ 67 k) dX2_errorOffset_18 (by decide) sh_67 (by omega) (by decide) rfl ?_
      refine ev_top (v := nI (t k)) (ht k (by omega)).1 ?_
      have ht9 := (ht k (by omega)).2
      have hp9 := pl_le t M k
      have hq9 := pl_le t M (k + 1)
      refine ev_iload_n dX2_errorOffset_19 rfl 1 rfl ?_
      refine ev_callSi (x := nI (pa (pl t M k) (t k) M)) dX2_errorOffset_20 (Or.inl M_X2_23) Y_X2_placeAfter [.int (nI (pl t M k)), .int (nI (t k)), .int M] (c_X2_placeAfter (pl t M k) (t k) M (by omega) (by omega)) (by decide) (Nat.le_of_ble_eq_true rfl) rfl rfl (Nat.le_of_ble_eq_true rfl) ?_
      refine ev_top (v := nI (pl t M (k + 1))) rfl ?_
      refine ev_istore_n (lv' := [(2, .int (nI (pl t M (k + 1)))), (0, .ref 66), (1, .int M), (3, .int (nI k))]) dX2_errorOffset_23 rfl (by decide) rfl ?_
      refine ev_iload_n dX2_errorOffset_24 rfl 0 rfl ?_
      refine ev_nif_ne (tgt := 30) dX2_errorOffset_25 (by decide) (by omega) (fun h25 => ?_) (fun h25 => ?_)
      · refine ev_iinc (lv' := [(3, .int (nI (k + 1))), (2, .int (nI (pl t M (k + 1)))), (0, .ref 66), (1, .int M)]) dX2_errorOffset_30 3 rfl (nI_inc k) (by decide) rfl ?_
        refine ev_goto (tgt := 4) dX2_errorOffset_33 (by decide) ?_
        refine ev_lv (lv' := [(0, .ref 66), (1, .int M), (2, .int (nI (pl t M (k + 1)))), (3, .int (nI (k + 1)))]) [2, 3, 1, 0] rfl ?_
        have ih9 := ihk (by rw [← hR, fnd_go hk]; simp [h9, h25])
        exact ih9
      · refine ev_iload_n dX2_errorOffset_28 rfl 3 rfl ?_
        exact ev_ireturn dX2_errorOffset_29 rfl rfl (leafI hQ (by rw [show eo t n M = some k by unfold eo; rw [← hR, fnd_go hk]; simp [h9, h25]]; rfl) rfl)

set_option maxRecDepth 100000 in
set_option maxHeartbeats 1000000 in
theorem c_X2_modesAfter {l : Launch} {σ : av_S} (m0 : Int32) (t : Nat → Nat) (n : Nat) (hn : σ 66 1 = nI n) (hn4 : n ≤ 40) (ht : ∀ i, i < n → σ 67 i = nI (t i) ∧ t i < 256) : av_M l RX2 cX2_modesAfter 7 (some .int) 4 [.ref 66, .int m0] σ (some (.int ((ma t n (m0, false)).1))) σ := by
  intro Q hQ
  show av_Ev l RX2 cX2_modesAfter 7 (some .int) av_E0 4 0 [(0, .ref 66), (1, .int m0)] [] σ Q
  refine ev_iload_n dX2_modesAfter_0 rfl 1 rfl ?_
  refine ev_istore_n (lv' := [(2, .int m0), (0, .ref 66), (1, .int m0)]) dX2_modesAfter_1 rfl (by decide) rfl ?_
  refine ev_iconst dX2_modesAfter_2 (v := nI 0) (by decide) ?_
  refine ev_istore_n (lv' := [(3, .int (nI 0)), (2, .int m0), (0, .ref 66), (1, .int m0)]) dX2_modesAfter_3 rfl (by decide) rfl ?_
  refine ev_iconst dX2_modesAfter_4 (v := nI 0) (by decide) ?_
  refine ev_istore (lv' := [(4, .int (nI 0)), (3, .int (nI 0)), (2, .int m0), (0, .ref 66), (1, .int m0)]) dX2_modesAfter_5 (by decide) rfl ?_
  refine ev_lv (lv' := [(0, .ref 66), (1, .int m0), (2, .int m0), (3, .int (nI 0)), (4, .int (nI 0))]) [3, 4, 2, 1, 0] rfl ?_
  refine loop_up (fun k => av_Ev l RX2 cX2_modesAfter 7 (some .int) av_E0 4 7 [(0, .ref 66), (1, .int m0), (2, .int ((ma t k (m0, false)).1)), (3, .int (b2i ((ma t k (m0, false)).2))), (4, .int (nI k))] [] σ Q) n ?_ ?_
  · show av_Ev l RX2 cX2_modesAfter 7 (some .int) av_E0 4 7 [(0, .ref 66), (1, .int m0), (2, .int ((ma t n (m0, false)).1)), (3, .int (b2i ((ma t n (m0, false)).2))), (4, .int (nI n))] [] σ Q
    refine ev_iload dX2_modesAfter_7 4 rfl ?_
    refine ev_aload_n dX2_modesAfter_9 rfl 0 rfl ?_
    refine ev_getI dX2_modesAfter_10 C_X2 L_X2_15 (by decide) (by decide) sh_66 rfl ?_
    refine ev_top (v := nI n) hn ?_
    refine ev_ncmp_ge (tgt := 77) dX2_modesAfter_13 (by decide) (by omega) (by omega) (fun h13 => ?_) (fun h13 => ?_)
    · refine ev_iload_n dX2_modesAfter_77 rfl 2 rfl ?_
      exact ev_ireturn dX2_modesAfter_78 rfl rfl (leafI hQ rfl rfl)
    · exact absurd h13 (by omega)
  · intro k hk ihk
    show av_Ev l RX2 cX2_modesAfter 7 (some .int) av_E0 4 7 [(0, .ref 66), (1, .int m0), (2, .int ((ma t k (m0, false)).1)), (3, .int (b2i ((ma t k (m0, false)).2))), (4, .int (nI k))] [] σ Q
    refine ev_iload dX2_modesAfter_7 4 rfl ?_
    refine ev_aload_n dX2_modesAfter_9 rfl 0 rfl ?_
    refine ev_getI dX2_modesAfter_10 C_X2 L_X2_15 (by decide) (by decide) sh_66 rfl ?_
    refine ev_top (v := nI n) hn ?_
    refine ev_ncmp_ge (tgt := 77) dX2_modesAfter_13 (by decide) (by omega) (by omega) (fun h13 => ?_) (fun h13 => ?_)
    · exact absurd h13 (by omega)
    · refine ev_aload_n dX2_modesAfter_16 rfl 0 rfl ?_
      refine ev_getR dX2_modesAfter_17 C_X2 L_X2_9 (by decide) (by decide) sh_66 rfl ?_
      refine ev_iload dX2_modesAfter_20 4 rfl ?_
      refine ev_cald (e := k) (v := σ 67 k) dX2_modesAfter_22 (by decide) sh_67 (by omega) (by decide) rfl ?_
      refine ev_top (v := nI (t k)) (ht k (by omega)).1 ?_
      refine ev_istore (lv' := [(5, .int (nI (t k))), (0, .ref 66), (1, .int m0), (2, .int ((ma t k (m0, false)).1)), (3, .int (b2i ((ma t k (m0, false)).2))), (4, .int (nI k))]) dX2_modesAfter_23 (by decide) rfl ?_
      have ht9 := (ht k (by omega)).2
      refine ev_ldcS dX2_modesAfter_25 ?_
      refine ev_iload dX2_modesAfter_27 0 rfl ?_
      refine ev_callT (x := oI (ix (t k))) dX2_modesAfter_29 M_X2_40 Y_J0_indexOf_0f7a4 rfl [.int (nI (t k))] (c_J0_indexOf_0f7a4 (t k) (by omega)) (by decide) (Nat.le_of_ble_eq_true rfl) rfl rfl (Nat.le_of_ble_eq_true rfl) ?_
      rcases ho29 : ix (t k) with _ | u29
      · refine ev_top (v := (-1)) rfl ?_
        refine ev_istore (lv' := [(6, .int (-1)), (5, .int (nI (t k))), (0, .ref 66), (1, .int m0), (2, .int ((ma t k (m0, false)).1)), (3, .int (b2i ((ma t k (m0, false)).2))), (4, .int (nI k))]) dX2_modesAfter_32 (by decide) rfl ?_
        refine ev_iload dX2_modesAfter_34 1 rfl ?_
        refine ev_callSi (x := b2i (sg (t k))) dX2_modesAfter_36 (Or.inl M_X2_35) Y_X2_isSign [.int (nI (t k))] (c_X2_isSign (t k) (by omega)) (by decide) (Nat.le_of_ble_eq_true rfl) rfl rfl (Nat.le_of_ble_eq_true rfl) ?_
        refine ev_ifb_eq (tgt := 58) dX2_modesAfter_39 (by decide) (fun h39 => ?_) (fun h39 => ?_)
        · refine ev_iload dX2_modesAfter_58 0 rfl ?_
          refine ev_if_lt (tgt := 71) dX2_modesAfter_60 (by decide) (fun h60 => ?_) (fun h60 => ?_)
          · refine ev_iinc (lv' := [(4, .int (nI (k + 1))), (6, .int (-1)), (5, .int (nI (t k))), (0, .ref 66), (1, .int m0), (2, .int ((ma t k (m0, false)).1)), (3, .int (b2i ((ma t k (m0, false)).2)))]) dX2_modesAfter_71 6 rfl (nI_inc k) (by decide) rfl ?_
            refine ev_goto (tgt := 7) dX2_modesAfter_74 (by decide) ?_
            refine ev_lv (lv' := [(0, .ref 66), (1, .int m0), (2, .int ((ma t k (m0, false)).1)), (3, .int (b2i ((ma t k (m0, false)).2))), (4, .int (nI (k + 1)))]) [3, 4, 5, 6, 0] rfl ?_
            have ih9 : av_Ev l RX2 cX2_modesAfter 7 (some .int) av_E0 4 7 [(0, .ref 66), (1, .int m0), (2, .int ((ma t (k + 1) (m0, false)).1)), (3, .int (b2i ((ma t (k + 1) (m0, false)).2))), (4, .int (nI (k + 1)))] [] σ Q := ihk
            rw [show (ma t (k + 1) (m0, false)).1 = (ma t k (m0, false)).1 from (by show (maF (t k) (ma t k (m0, false))).1 = _; unfold maF; rw [h39]; first | rfl | (rw [ho29]; rfl))] at ih9
            rw [show b2i ((ma t (k + 1) (m0, false)).2) = b2i ((ma t k (m0, false)).2) from (by show b2i (maF (t k) (ma t k (m0, false))).2 = _; unfold maF; rw [h39]; first | (rw [ho29]; rfl) | (show b2i (decide (t k = 43)) = _; simp [b2i, h46]))] at ih9
            exact ih9
          · exact absurd (by decide) h60
        · refine ev_iload dX2_modesAfter_42 1 rfl ?_
          refine ev_bipush dX2_modesAfter_44 (v := nI 43) (by decide) ?_
          refine ev_ncmp_ne (tgt := 53) dX2_modesAfter_46 (by decide) (by omega) (by omega) (fun h46 => ?_) (fun h46 => ?_)
          · refine ev_iconst dX2_modesAfter_53 (v := nI 0) (by decide) ?_
            refine ev_istore_n (lv' := [(3, .int (nI 0)), (6, .int (-1)), (5, .int (nI (t k))), (0, .ref 66), (1, .int m0), (2, .int ((ma t k (m0, false)).1)), (4, .int (nI k))]) dX2_modesAfter_54 rfl (by decide) rfl ?_
            refine ev_goto (tgt := 71) dX2_modesAfter_55 (by decide) ?_
            refine ev_iinc (lv' := [(4, .int (nI (k + 1))), (3, .int (nI 0)), (6, .int (-1)), (5, .int (nI (t k))), (0, .ref 66), (1, .int m0), (2, .int ((ma t k (m0, false)).1))]) dX2_modesAfter_71 6 rfl (nI_inc k) (by decide) rfl ?_
            refine ev_goto (tgt := 7) dX2_modesAfter_74 (by decide) ?_
            refine ev_lv (lv' := [(0, .ref 66), (1, .int m0), (2, .int ((ma t k (m0, false)).1)), (3, .int (nI 0)), (4, .int (nI (k + 1)))]) [4, 5, 6, 1, 0] rfl ?_
            have ih9 : av_Ev l RX2 cX2_modesAfter 7 (some .int) av_E0 4 7 [(0, .ref 66), (1, .int m0), (2, .int ((ma t (k + 1) (m0, false)).1)), (3, .int (b2i ((ma t (k + 1) (m0, false)).2))), (4, .int (nI (k + 1)))] [] σ Q := ihk
            rw [show (ma t (k + 1) (m0, false)).1 = (ma t k (m0, false)).1 from (by show (maF (t k) (ma t k (m0, false))).1 = _; unfold maF; rw [h39]; first | rfl | (rw [ho29]; rfl))] at ih9
            rw [show b2i ((ma t (k + 1) (m0, false)).2) = nI 0 from (by show b2i (maF (t k) (ma t k (m0, false))).2 = _; unfold maF; rw [h39]; first | (rw [ho29]; rfl) | (show b2i (decide (t k = 43)) = _; simp [b2i, h46]))] at ih9
            exact ih9
          · refine ev_iconst dX2_modesAfter_49 (v := nI 1) (by decide) ?_
            refine ev_goto (tgt := 54) dX2_modesAfter_50 (by decide) ?_
            refine ev_istore_n (lv' := [(3, .int (nI 1)), (6, .int (-1)), (5, .int (nI (t k))), (0, .ref 66), (1, .int m0), (2, .int ((ma t k (m0, false)).1)), (4, .int (nI k))]) dX2_modesAfter_54 rfl (by decide) rfl ?_
            refine ev_goto (tgt := 71) dX2_modesAfter_55 (by decide) ?_
            refine ev_iinc (lv' := [(4, .int (nI (k + 1))), (3, .int (nI 1)), (6, .int (-1)), (5, .int (nI (t k))), (0, .ref 66), (1, .int m0), (2, .int ((ma t k (m0, false)).1))]) dX2_modesAfter_71 6 rfl (nI_inc k) (by decide) rfl ?_
            refine ev_goto (tgt := 7) dX2_modesAfter_74 (by decide) ?_
            refine ev_lv (lv' := [(0, .ref 66), (1, .int m0), (2, .int ((ma t k (m0, false)).1)), (3, .int (nI 1)), (4, .int (nI (k + 1)))]) [4, 5, 6, 1, 0] rfl ?_
            have ih9 : av_Ev l RX2 cX2_modesAfter 7 (some .int) av_E0 4 7 [(0, .ref 66), (1, .int m0), (2, .int ((ma t (k + 1) (m0, false)).1)), (3, .int (b2i ((ma t (k + 1) (m0, false)).2))), (4, .int (nI (k + 1)))] [] σ Q := ihk
            rw [show (ma t (k + 1) (m0, false)).1 = (ma t k (m0, false)).1 from (by show (maF (t k) (ma t k (m0, false))).1 = _; unfold maF; rw [h39]; first | rfl | (rw [ho29]; rfl))] at ih9
            rw [show b2i ((ma t (k + 1) (m0, false)).2) = nI 1 from (by show b2i (maF (t k) (ma t k (m0, false))).2 = _; unfold maF; rw [h39]; first | (rw [ho29]; rfl) | (show b2i (decide (t k = 43)) = _; simp [b2i, h46]))] at ih9
            exact ih9
      · have hu29 : u29 < 6 := ix_lt ho29
        refine ev_top (v := nI u29) rfl ?_
        refine ev_istore (lv' := [(6, .int (nI u29)), (5, .int (nI (t k))), (0, .ref 66), (1, .int m0), (2, .int ((ma t k (m0, false)).1)), (3, .int (b2i ((ma t k (m0, false)).2))), (4, .int (nI k))]) dX2_modesAfter_32 (by decide) rfl ?_
        refine ev_iload dX2_modesAfter_34 1 rfl ?_
        refine ev_callSi (x := b2i (sg (t k))) dX2_modesAfter_36 (Or.inl M_X2_35) Y_X2_isSign [.int (nI (t k))] (c_X2_isSign (t k) (by omega)) (by decide) (Nat.le_of_ble_eq_true rfl) rfl rfl (Nat.le_of_ble_eq_true rfl) ?_
        refine ev_ifb_eq (tgt := 58) dX2_modesAfter_39 (by decide) (fun h39 => ?_) (fun h39 => ?_)
        · refine ev_iload dX2_modesAfter_58 0 rfl ?_
          refine ev_nif_lt (tgt := 71) dX2_modesAfter_60 (by decide) (by omega) ?_
          refine ev_iload_n dX2_modesAfter_63 rfl 4 rfl ?_
          refine ev_iload dX2_modesAfter_64 0 rfl ?_
          refine ev_iload_n dX2_modesAfter_66 rfl 5 rfl ?_
          refine ev_callSi (x := wb ((ma t k (m0, false)).1) u29 ((ma t k (m0, false)).2)) dX2_modesAfter_67 (Or.inr M_X2_46) Y_X5_withBit [.int ((ma t k (m0, false)).1), .int (nI u29), .int (b2i ((ma t k (m0, false)).2))] (c_X5_withBit ((ma t k (m0, false)).1) u29 ((ma t k (m0, false)).2) (by omega)) (by decide) (Nat.le_of_ble_eq_true rfl) rfl rfl (Nat.le_of_ble_eq_true rfl) ?_
          refine ev_istore_n (lv' := [(2, .int (wb ((ma t k (m0, false)).1) u29 ((ma t k (m0, false)).2))), (6, .int (nI u29)), (5, .int (nI (t k))), (0, .ref 66), (1, .int m0), (3, .int (b2i ((ma t k (m0, false)).2))), (4, .int (nI k))]) dX2_modesAfter_70 rfl (by decide) rfl ?_
          refine ev_iinc (lv' := [(4, .int (nI (k + 1))), (2, .int (wb ((ma t k (m0, false)).1) u29 ((ma t k (m0, false)).2))), (6, .int (nI u29)), (5, .int (nI (t k))), (0, .ref 66), (1, .int m0), (3, .int (b2i ((ma t k (m0, false)).2)))]) dX2_modesAfter_71 6 rfl (nI_inc k) (by decide) rfl ?_
          refine ev_goto (tgt := 7) dX2_modesAfter_74 (by decide) ?_
          refine ev_lv (lv' := [(0, .ref 66), (1, .int m0), (2, .int (wb ((ma t k (m0, false)).1) u29 ((ma t k (m0, false)).2))), (3, .int (b2i ((ma t k (m0, false)).2))), (4, .int (nI (k + 1)))]) [4, 5, 1, 6, 0] rfl ?_
          have ih9 : av_Ev l RX2 cX2_modesAfter 7 (some .int) av_E0 4 7 [(0, .ref 66), (1, .int m0), (2, .int ((ma t (k + 1) (m0, false)).1)), (3, .int (b2i ((ma t (k + 1) (m0, false)).2))), (4, .int (nI (k + 1)))] [] σ Q := ihk
          rw [show (ma t (k + 1) (m0, false)).1 = wb ((ma t k (m0, false)).1) u29 ((ma t k (m0, false)).2) from (by show (maF (t k) (ma t k (m0, false))).1 = _; unfold maF; rw [h39]; first | rfl | (rw [ho29]; rfl))] at ih9
          rw [show b2i ((ma t (k + 1) (m0, false)).2) = b2i ((ma t k (m0, false)).2) from (by show b2i (maF (t k) (ma t k (m0, false))).2 = _; unfold maF; rw [h39]; first | (rw [ho29]; rfl) | (show b2i (decide (t k = 43)) = _; simp [b2i, h46]))] at ih9
          exact ih9
        · refine ev_iload dX2_modesAfter_42 1 rfl ?_
          refine ev_bipush dX2_modesAfter_44 (v := nI 43) (by decide) ?_
          refine ev_ncmp_ne (tgt := 53) dX2_modesAfter_46 (by decide) (by omega) (by omega) (fun h46 => ?_) (fun h46 => ?_)
          · refine ev_iconst dX2_modesAfter_53 (v := nI 0) (by decide) ?_
            refine ev_istore_n (lv' := [(3, .int (nI 0)), (6, .int (nI u29)), (5, .int (nI (t k))), (0, .ref 66), (1, .int m0), (2, .int ((ma t k (m0, false)).1)), (4, .int (nI k))]) dX2_modesAfter_54 rfl (by decide) rfl ?_
            refine ev_goto (tgt := 71) dX2_modesAfter_55 (by decide) ?_
            refine ev_iinc (lv' := [(4, .int (nI (k + 1))), (3, .int (nI 0)), (6, .int (nI u29)), (5, .int (nI (t k))), (0, .ref 66), (1, .int m0), (2, .int ((ma t k (m0, false)).1))]) dX2_modesAfter_71 6 rfl (nI_inc k) (by decide) rfl ?_
            refine ev_goto (tgt := 7) dX2_modesAfter_74 (by decide) ?_
            refine ev_lv (lv' := [(0, .ref 66), (1, .int m0), (2, .int ((ma t k (m0, false)).1)), (3, .int (nI 0)), (4, .int (nI (k + 1)))]) [4, 5, 6, 1, 0] rfl ?_
            have ih9 : av_Ev l RX2 cX2_modesAfter 7 (some .int) av_E0 4 7 [(0, .ref 66), (1, .int m0), (2, .int ((ma t (k + 1) (m0, false)).1)), (3, .int (b2i ((ma t (k + 1) (m0, false)).2))), (4, .int (nI (k + 1)))] [] σ Q := ihk
            rw [show (ma t (k + 1) (m0, false)).1 = (ma t k (m0, false)).1 from (by show (maF (t k) (ma t k (m0, false))).1 = _; unfold maF; rw [h39]; first | rfl | (rw [ho29]; rfl))] at ih9
            rw [show b2i ((ma t (k + 1) (m0, false)).2) = nI 0 from (by show b2i (maF (t k) (ma t k (m0, false))).2 = _; unfold maF; rw [h39]; first | (rw [ho29]; rfl) | (show b2i (decide (t k = 43)) = _; simp [b2i, h46]))] at ih9
            exact ih9
          · refine ev_iconst dX2_modesAfter_49 (v := nI 1) (by decide) ?_
            refine ev_goto (tgt := 54) dX2_modesAfter_50 (by decide) ?_
            refine ev_istore_n (lv' := [(3, .int (nI 1)), (6, .int (nI u29)), (5, .int (nI (t k))), (0, .ref 66), (1, .int m0), (2, .int ((ma t k (m0, false)).1)), (4, .int (nI k))]) dX2_modesAfter_54 rfl (by decide) rfl ?_
            refine ev_goto (tgt := 71) dX2_modesAfter_55 (by decide) ?_
            refine ev_iinc (lv' := [(4, .int (nI (k + 1))), (3, .int (nI 1)), (6, .int (nI u29)), (5, .int (nI (t k))), (0, .ref 66), (1, .int m0), (2, .int ((ma t k (m0, false)).1))]) dX2_modesAfter_71 6 rfl (nI_inc k) (by decide) rfl ?_
            refine ev_goto (tgt := 7) dX2_modesAfter_74 (by decide) ?_
            refine ev_lv (lv' := [(0, .ref 66), (1, .int m0), (2, .int ((ma t k (m0, false)).1)), (3, .int (nI 1)), (4, .int (nI (k + 1)))]) [4, 5, 6, 1, 0] rfl ?_
            have ih9 : av_Ev l RX2 cX2_modesAfter 7 (some .int) av_E0 4 7 [(0, .ref 66), (1, .int m0), (2, .int ((ma t (k + 1) (m0, false)).1)), (3, .int (b2i ((ma t (k + 1) (m0, false)).2))), (4, .int (nI (k + 1)))] [] σ Q := ihk
            rw [show (ma t (k + 1) (m0, false)).1 = (ma t k (m0, false)).1 from (by show (maF (t k) (ma t k (m0, false))).1 = _; unfold maF; rw [h39]; first | rfl | (rw [ho29]; rfl))] at ih9
            rw [show b2i ((ma t (k + 1) (m0, false)).2) = nI 1 from (by show b2i (maF (t k) (ma t k (m0, false))).2 = _; unfold maF; rw [h39]; first | (rw [ho29]; rfl) | (show b2i (decide (t k = 43)) = _; simp [b2i, h46]))] at ih9
            exact ih9

set_option maxRecDepth 100000 in
set_option maxHeartbeats 1000000 in
theorem c_X2_operatorsAfter {l : Launch} {σ : av_S} (m0 : Int32) (t : Nat → Nat) (n : Nat) (hn : σ 66 1 = nI n) (hn4 : n ≤ 40) (ht : ∀ i, i < n → σ 67 i = nI (t i) ∧ t i < 256) : av_M l RX2 cX2_operatorsAfter 6 (some .int) 1 [.ref 66, .int m0] σ (some (.int ((oa t n (m0, false)).1))) σ := by
  intro Q hQ
  show av_Ev l RX2 cX2_operatorsAfter 6 (some .int) av_E0 1 0 [(0, .ref 66), (1, .int m0)] [] σ Q
  refine ev_iload_n dX2_operatorsAfter_0 rfl 1 rfl ?_
  refine ev_istore_n (lv' := [(2, .int m0), (0, .ref 66), (1, .int m0)]) dX2_operatorsAfter_1 rfl (by decide) rfl ?_
  refine ev_iconst dX2_operatorsAfter_2 (v := nI 0) (by decide) ?_
  refine ev_istore_n (lv' := [(3, .int (nI 0)), (2, .int m0), (0, .ref 66), (1, .int m0)]) dX2_operatorsAfter_3 rfl (by decide) rfl ?_
  refine ev_iconst dX2_operatorsAfter_4 (v := nI 0) (by decide) ?_
  refine ev_istore (lv' := [(4, .int (nI 0)), (3, .int (nI 0)), (2, .int m0), (0, .ref 66), (1, .int m0)]) dX2_operatorsAfter_5 (by decide) rfl ?_
  refine ev_lv (lv' := [(0, .ref 66), (1, .int m0), (2, .int m0), (3, .int (nI 0)), (4, .int (nI 0))]) [3, 4, 2, 1, 0] rfl ?_
  refine loop_up (fun k => av_Ev l RX2 cX2_operatorsAfter 6 (some .int) av_E0 1 7 [(0, .ref 66), (1, .int m0), (2, .int ((oa t k (m0, false)).1)), (3, .int (b2i ((oa t k (m0, false)).2))), (4, .int (nI k))] [] σ Q) n ?_ ?_
  · show av_Ev l RX2 cX2_operatorsAfter 6 (some .int) av_E0 1 7 [(0, .ref 66), (1, .int m0), (2, .int ((oa t n (m0, false)).1)), (3, .int (b2i ((oa t n (m0, false)).2))), (4, .int (nI n))] [] σ Q
    refine ev_iload dX2_operatorsAfter_7 4 rfl ?_
    refine ev_aload_n dX2_operatorsAfter_9 rfl 0 rfl ?_
    refine ev_getI dX2_operatorsAfter_10 C_X2 L_X2_15 (by decide) (by decide) sh_66 rfl ?_
    refine ev_top (v := nI n) hn ?_
    refine ev_ncmp_ge (tgt := 74) dX2_operatorsAfter_13 (by decide) (by omega) (by omega) (fun h13 => ?_) (fun h13 => ?_)
    · refine ev_iload_n dX2_operatorsAfter_74 rfl 2 rfl ?_
      exact ev_ireturn dX2_operatorsAfter_75 rfl rfl (leafI hQ rfl rfl)
    · exact absurd h13 (by omega)
  · intro k hk ihk
    show av_Ev l RX2 cX2_operatorsAfter 6 (some .int) av_E0 1 7 [(0, .ref 66), (1, .int m0), (2, .int ((oa t k (m0, false)).1)), (3, .int (b2i ((oa t k (m0, false)).2))), (4, .int (nI k))] [] σ Q
    refine ev_iload dX2_operatorsAfter_7 4 rfl ?_
    refine ev_aload_n dX2_operatorsAfter_9 rfl 0 rfl ?_
    refine ev_getI dX2_operatorsAfter_10 C_X2 L_X2_15 (by decide) (by decide) sh_66 rfl ?_
    refine ev_top (v := nI n) hn ?_
    refine ev_ncmp_ge (tgt := 74) dX2_operatorsAfter_13 (by decide) (by omega) (by omega) (fun h13 => ?_) (fun h13 => ?_)
    · exact absurd h13 (by omega)
    · refine ev_aload_n dX2_operatorsAfter_16 rfl 0 rfl ?_
      refine ev_getR dX2_operatorsAfter_17 C_X2 L_X2_9 (by decide) (by decide) sh_66 rfl ?_
      refine ev_iload dX2_operatorsAfter_20 4 rfl ?_
      refine ev_cald (e := k) (v := σ 67 k) dX2_operatorsAfter_22 (by decide) sh_67 (by omega) (by decide) rfl ?_
      refine ev_top (v := nI (t k)) (ht k (by omega)).1 ?_
      refine ev_istore (lv' := [(5, .int (nI (t k))), (0, .ref 66), (1, .int m0), (2, .int ((oa t k (m0, false)).1)), (3, .int (b2i ((oa t k (m0, false)).2))), (4, .int (nI k))]) dX2_operatorsAfter_23 (by decide) rfl ?_
      have ht9 := (ht k (by omega)).2
      refine ev_iload dX2_operatorsAfter_25 0 rfl ?_
      refine ev_callSi (x := b2i (sg (t k))) dX2_operatorsAfter_27 (Or.inl M_X2_35) Y_X2_isSign [.int (nI (t k))] (c_X2_isSign (t k) (by omega)) (by decide) (Nat.le_of_ble_eq_true rfl) rfl rfl (Nat.le_of_ble_eq_true rfl) ?_
      refine ev_ifb_eq (tgt := 49) dX2_operatorsAfter_30 (by decide) (fun h30 => ?_) (fun h30 => ?_)
      · refine ev_iload dX2_operatorsAfter_49 0 rfl ?_
        refine ev_callSi (x := b2i (dg (t k))) dX2_operatorsAfter_51 (Or.inl M_X2_27) Y_X2_isDigit [.int (nI (t k))] (c_X2_isDigit (t k) (by omega)) (by decide) (Nat.le_of_ble_eq_true rfl) rfl rfl (Nat.le_of_ble_eq_true rfl) ?_
        refine ev_ifb_eq (tgt := 68) dX2_operatorsAfter_54 (by decide) (fun h54 => ?_) (fun h54 => ?_)
        · refine ev_iinc (lv' := [(4, .int (nI (k + 1))), (5, .int (nI (t k))), (0, .ref 66), (1, .int m0), (2, .int ((oa t k (m0, false)).1)), (3, .int (b2i ((oa t k (m0, false)).2)))]) dX2_operatorsAfter_68 5 rfl (nI_inc k) (by decide) rfl ?_
          refine ev_goto (tgt := 7) dX2_operatorsAfter_71 (by decide) ?_
          refine ev_lv (lv' := [(0, .ref 66), (1, .int m0), (2, .int ((oa t k (m0, false)).1)), (3, .int (b2i ((oa t k (m0, false)).2))), (4, .int (nI (k + 1)))]) [2, 3, 4, 5, 0] rfl ?_
          have ih9 : av_Ev l RX2 cX2_operatorsAfter 6 (some .int) av_E0 1 7 [(0, .ref 66), (1, .int m0), (2, .int ((oa t (k + 1) (m0, false)).1)), (3, .int (b2i ((oa t (k + 1) (m0, false)).2))), (4, .int (nI (k + 1)))] [] σ Q := ihk
          rw [show (oa t (k + 1) (m0, false)).1 = (oa t k (m0, false)).1 from (by show (oaF (t k) (oa t k (m0, false))).1 = _; unfold oaF; rw [h30]; first | rfl | (rw [h54]; rfl))] at ih9
          rw [show b2i ((oa t (k + 1) (m0, false)).2) = b2i ((oa t k (m0, false)).2) from (by show b2i (oaF (t k) (oa t k (m0, false))).2 = _; unfold oaF; rw [h30]; first | (rw [h54]; rfl) | (show b2i (decide (t k = 43)) = _; simp [b2i, h37]))] at ih9
          exact ih9
        · have hd9 := dg_ge h54
          refine ev_iload_n dX2_operatorsAfter_57 rfl 3 rfl ?_
          refine ev_iload dX2_operatorsAfter_58 0 rfl ?_
          refine ev_bipush dX2_operatorsAfter_60 (v := nI 48) (by decide) ?_
          refine ev_isub dX2_operatorsAfter_62 ?_
          refine ev_top (v := nI (t k - 48)) (pk_sub (by omega)) ?_
          refine ev_iload_n dX2_operatorsAfter_63 rfl 4 rfl ?_
          refine ev_callSi (x := wb ((oa t k (m0, false)).1) (t k - 48) ((oa t k (m0, false)).2)) dX2_operatorsAfter_64 (Or.inr M_X2_46) Y_X5_withBit [.int ((oa t k (m0, false)).1), .int (nI (t k - 48)), .int (b2i ((oa t k (m0, false)).2))] (c_X5_withBit ((oa t k (m0, false)).1) (t k - 48) ((oa t k (m0, false)).2) (by omega)) (by decide) (Nat.le_of_ble_eq_true rfl) rfl rfl (Nat.le_of_ble_eq_true rfl) ?_
          refine ev_istore_n (lv' := [(2, .int (wb ((oa t k (m0, false)).1) (t k - 48) ((oa t k (m0, false)).2))), (5, .int (nI (t k))), (0, .ref 66), (1, .int m0), (3, .int (b2i ((oa t k (m0, false)).2))), (4, .int (nI k))]) dX2_operatorsAfter_67 rfl (by decide) rfl ?_
          refine ev_iinc (lv' := [(4, .int (nI (k + 1))), (2, .int (wb ((oa t k (m0, false)).1) (t k - 48) ((oa t k (m0, false)).2))), (5, .int (nI (t k))), (0, .ref 66), (1, .int m0), (3, .int (b2i ((oa t k (m0, false)).2)))]) dX2_operatorsAfter_68 5 rfl (nI_inc k) (by decide) rfl ?_
          refine ev_goto (tgt := 7) dX2_operatorsAfter_71 (by decide) ?_
          refine ev_lv (lv' := [(0, .ref 66), (1, .int m0), (2, .int (wb ((oa t k (m0, false)).1) (t k - 48) ((oa t k (m0, false)).2))), (3, .int (b2i ((oa t k (m0, false)).2))), (4, .int (nI (k + 1)))]) [3, 4, 1, 5, 0] rfl ?_
          have ih9 : av_Ev l RX2 cX2_operatorsAfter 6 (some .int) av_E0 1 7 [(0, .ref 66), (1, .int m0), (2, .int ((oa t (k + 1) (m0, false)).1)), (3, .int (b2i ((oa t (k + 1) (m0, false)).2))), (4, .int (nI (k + 1)))] [] σ Q := ihk
          rw [show (oa t (k + 1) (m0, false)).1 = wb ((oa t k (m0, false)).1) (t k - 48) ((oa t k (m0, false)).2) from (by show (oaF (t k) (oa t k (m0, false))).1 = _; unfold oaF; rw [h30]; first | rfl | (rw [h54]; rfl))] at ih9
          rw [show b2i ((oa t (k + 1) (m0, false)).2) = b2i ((oa t k (m0, false)).2) from (by show b2i (oaF (t k) (oa t k (m0, false))).2 = _; unfold oaF; rw [h30]; first | (rw [h54]; rfl) | (show b2i (decide (t k = 43)) = _; simp [b2i, h37]))] at ih9
          exact ih9
      · refine ev_iload dX2_operatorsAfter_33 0 rfl ?_
        refine ev_bipush dX2_operatorsAfter_35 (v := nI 43) (by decide) ?_
        refine ev_ncmp_ne (tgt := 44) dX2_operatorsAfter_37 (by decide) (by omega) (by omega) (fun h37 => ?_) (fun h37 => ?_)
        · refine ev_iconst dX2_operatorsAfter_44 (v := nI 0) (by decide) ?_
          refine ev_istore_n (lv' := [(3, .int (nI 0)), (5, .int (nI (t k))), (0, .ref 66), (1, .int m0), (2, .int ((oa t k (m0, false)).1)), (4, .int (nI k))]) dX2_operatorsAfter_45 rfl (by decide) rfl ?_
          refine ev_goto (tgt := 68) dX2_operatorsAfter_46 (by decide) ?_
          refine ev_iinc (lv' := [(4, .int (nI (k + 1))), (3, .int (nI 0)), (5, .int (nI (t k))), (0, .ref 66), (1, .int m0), (2, .int ((oa t k (m0, false)).1))]) dX2_operatorsAfter_68 5 rfl (nI_inc k) (by decide) rfl ?_
          refine ev_goto (tgt := 7) dX2_operatorsAfter_71 (by decide) ?_
          refine ev_lv (lv' := [(0, .ref 66), (1, .int m0), (2, .int ((oa t k (m0, false)).1)), (3, .int (nI 0)), (4, .int (nI (k + 1)))]) [3, 4, 5, 1, 0] rfl ?_
          have ih9 : av_Ev l RX2 cX2_operatorsAfter 6 (some .int) av_E0 1 7 [(0, .ref 66), (1, .int m0), (2, .int ((oa t (k + 1) (m0, false)).1)), (3, .int (b2i ((oa t (k + 1) (m0, false)).2))), (4, .int (nI (k + 1)))] [] σ Q := ihk
          rw [show (oa t (k + 1) (m0, false)).1 = (oa t k (m0, false)).1 from (by show (oaF (t k) (oa t k (m0, false))).1 = _; unfold oaF; rw [h30]; first | rfl | (rw [h54]; rfl))] at ih9
          rw [show b2i ((oa t (k + 1) (m0, false)).2) = nI 0 from (by show b2i (oaF (t k) (oa t k (m0, false))).2 = _; unfold oaF; rw [h30]; first | (rw [h54]; rfl) | (show b2i (decide (t k = 43)) = _; simp [b2i, h37]))] at ih9
          exact ih9
        · refine ev_iconst dX2_operatorsAfter_40 (v := nI 1) (by decide) ?_
          refine ev_goto (tgt := 45) dX2_operatorsAfter_41 (by decide) ?_
          refine ev_istore_n (lv' := [(3, .int (nI 1)), (5, .int (nI (t k))), (0, .ref 66), (1, .int m0), (2, .int ((oa t k (m0, false)).1)), (4, .int (nI k))]) dX2_operatorsAfter_45 rfl (by decide) rfl ?_
          refine ev_goto (tgt := 68) dX2_operatorsAfter_46 (by decide) ?_
          refine ev_iinc (lv' := [(4, .int (nI (k + 1))), (3, .int (nI 1)), (5, .int (nI (t k))), (0, .ref 66), (1, .int m0), (2, .int ((oa t k (m0, false)).1))]) dX2_operatorsAfter_68 5 rfl (nI_inc k) (by decide) rfl ?_
          refine ev_goto (tgt := 7) dX2_operatorsAfter_71 (by decide) ?_
          refine ev_lv (lv' := [(0, .ref 66), (1, .int m0), (2, .int ((oa t k (m0, false)).1)), (3, .int (nI 1)), (4, .int (nI (k + 1)))]) [3, 4, 5, 1, 0] rfl ?_
          have ih9 : av_Ev l RX2 cX2_operatorsAfter 6 (some .int) av_E0 1 7 [(0, .ref 66), (1, .int m0), (2, .int ((oa t (k + 1) (m0, false)).1)), (3, .int (b2i ((oa t (k + 1) (m0, false)).2))), (4, .int (nI (k + 1)))] [] σ Q := ihk
          rw [show (oa t (k + 1) (m0, false)).1 = (oa t k (m0, false)).1 from (by show (oaF (t k) (oa t k (m0, false))).1 = _; unfold oaF; rw [h30]; first | rfl | (rw [h54]; rfl))] at ih9
          rw [show b2i ((oa t (k + 1) (m0, false)).2) = nI 1 from (by show b2i (oaF (t k) (oa t k (m0, false))).2 = _; unfold oaF; rw [h30]; first | (rw [h54]; rfl) | (show b2i (decide (t k = 43)) = _; simp [b2i, h37]))] at ih9
          exact ih9

set_option maxRecDepth 100000 in
set_option maxHeartbeats 1000000 in
theorem c_X2_countItems {l : Launch} {σ : av_S} (t : Nat → Nat) (n : Nat) (hn : σ 66 1 = nI n) (hn4 : n ≤ 40) (ht : ∀ i, i < n → σ 67 i = nI (t i) ∧ t i < 256) : av_M l RX2 cX2_countItems 4 (some .int) 1 [.ref 66] σ (some (.int (nI (ci t n)))) σ := by
  intro Q hQ
  show av_Ev l RX2 cX2_countItems 4 (some .int) av_E0 1 0 [(0, .ref 66)] [] σ Q
  refine ev_iconst dX2_countItems_0 (v := nI 0) (by decide) ?_
  refine ev_istore_n (lv' := [(1, .int (nI 0)), (0, .ref 66)]) dX2_countItems_1 rfl (by decide) rfl ?_
  refine ev_iconst dX2_countItems_2 (v := nI 0) (by decide) ?_
  refine ev_istore_n (lv' := [(2, .int (nI 0)), (1, .int (nI 0)), (0, .ref 66)]) dX2_countItems_3 rfl (by decide) rfl ?_
  refine ev_lv (lv' := [(0, .ref 66), (1, .int (nI 0)), (2, .int (nI 0))]) [2, 1, 0] rfl ?_
  refine loop_up (fun k => av_Ev l RX2 cX2_countItems 4 (some .int) av_E0 1 4 [(0, .ref 66), (1, .int (nI (ci t k))), (2, .int (nI k))] [] σ Q) n ?_ ?_
  · show av_Ev l RX2 cX2_countItems 4 (some .int) av_E0 1 4 [(0, .ref 66), (1, .int (nI (ci t n))), (2, .int (nI n))] [] σ Q
    refine ev_iload_n dX2_countItems_4 rfl 2 rfl ?_
    refine ev_aload_n dX2_countItems_5 rfl 0 rfl ?_
    refine ev_getI dX2_countItems_6 C_X2 L_X2_15 (by decide) (by decide) sh_66 rfl ?_
    refine ev_top (v := nI n) hn ?_
    refine ev_ncmp_ge (tgt := 42) dX2_countItems_9 (by decide) (by omega) (by omega) (fun h9 => ?_) (fun h9 => ?_)
    · refine ev_iload_n dX2_countItems_42 rfl 1 rfl ?_
      exact ev_ireturn dX2_countItems_43 rfl rfl (leafI hQ rfl rfl)
    · exact absurd h9 (by omega)
  · intro k hk ihk
    show av_Ev l RX2 cX2_countItems 4 (some .int) av_E0 1 4 [(0, .ref 66), (1, .int (nI (ci t k))), (2, .int (nI k))] [] σ Q
    refine ev_iload_n dX2_countItems_4 rfl 2 rfl ?_
    refine ev_aload_n dX2_countItems_5 rfl 0 rfl ?_
    refine ev_getI dX2_countItems_6 C_X2 L_X2_15 (by decide) (by decide) sh_66 rfl ?_
    refine ev_top (v := nI n) hn ?_
    refine ev_ncmp_ge (tgt := 42) dX2_countItems_9 (by decide) (by omega) (by omega) (fun h9 => ?_) (fun h9 => ?_)
    · exact absurd h9 (by omega)
    · refine ev_aload_n dX2_countItems_12 rfl 0 rfl ?_
      refine ev_getR dX2_countItems_13 C_X2 L_X2_9 (by decide) (by decide) sh_66 rfl ?_
      refine ev_iload_n dX2_countItems_16 rfl 2 rfl ?_
      refine ev_cald (e := k) (v := σ 67 k) dX2_countItems_17 (by decide) sh_67 (by omega) (by decide) rfl ?_
      refine ev_top (v := nI (t k)) (ht k (by omega)).1 ?_
      refine ev_istore_n (lv' := [(3, .int (nI (t k))), (0, .ref 66), (1, .int (nI (ci t k))), (2, .int (nI k))]) dX2_countItems_18 rfl (by decide) rfl ?_
      have ht9 := (ht k (by omega)).2
      refine ev_iload_n dX2_countItems_19 rfl 0 rfl ?_
      refine ev_callSi (x := b2i (sg (t k))) dX2_countItems_20 (Or.inl M_X2_35) Y_X2_isSign [.int (nI (t k))] (c_X2_isSign (t k) (by omega)) (by decide) (Nat.le_of_ble_eq_true rfl) rfl rfl (Nat.le_of_ble_eq_true rfl) ?_
      refine ev_ifb_ne (tgt := 36) dX2_countItems_23 (by decide) (fun h23 => ?_) (fun h23 => ?_)
      · refine ev_iinc (lv' := [(2, .int (nI (k + 1))), (3, .int (nI (t k))), (0, .ref 66), (1, .int (nI (ci t k)))]) dX2_countItems_36 3 rfl (nI_inc k) (by decide) rfl ?_
        refine ev_goto (tgt := 4) dX2_countItems_39 (by decide) ?_
        refine ev_lv (lv' := [(0, .ref 66), (1, .int (nI (ci t k))), (2, .int (nI (k + 1)))]) [2, 3, 0] rfl ?_
        have ih9 : av_Ev l RX2 cX2_countItems 4 (some .int) av_E0 1 4 [(0, .ref 66), (1, .int (nI (ci t (k + 1)))), (2, .int (nI (k + 1)))] [] σ Q := ihk
        rw [show nI (ci t (k + 1)) = nI (ci t k) from (by simp only [ci, fo_s]; simp [ciF, h9, h23])] at ih9
        exact ih9
      · refine ev_iload_n dX2_countItems_26 rfl 0 rfl ?_
        refine ev_callSi (x := b2i (dg (t k))) dX2_countItems_27 (Or.inl M_X2_27) Y_X2_isDigit [.int (nI (t k))] (c_X2_isDigit (t k) (by omega)) (by decide) (Nat.le_of_ble_eq_true rfl) rfl rfl (Nat.le_of_ble_eq_true rfl) ?_
        refine ev_ifb_ne (tgt := 36) dX2_countItems_30 (by decide) (fun h30 => ?_) (fun h30 => ?_)
        · refine ev_iinc (lv' := [(2, .int (nI (k + 1))), (3, .int (nI (t k))), (0, .ref 66), (1, .int (nI (ci t k)))]) dX2_countItems_36 3 rfl (nI_inc k) (by decide) rfl ?_
          refine ev_goto (tgt := 4) dX2_countItems_39 (by decide) ?_
          refine ev_lv (lv' := [(0, .ref 66), (1, .int (nI (ci t k))), (2, .int (nI (k + 1)))]) [2, 3, 0] rfl ?_
          have ih9 : av_Ev l RX2 cX2_countItems 4 (some .int) av_E0 1 4 [(0, .ref 66), (1, .int (nI (ci t (k + 1)))), (2, .int (nI (k + 1)))] [] σ Q := ihk
          rw [show nI (ci t (k + 1)) = nI (ci t k) from (by simp only [ci, fo_s]; simp [ciF, h9, h23, h30])] at ih9
          exact ih9
        · refine ev_iinc (lv' := [(1, .int (nI (ci t k + 1))), (3, .int (nI (t k))), (0, .ref 66), (2, .int (nI k))]) dX2_countItems_33 2 rfl (nI_inc (ci t k)) (by decide) rfl ?_
          refine ev_iinc (lv' := [(2, .int (nI (k + 1))), (1, .int (nI (ci t k + 1))), (3, .int (nI (t k))), (0, .ref 66)]) dX2_countItems_36 3 rfl (nI_inc k) (by decide) rfl ?_
          refine ev_goto (tgt := 4) dX2_countItems_39 (by decide) ?_
          refine ev_lv (lv' := [(0, .ref 66), (1, .int (nI (ci t k + 1))), (2, .int (nI (k + 1)))]) [3, 1, 0] rfl ?_
          have ih9 : av_Ev l RX2 cX2_countItems 4 (some .int) av_E0 1 4 [(0, .ref 66), (1, .int (nI (ci t (k + 1)))), (2, .int (nI (k + 1)))] [] σ Q := ihk
          rw [show nI (ci t (k + 1)) = nI (ci t k + 1) from (by simp only [ci, fo_s]; simp [ciF, h9, h23, h30])] at ih9
          exact ih9

