/-! ===== PlanSearch: contracts ===== -/
set_option maxRecDepth 100000 in
set_option maxHeartbeats 1000000 in
theorem c_X3_mayBeLeft {l : Launch} {σ : av_S} (p : Nat) (N : Nat) (n : Nat) (hp : p < 6) (hN : N ≤ 6) (hn0 : n < 10) : av_M l RX3 cX3_mayBeLeft 8 (some .boolean) 0 [.ref (70 + p), .int (nI N), .int (nI n)] σ (some (.int (b2i (mbl (σ (70 + p)) N n)))) σ := by
  intro Q hQ
  show av_Ev l RX3 cX3_mayBeLeft 8 (some .boolean) av_E0 0 0 [(0, .ref (70 + p)), (1, .int (nI N)), (2, .int (nI n))] [] σ Q
  refine ev_iconst dX3_mayBeLeft_0 (v := nI 0) (by decide) ?_
  refine ev_istore_n (lv' := [(3, .int (nI 0)), (0, .ref (70 + p)), (1, .int (nI N)), (2, .int (nI n))]) dX3_mayBeLeft_1 rfl (by decide) rfl ?_
  refine ev_iconst dX3_mayBeLeft_2 (v := (-1)) (by decide) ?_
  refine ev_istore (lv' := [(4, .int (-1)), (3, .int (nI 0)), (0, .ref (70 + p)), (1, .int (nI N)), (2, .int (nI n))]) dX3_mayBeLeft_3 (by decide) rfl ?_
  refine ev_iconst dX3_mayBeLeft_5 (v := nI 0) (by decide) ?_
  refine ev_istore (lv' := [(5, .int (nI 0)), (4, .int (-1)), (3, .int (nI 0)), (0, .ref (70 + p)), (1, .int (nI N)), (2, .int (nI n))]) dX3_mayBeLeft_6 (by decide) rfl ?_
  refine ev_iconst dX3_mayBeLeft_8 (v := nI 0) (by decide) ?_
  refine ev_istore (lv' := [(6, .int (nI 0)), (5, .int (nI 0)), (4, .int (-1)), (3, .int (nI 0)), (0, .ref (70 + p)), (1, .int (nI N)), (2, .int (nI n))]) dX3_mayBeLeft_9 (by decide) rfl ?_
  refine ev_lv (lv' := [(0, .ref (70 + p)), (1, .int (nI N)), (2, .int (nI n)), (3, .int (nI 0)), (4, .int (-1)), (5, .int (nI 0)), (6, .int (nI 0))]) [4, 5, 6, 3, 2, 1, 0] rfl ?_
  refine loop_up (fun k => av_Ev l RX3 cX3_mayBeLeft 8 (some .boolean) av_E0 0 11 [(0, .ref (70 + p)), (1, .int (nI N)), (2, .int (nI n)), (3, .int (nI ((mb3 (σ (70 + p)) n k).1))), (4, .int ((mb3 (σ (70 + p)) n k).2.1)), (5, .int (b2i ((mb3 (σ (70 + p)) n k).2.2))), (6, .int (nI k))] [] σ Q) N ?_ ?_
  · show av_Ev l RX3 cX3_mayBeLeft 8 (some .boolean) av_E0 0 11 [(0, .ref (70 + p)), (1, .int (nI N)), (2, .int (nI n)), (3, .int (nI ((mb3 (σ (70 + p)) n N).1))), (4, .int ((mb3 (σ (70 + p)) n N).2.1)), (5, .int (b2i ((mb3 (σ (70 + p)) n N).2.2))), (6, .int (nI N))] [] σ Q
    have hle := mb3_le (σ (70 + p)) n N
    refine ev_iload dX3_mayBeLeft_11 6 rfl ?_
    refine ev_iload_n dX3_mayBeLeft_13 rfl 1 rfl ?_
    refine ev_ncmp_ge (tgt := 70) dX3_mayBeLeft_14 (by decide) (by omega) (by omega) (fun h14 => ?_) (fun h14 => ?_)
    · refine ev_iload dX3_mayBeLeft_70 5 rfl ?_
      refine ev_ifb_ne (tgt := 81) dX3_mayBeLeft_72 (by decide) (fun h72 => ?_) (fun h72 => ?_)
      · refine ev_iconst dX3_mayBeLeft_81 (v := nI 1) (by decide) ?_
        refine ev_goto (tgt := 86) dX3_mayBeLeft_82 (by decide) ?_
        exact ev_ireturn dX3_mayBeLeft_86 rfl (by decide) (leafI hQ (by simp [b2i, mbl, h14, h72]) rfl)
      · refine ev_iload_n dX3_mayBeLeft_75 rfl 3 rfl ?_
        refine ev_iconst dX3_mayBeLeft_76 (v := nI 1) (by decide) ?_
        refine ev_iand dX3_mayBeLeft_77 ?_
        refine ev_if_eq (tgt := 85) dX3_mayBeLeft_78 (by decide) (fun h78 => ?_) (fun h78 => ?_)
        · refine ev_iconst dX3_mayBeLeft_85 (v := nI 0) (by decide) ?_
          exact ev_ireturn dX3_mayBeLeft_86 rfl (by decide) (leafI hQ (by simp [b2i, mbl, h14, h72, h78]) rfl)
        · refine ev_iconst dX3_mayBeLeft_81 (v := nI 1) (by decide) ?_
          refine ev_goto (tgt := 86) dX3_mayBeLeft_82 (by decide) ?_
          exact ev_ireturn dX3_mayBeLeft_86 rfl (by decide) (leafI hQ (by simp [b2i, mbl, h14, h72, h78]) rfl)
    · exact absurd h14 (by omega)
  · intro k hk ihk
    show av_Ev l RX3 cX3_mayBeLeft 8 (some .boolean) av_E0 0 11 [(0, .ref (70 + p)), (1, .int (nI N)), (2, .int (nI n)), (3, .int (nI ((mb3 (σ (70 + p)) n k).1))), (4, .int ((mb3 (σ (70 + p)) n k).2.1)), (5, .int (b2i ((mb3 (σ (70 + p)) n k).2.2))), (6, .int (nI k))] [] σ Q
    have hle := mb3_le (σ (70 + p)) n k
    refine ev_iload dX3_mayBeLeft_11 6 rfl ?_
    refine ev_iload_n dX3_mayBeLeft_13 rfl 1 rfl ?_
    refine ev_ncmp_ge (tgt := 70) dX3_mayBeLeft_14 (by decide) (by omega) (by omega) (fun h14 => ?_) (fun h14 => ?_)
    · exact absurd h14 (by omega)
    · refine ev_aload_n dX3_mayBeLeft_17 rfl 0 rfl ?_
      refine ev_iload dX3_mayBeLeft_18 6 rfl ?_
      refine ev_bipush dX3_mayBeLeft_20 (v := nI 10) (by decide) ?_
      refine ev_imul dX3_mayBeLeft_22 ?_
      refine ev_top (v := nI (k * 10)) (pk_mul _ _) ?_
      refine ev_iload_n dX3_mayBeLeft_23 rfl 2 rfl ?_
      refine ev_iadd dX3_mayBeLeft_24 ?_
      refine ev_top (v := nI (k * 10 + n)) (nI_add _ _) ?_
      refine ev_iald (e := k * 10 + n) (v := (σ (70 + p)) (k * 10 + n)) dX3_mayBeLeft_25 (by omega) (sh_tm (i := p) (by omega)) (by omega) (by decide) rfl ?_
      refine ev_istore (lv' := [(7, .int ((σ (70 + p)) (k * 10 + n))), (0, .ref (70 + p)), (1, .int (nI N)), (2, .int (nI n)), (3, .int (nI ((mb3 (σ (70 + p)) n k).1))), (4, .int ((mb3 (σ (70 + p)) n k).2.1)), (5, .int (b2i ((mb3 (σ (70 + p)) n k).2.2))), (6, .int (nI k))]) dX3_mayBeLeft_26 (by decide) rfl ?_
      refine ev_iload dX3_mayBeLeft_28 0 rfl ?_
      refine ev_iconst dX3_mayBeLeft_30 (v := (-1)) (by decide) ?_
      refine ev_icmp_eq (tgt := 64) dX3_mayBeLeft_31 (by decide) (fun h31 => ?_) (fun h31 => ?_)
      · refine ev_iinc (lv' := [(6, .int (nI (k + 1))), (7, .int ((σ (70 + p)) (k * 10 + n))), (0, .ref (70 + p)), (1, .int (nI N)), (2, .int (nI n)), (3, .int (nI ((mb3 (σ (70 + p)) n k).1))), (4, .int ((mb3 (σ (70 + p)) n k).2.1)), (5, .int (b2i ((mb3 (σ (70 + p)) n k).2.2)))]) dX3_mayBeLeft_64 7 rfl (nI_inc k) (by decide) rfl ?_
        refine ev_goto (tgt := 11) dX3_mayBeLeft_67 (by decide) ?_
        refine ev_lv (lv' := [(0, .ref (70 + p)), (1, .int (nI N)), (2, .int (nI n)), (3, .int (nI ((mb3 (σ (70 + p)) n k).1))), (4, .int ((mb3 (σ (70 + p)) n k).2.1)), (5, .int (b2i ((mb3 (σ (70 + p)) n k).2.2))), (6, .int (nI (k + 1)))]) [2, 3, 4, 5, 6, 7, 0] rfl ?_
        have ih9 : av_Ev l RX3 cX3_mayBeLeft 8 (some .boolean) av_E0 0 11 [(0, .ref (70 + p)), (1, .int (nI N)), (2, .int (nI n)), (3, .int (nI ((mb3 (σ (70 + p)) n (k + 1)).1))), (4, .int ((mb3 (σ (70 + p)) n (k + 1)).2.1)), (5, .int (b2i ((mb3 (σ (70 + p)) n (k + 1)).2.2))), (6, .int (nI (k + 1)))] [] σ Q := ihk
        rw [show nI ((mb3 (σ (70 + p)) n (k + 1)).1) = nI ((mb3 (σ (70 + p)) n k).1) from (by show nI (mb3F (σ (70 + p)) n k (mb3 (σ (70 + p)) n k)).1 = _; unfold mb3F; first | rw [if_pos h31] | (rw [if_neg h31] <;> first | rfl | (simp [b2i, h14, h31]; done)))] at ih9
        rw [show (mb3 (σ (70 + p)) n (k + 1)).2.1 = (mb3 (σ (70 + p)) n k).2.1 from (by show  (mb3F (σ (70 + p)) n k (mb3 (σ (70 + p)) n k)).2.1 = _; unfold mb3F; first | rw [if_pos h31] | (rw [if_neg h31] <;> first | rfl | (simp [b2i, h14, h31]; done)))] at ih9
        rw [show b2i ((mb3 (σ (70 + p)) n (k + 1)).2.2) = b2i ((mb3 (σ (70 + p)) n k).2.2) from (by show b2i (mb3F (σ (70 + p)) n k (mb3 (σ (70 + p)) n k)).2.2 = _; unfold mb3F; first | rw [if_pos h31] | (rw [if_neg h31] <;> first | rfl | (simp [b2i, h14, h31]; done)))] at ih9
        exact ih9
      · refine ev_iload dX3_mayBeLeft_34 6 rfl ?_
        refine ev_ifb_ne (tgt := 50) dX3_mayBeLeft_36 (by decide) (fun h36 => ?_) (fun h36 => ?_)
        · refine ev_iconst dX3_mayBeLeft_50 (v := nI 1) (by decide) ?_
          refine ev_goto (tgt := 55) dX3_mayBeLeft_51 (by decide) ?_
          refine ev_istore (lv' := [(5, .int (nI 1)), (7, .int ((σ (70 + p)) (k * 10 + n))), (0, .ref (70 + p)), (1, .int (nI N)), (2, .int (nI n)), (3, .int (nI ((mb3 (σ (70 + p)) n k).1))), (4, .int ((mb3 (σ (70 + p)) n k).2.1)), (6, .int (nI k))]) dX3_mayBeLeft_55 (by decide) rfl ?_
          refine ev_iload dX3_mayBeLeft_57 1 rfl ?_
          refine ev_istore (lv' := [(4, .int ((σ (70 + p)) (k * 10 + n))), (5, .int (nI 1)), (7, .int ((σ (70 + p)) (k * 10 + n))), (0, .ref (70 + p)), (1, .int (nI N)), (2, .int (nI n)), (3, .int (nI ((mb3 (σ (70 + p)) n k).1))), (6, .int (nI k))]) dX3_mayBeLeft_59 (by decide) rfl ?_
          refine ev_iinc (lv' := [(3, .int (nI ((mb3 (σ (70 + p)) n k).1 + 1))), (4, .int ((σ (70 + p)) (k * 10 + n))), (5, .int (nI 1)), (7, .int ((σ (70 + p)) (k * 10 + n))), (0, .ref (70 + p)), (1, .int (nI N)), (2, .int (nI n)), (6, .int (nI k))]) dX3_mayBeLeft_61 6 rfl (nI_inc ((mb3 (σ (70 + p)) n k).1)) (by decide) rfl ?_
          refine ev_iinc (lv' := [(6, .int (nI (k + 1))), (3, .int (nI ((mb3 (σ (70 + p)) n k).1 + 1))), (4, .int ((σ (70 + p)) (k * 10 + n))), (5, .int (nI 1)), (7, .int ((σ (70 + p)) (k * 10 + n))), (0, .ref (70 + p)), (1, .int (nI N)), (2, .int (nI n))]) dX3_mayBeLeft_64 7 rfl (nI_inc k) (by decide) rfl ?_
          refine ev_goto (tgt := 11) dX3_mayBeLeft_67 (by decide) ?_
          refine ev_lv (lv' := [(0, .ref (70 + p)), (1, .int (nI N)), (2, .int (nI n)), (3, .int (nI ((mb3 (σ (70 + p)) n k).1 + 1))), (4, .int ((σ (70 + p)) (k * 10 + n))), (5, .int (nI 1)), (6, .int (nI (k + 1)))]) [5, 6, 7, 1, 2, 3, 0] rfl ?_
          have ih9 : av_Ev l RX3 cX3_mayBeLeft 8 (some .boolean) av_E0 0 11 [(0, .ref (70 + p)), (1, .int (nI N)), (2, .int (nI n)), (3, .int (nI ((mb3 (σ (70 + p)) n (k + 1)).1))), (4, .int ((mb3 (σ (70 + p)) n (k + 1)).2.1)), (5, .int (b2i ((mb3 (σ (70 + p)) n (k + 1)).2.2))), (6, .int (nI (k + 1)))] [] σ Q := ihk
          rw [show nI ((mb3 (σ (70 + p)) n (k + 1)).1) = nI ((mb3 (σ (70 + p)) n k).1 + 1) from (by show nI (mb3F (σ (70 + p)) n k (mb3 (σ (70 + p)) n k)).1 = _; unfold mb3F; first | rw [if_pos h31] | (rw [if_neg h31] <;> first | rfl | (simp [b2i, h14, h31, h36]; done)))] at ih9
          rw [show (mb3 (σ (70 + p)) n (k + 1)).2.1 = (σ (70 + p)) (k * 10 + n) from (by show  (mb3F (σ (70 + p)) n k (mb3 (σ (70 + p)) n k)).2.1 = _; unfold mb3F; first | rw [if_pos h31] | (rw [if_neg h31] <;> first | rfl | (simp [b2i, h14, h31, h36]; done)))] at ih9
          rw [show b2i ((mb3 (σ (70 + p)) n (k + 1)).2.2) = nI 1 from (by show b2i (mb3F (σ (70 + p)) n k (mb3 (σ (70 + p)) n k)).2.2 = _; unfold mb3F; first | rw [if_pos h31] | (rw [if_neg h31] <;> first | rfl | (simp [b2i, h14, h31, h36]; done)))] at ih9
          exact ih9
        · refine ev_iload_n dX3_mayBeLeft_39 rfl 4 rfl ?_
          refine ev_nif_le (tgt := 54) dX3_mayBeLeft_40 (by decide) (by omega) (fun h40 => ?_) (fun h40 => ?_)
          · refine ev_iconst dX3_mayBeLeft_54 (v := nI 0) (by decide) ?_
            refine ev_istore (lv' := [(5, .int (nI 0)), (7, .int ((σ (70 + p)) (k * 10 + n))), (0, .ref (70 + p)), (1, .int (nI N)), (2, .int (nI n)), (3, .int (nI ((mb3 (σ (70 + p)) n k).1))), (4, .int ((mb3 (σ (70 + p)) n k).2.1)), (6, .int (nI k))]) dX3_mayBeLeft_55 (by decide) rfl ?_
            refine ev_iload dX3_mayBeLeft_57 1 rfl ?_
            refine ev_istore (lv' := [(4, .int ((σ (70 + p)) (k * 10 + n))), (5, .int (nI 0)), (7, .int ((σ (70 + p)) (k * 10 + n))), (0, .ref (70 + p)), (1, .int (nI N)), (2, .int (nI n)), (3, .int (nI ((mb3 (σ (70 + p)) n k).1))), (6, .int (nI k))]) dX3_mayBeLeft_59 (by decide) rfl ?_
            refine ev_iinc (lv' := [(3, .int (nI ((mb3 (σ (70 + p)) n k).1 + 1))), (4, .int ((σ (70 + p)) (k * 10 + n))), (5, .int (nI 0)), (7, .int ((σ (70 + p)) (k * 10 + n))), (0, .ref (70 + p)), (1, .int (nI N)), (2, .int (nI n)), (6, .int (nI k))]) dX3_mayBeLeft_61 6 rfl (nI_inc ((mb3 (σ (70 + p)) n k).1)) (by decide) rfl ?_
            refine ev_iinc (lv' := [(6, .int (nI (k + 1))), (3, .int (nI ((mb3 (σ (70 + p)) n k).1 + 1))), (4, .int ((σ (70 + p)) (k * 10 + n))), (5, .int (nI 0)), (7, .int ((σ (70 + p)) (k * 10 + n))), (0, .ref (70 + p)), (1, .int (nI N)), (2, .int (nI n))]) dX3_mayBeLeft_64 7 rfl (nI_inc k) (by decide) rfl ?_
            refine ev_goto (tgt := 11) dX3_mayBeLeft_67 (by decide) ?_
            refine ev_lv (lv' := [(0, .ref (70 + p)), (1, .int (nI N)), (2, .int (nI n)), (3, .int (nI ((mb3 (σ (70 + p)) n k).1 + 1))), (4, .int ((σ (70 + p)) (k * 10 + n))), (5, .int (nI 0)), (6, .int (nI (k + 1)))]) [5, 6, 7, 1, 2, 3, 0] rfl ?_
            have ih9 : av_Ev l RX3 cX3_mayBeLeft 8 (some .boolean) av_E0 0 11 [(0, .ref (70 + p)), (1, .int (nI N)), (2, .int (nI n)), (3, .int (nI ((mb3 (σ (70 + p)) n (k + 1)).1))), (4, .int ((mb3 (σ (70 + p)) n (k + 1)).2.1)), (5, .int (b2i ((mb3 (σ (70 + p)) n (k + 1)).2.2))), (6, .int (nI (k + 1)))] [] σ Q := ihk
            rw [show nI ((mb3 (σ (70 + p)) n (k + 1)).1) = nI ((mb3 (σ (70 + p)) n k).1 + 1) from (by show nI (mb3F (σ (70 + p)) n k (mb3 (σ (70 + p)) n k)).1 = _; unfold mb3F; first | rw [if_pos h31] | (rw [if_neg h31] <;> first | rfl | (simp [b2i, h14, h31, h36, h40]; done)))] at ih9
            rw [show (mb3 (σ (70 + p)) n (k + 1)).2.1 = (σ (70 + p)) (k * 10 + n) from (by show  (mb3F (σ (70 + p)) n k (mb3 (σ (70 + p)) n k)).2.1 = _; unfold mb3F; first | rw [if_pos h31] | (rw [if_neg h31] <;> first | rfl | (simp [b2i, h14, h31, h36, h40]; done)))] at ih9
            rw [show b2i ((mb3 (σ (70 + p)) n (k + 1)).2.2) = nI 0 from (by show b2i (mb3F (σ (70 + p)) n k (mb3 (σ (70 + p)) n k)).2.2 = _; unfold mb3F; first | rw [if_pos h31] | (rw [if_neg h31] <;> first | rfl | (simp [b2i, h14, h31, h36, h40]; done)))] at ih9
            exact ih9
          · refine ev_iload dX3_mayBeLeft_43 0 rfl ?_
            refine ev_iload dX3_mayBeLeft_45 5 rfl ?_
            refine ev_icmp_eq (tgt := 54) dX3_mayBeLeft_47 (by decide) (fun h47 => ?_) (fun h47 => ?_)
            · refine ev_iconst dX3_mayBeLeft_54 (v := nI 0) (by decide) ?_
              refine ev_istore (lv' := [(5, .int (nI 0)), (7, .int ((σ (70 + p)) (k * 10 + n))), (0, .ref (70 + p)), (1, .int (nI N)), (2, .int (nI n)), (3, .int (nI ((mb3 (σ (70 + p)) n k).1))), (4, .int ((mb3 (σ (70 + p)) n k).2.1)), (6, .int (nI k))]) dX3_mayBeLeft_55 (by decide) rfl ?_
              refine ev_iload dX3_mayBeLeft_57 1 rfl ?_
              refine ev_istore (lv' := [(4, .int ((σ (70 + p)) (k * 10 + n))), (5, .int (nI 0)), (7, .int ((σ (70 + p)) (k * 10 + n))), (0, .ref (70 + p)), (1, .int (nI N)), (2, .int (nI n)), (3, .int (nI ((mb3 (σ (70 + p)) n k).1))), (6, .int (nI k))]) dX3_mayBeLeft_59 (by decide) rfl ?_
              refine ev_iinc (lv' := [(3, .int (nI ((mb3 (σ (70 + p)) n k).1 + 1))), (4, .int ((σ (70 + p)) (k * 10 + n))), (5, .int (nI 0)), (7, .int ((σ (70 + p)) (k * 10 + n))), (0, .ref (70 + p)), (1, .int (nI N)), (2, .int (nI n)), (6, .int (nI k))]) dX3_mayBeLeft_61 6 rfl (nI_inc ((mb3 (σ (70 + p)) n k).1)) (by decide) rfl ?_
              refine ev_iinc (lv' := [(6, .int (nI (k + 1))), (3, .int (nI ((mb3 (σ (70 + p)) n k).1 + 1))), (4, .int ((σ (70 + p)) (k * 10 + n))), (5, .int (nI 0)), (7, .int ((σ (70 + p)) (k * 10 + n))), (0, .ref (70 + p)), (1, .int (nI N)), (2, .int (nI n))]) dX3_mayBeLeft_64 7 rfl (nI_inc k) (by decide) rfl ?_
              refine ev_goto (tgt := 11) dX3_mayBeLeft_67 (by decide) ?_
              refine ev_lv (lv' := [(0, .ref (70 + p)), (1, .int (nI N)), (2, .int (nI n)), (3, .int (nI ((mb3 (σ (70 + p)) n k).1 + 1))), (4, .int ((σ (70 + p)) (k * 10 + n))), (5, .int (nI 0)), (6, .int (nI (k + 1)))]) [5, 6, 7, 1, 2, 3, 0] rfl ?_
              have ih9 : av_Ev l RX3 cX3_mayBeLeft 8 (some .boolean) av_E0 0 11 [(0, .ref (70 + p)), (1, .int (nI N)), (2, .int (nI n)), (3, .int (nI ((mb3 (σ (70 + p)) n (k + 1)).1))), (4, .int ((mb3 (σ (70 + p)) n (k + 1)).2.1)), (5, .int (b2i ((mb3 (σ (70 + p)) n (k + 1)).2.2))), (6, .int (nI (k + 1)))] [] σ Q := ihk
              rw [show nI ((mb3 (σ (70 + p)) n (k + 1)).1) = nI ((mb3 (σ (70 + p)) n k).1 + 1) from (by show nI (mb3F (σ (70 + p)) n k (mb3 (σ (70 + p)) n k)).1 = _; unfold mb3F; first | rw [if_pos h31] | (rw [if_neg h31] <;> first | rfl | (simp [b2i, h14, h31, h36, h40, h47]; done)))] at ih9
              rw [show (mb3 (σ (70 + p)) n (k + 1)).2.1 = (σ (70 + p)) (k * 10 + n) from (by show  (mb3F (σ (70 + p)) n k (mb3 (σ (70 + p)) n k)).2.1 = _; unfold mb3F; first | rw [if_pos h31] | (rw [if_neg h31] <;> first | rfl | (simp [b2i, h14, h31, h36, h40, h47]; done)))] at ih9
              rw [show b2i ((mb3 (σ (70 + p)) n (k + 1)).2.2) = nI 0 from (by show b2i (mb3F (σ (70 + p)) n k (mb3 (σ (70 + p)) n k)).2.2 = _; unfold mb3F; first | rw [if_pos h31] | (rw [if_neg h31] <;> first | rfl | (simp [b2i, h14, h31, h36, h40, h47]; done)))] at ih9
              exact ih9
            · refine ev_iconst dX3_mayBeLeft_50 (v := nI 1) (by decide) ?_
              refine ev_goto (tgt := 55) dX3_mayBeLeft_51 (by decide) ?_
              refine ev_istore (lv' := [(5, .int (nI 1)), (7, .int ((σ (70 + p)) (k * 10 + n))), (0, .ref (70 + p)), (1, .int (nI N)), (2, .int (nI n)), (3, .int (nI ((mb3 (σ (70 + p)) n k).1))), (4, .int ((mb3 (σ (70 + p)) n k).2.1)), (6, .int (nI k))]) dX3_mayBeLeft_55 (by decide) rfl ?_
              refine ev_iload dX3_mayBeLeft_57 1 rfl ?_
              refine ev_istore (lv' := [(4, .int ((σ (70 + p)) (k * 10 + n))), (5, .int (nI 1)), (7, .int ((σ (70 + p)) (k * 10 + n))), (0, .ref (70 + p)), (1, .int (nI N)), (2, .int (nI n)), (3, .int (nI ((mb3 (σ (70 + p)) n k).1))), (6, .int (nI k))]) dX3_mayBeLeft_59 (by decide) rfl ?_
              refine ev_iinc (lv' := [(3, .int (nI ((mb3 (σ (70 + p)) n k).1 + 1))), (4, .int ((σ (70 + p)) (k * 10 + n))), (5, .int (nI 1)), (7, .int ((σ (70 + p)) (k * 10 + n))), (0, .ref (70 + p)), (1, .int (nI N)), (2, .int (nI n)), (6, .int (nI k))]) dX3_mayBeLeft_61 6 rfl (nI_inc ((mb3 (σ (70 + p)) n k).1)) (by decide) rfl ?_
              refine ev_iinc (lv' := [(6, .int (nI (k + 1))), (3, .int (nI ((mb3 (σ (70 + p)) n k).1 + 1))), (4, .int ((σ (70 + p)) (k * 10 + n))), (5, .int (nI 1)), (7, .int ((σ (70 + p)) (k * 10 + n))), (0, .ref (70 + p)), (1, .int (nI N)), (2, .int (nI n))]) dX3_mayBeLeft_64 7 rfl (nI_inc k) (by decide) rfl ?_
              refine ev_goto (tgt := 11) dX3_mayBeLeft_67 (by decide) ?_
              refine ev_lv (lv' := [(0, .ref (70 + p)), (1, .int (nI N)), (2, .int (nI n)), (3, .int (nI ((mb3 (σ (70 + p)) n k).1 + 1))), (4, .int ((σ (70 + p)) (k * 10 + n))), (5, .int (nI 1)), (6, .int (nI (k + 1)))]) [5, 6, 7, 1, 2, 3, 0] rfl ?_
              have ih9 : av_Ev l RX3 cX3_mayBeLeft 8 (some .boolean) av_E0 0 11 [(0, .ref (70 + p)), (1, .int (nI N)), (2, .int (nI n)), (3, .int (nI ((mb3 (σ (70 + p)) n (k + 1)).1))), (4, .int ((mb3 (σ (70 + p)) n (k + 1)).2.1)), (5, .int (b2i ((mb3 (σ (70 + p)) n (k + 1)).2.2))), (6, .int (nI (k + 1)))] [] σ Q := ihk
              rw [show nI ((mb3 (σ (70 + p)) n (k + 1)).1) = nI ((mb3 (σ (70 + p)) n k).1 + 1) from (by show nI (mb3F (σ (70 + p)) n k (mb3 (σ (70 + p)) n k)).1 = _; unfold mb3F; first | rw [if_pos h31] | (rw [if_neg h31] <;> first | rfl | (simp [b2i, h14, h31, h36, h40, h47]; done)))] at ih9
              rw [show (mb3 (σ (70 + p)) n (k + 1)).2.1 = (σ (70 + p)) (k * 10 + n) from (by show  (mb3F (σ (70 + p)) n k (mb3 (σ (70 + p)) n k)).2.1 = _; unfold mb3F; first | rw [if_pos h31] | (rw [if_neg h31] <;> first | rfl | (simp [b2i, h14, h31, h36, h40, h47]; done)))] at ih9
              rw [show b2i ((mb3 (σ (70 + p)) n (k + 1)).2.2) = nI 1 from (by show b2i (mb3F (σ (70 + p)) n k (mb3 (σ (70 + p)) n k)).2.2 = _; unfold mb3F; first | rw [if_pos h31] | (rw [if_neg h31] <;> first | rfl | (simp [b2i, h14, h31, h36, h40, h47]; done)))] at ih9
              exact ih9

set_option maxRecDepth 100000 in
set_option maxHeartbeats 1000000 in
theorem c_X3_countHopes {l : Launch} {σ : av_S} (p : Nat) (N : Nat) (hp : p < 6) (hN : N ≤ 6) : av_M l RX3 cX3_countHopes 4 (some .int) 1 [.ref (70 + p), .int (nI N)] σ (some (.int (nI (chp (σ (70 + p)) N)))) σ := by
  intro Q hQ
  show av_Ev l RX3 cX3_countHopes 4 (some .int) av_E0 1 0 [(0, .ref (70 + p)), (1, .int (nI N))] [] σ Q
  refine ev_iconst dX3_countHopes_0 (v := nI 0) (by decide) ?_
  refine ev_istore_n (lv' := [(2, .int (nI 0)), (0, .ref (70 + p)), (1, .int (nI N))]) dX3_countHopes_1 rfl (by decide) rfl ?_
  refine ev_iconst dX3_countHopes_2 (v := nI 0) (by decide) ?_
  refine ev_istore_n (lv' := [(3, .int (nI 0)), (2, .int (nI 0)), (0, .ref (70 + p)), (1, .int (nI N))]) dX3_countHopes_3 rfl (by decide) rfl ?_
  refine ev_lv (lv' := [(0, .ref (70 + p)), (1, .int (nI N)), (2, .int (nI 0)), (3, .int (nI 0))]) [2, 3, 1, 0] rfl ?_
  refine loop_up (fun k => av_Ev l RX3 cX3_countHopes 4 (some .int) av_E0 1 4 [(0, .ref (70 + p)), (1, .int (nI N)), (2, .int (nI (fo k (fun n c => bif mbl (σ (70 + p)) N n then c + 1 else c) 0))), (3, .int (nI k))] [] σ Q) 10 ?_ ?_
  · show av_Ev l RX3 cX3_countHopes 4 (some .int) av_E0 1 4 [(0, .ref (70 + p)), (1, .int (nI N)), (2, .int (nI (fo 10 (fun n c => bif mbl (σ (70 + p)) N n then c + 1 else c) 0))), (3, .int (nI 10))] [] σ Q
    refine ev_iload_n dX3_countHopes_4 rfl 3 rfl ?_
    refine ev_bipush dX3_countHopes_5 (v := nI 10) (by decide) ?_
    refine ev_ncmp_ge (tgt := 28) dX3_countHopes_7 (by decide) (by omega) (by omega) (fun h7 => ?_) (fun h7 => ?_)
    · refine ev_iload_n dX3_countHopes_28 rfl 2 rfl ?_
      exact ev_ireturn dX3_countHopes_29 rfl rfl (leafI hQ (by first | rfl | (simp [h7]; done)) rfl)
    · exact absurd h7 (by omega)
  · intro k hk ihk
    show av_Ev l RX3 cX3_countHopes 4 (some .int) av_E0 1 4 [(0, .ref (70 + p)), (1, .int (nI N)), (2, .int (nI (fo k (fun n c => bif mbl (σ (70 + p)) N n then c + 1 else c) 0))), (3, .int (nI k))] [] σ Q
    refine ev_iload_n dX3_countHopes_4 rfl 3 rfl ?_
    refine ev_bipush dX3_countHopes_5 (v := nI 10) (by decide) ?_
    refine ev_ncmp_ge (tgt := 28) dX3_countHopes_7 (by decide) (by omega) (by omega) (fun h7 => ?_) (fun h7 => ?_)
    · exact absurd h7 (by omega)
    · refine ev_aload_n dX3_countHopes_10 rfl 0 rfl ?_
      refine ev_iload_n dX3_countHopes_11 rfl 1 rfl ?_
      refine ev_iload_n dX3_countHopes_12 rfl 3 rfl ?_
      refine ev_callSi (x := b2i (mbl (σ (70 + p)) N k)) dX3_countHopes_13 (Or.inl M_X3_78) Y_X3_mayBeLeft [.ref (70 + p), .int (nI N), .int (nI k)] (c_X3_mayBeLeft p N k (by omega) (by omega) (by omega)) (by decide) (Nat.le_of_ble_eq_true rfl) rfl rfl (Nat.le_of_ble_eq_true rfl) ?_
      refine ev_ifb_eq (tgt := 22) dX3_countHopes_16 (by decide) (fun h16 => ?_) (fun h16 => ?_)
      · refine ev_iinc (lv' := [(3, .int (nI (k + 1))), (0, .ref (70 + p)), (1, .int (nI N)), (2, .int (nI (fo k (fun n c => bif mbl (σ (70 + p)) N n then c + 1 else c) 0)))]) dX3_countHopes_22 3 rfl (nI_inc k) (by decide) rfl ?_
        refine ev_goto (tgt := 4) dX3_countHopes_25 (by decide) ?_
        refine ev_lv (lv' := [(0, .ref (70 + p)), (1, .int (nI N)), (2, .int (nI (fo k (fun n c => bif mbl (σ (70 + p)) N n then c + 1 else c) 0))), (3, .int (nI (k + 1)))]) [1, 2, 3, 0] rfl ?_
        have ih9 : av_Ev l RX3 cX3_countHopes 4 (some .int) av_E0 1 4 [(0, .ref (70 + p)), (1, .int (nI N)), (2, .int (nI (fo (k + 1) (fun n c => bif mbl (σ (70 + p)) N n then c + 1 else c) 0))), (3, .int (nI (k + 1)))] [] σ Q := ihk
        rw [show nI (fo (k + 1) (fun n c => bif mbl (σ (70 + p)) N n then c + 1 else c) 0) = nI (fo k (fun n c => bif mbl (σ (70 + p)) N n then c + 1 else c) 0) from (by simp [fo_s, h7, h16])] at ih9
        exact ih9
      · refine ev_iinc (lv' := [(2, .int (nI (fo k (fun n c => bif mbl (σ (70 + p)) N n then c + 1 else c) 0 + 1))), (0, .ref (70 + p)), (1, .int (nI N)), (3, .int (nI k))]) dX3_countHopes_19 2 rfl (nI_inc (fo k (fun n c => bif mbl (σ (70 + p)) N n then c + 1 else c) 0)) (by decide) rfl ?_
        refine ev_iinc (lv' := [(3, .int (nI (k + 1))), (2, .int (nI (fo k (fun n c => bif mbl (σ (70 + p)) N n then c + 1 else c) 0 + 1))), (0, .ref (70 + p)), (1, .int (nI N))]) dX3_countHopes_22 3 rfl (nI_inc k) (by decide) rfl ?_
        refine ev_goto (tgt := 4) dX3_countHopes_25 (by decide) ?_
        refine ev_lv (lv' := [(0, .ref (70 + p)), (1, .int (nI N)), (2, .int (nI (fo k (fun n c => bif mbl (σ (70 + p)) N n then c + 1 else c) 0 + 1))), (3, .int (nI (k + 1)))]) [2, 3, 1, 0] rfl ?_
        have ih9 : av_Ev l RX3 cX3_countHopes 4 (some .int) av_E0 1 4 [(0, .ref (70 + p)), (1, .int (nI N)), (2, .int (nI (fo (k + 1) (fun n c => bif mbl (σ (70 + p)) N n then c + 1 else c) 0))), (3, .int (nI (k + 1)))] [] σ Q := ihk
        rw [show nI (fo (k + 1) (fun n c => bif mbl (σ (70 + p)) N n then c + 1 else c) 0) = nI (fo k (fun n c => bif mbl (σ (70 + p)) N n then c + 1 else c) 0 + 1) from (by simp [fo_s, h7, h16])] at ih9
        exact ih9

set_option maxRecDepth 100000 in
set_option maxHeartbeats 1000000 in
theorem c_X3_mergeRows {l : Launch} {σ : av_S} (p : Nat) (q : Nat) (N : Nat) (a : Nat) (b : Nat) (hp : p < 6) (hq : q < 6) (hpq : p ≠ q) (hN : N ≤ 6) (ha : a < N) (hb : b < N) : av_M l RX3 cX3_mergeRows 7 none 2 [.ref (70 + p), .ref (70 + q), .int (nI N), .int (nI a), .int (nI b)] σ none (av_set σ (70 + q) (mrg (σ (70 + p)) (σ (70 + q)) N a b)) := by
  intro Q hQ
  show av_Ev l RX3 cX3_mergeRows 7 none av_E0 2 0 [(0, .ref (70 + p)), (1, .ref (70 + q)), (2, .int (nI N)), (3, .int (nI a)), (4, .int (nI b))] [] σ Q
  refine ev_iconst dX3_mergeRows_0 (v := nI 0) (by decide) ?_
  refine ev_istore (lv' := [(5, .int (nI 0)), (0, .ref (70 + p)), (1, .ref (70 + q)), (2, .int (nI N)), (3, .int (nI a)), (4, .int (nI b))]) dX3_mergeRows_1 (by decide) rfl ?_
  refine ev_iconst dX3_mergeRows_3 (v := nI 0) (by decide) ?_
  refine ev_istore (lv' := [(6, .int (nI 0)), (5, .int (nI 0)), (0, .ref (70 + p)), (1, .ref (70 + q)), (2, .int (nI N)), (3, .int (nI a)), (4, .int (nI b))]) dX3_mergeRows_4 (by decide) rfl ?_
  refine ev_lv (lv' := [(0, .ref (70 + p)), (1, .ref (70 + q)), (2, .int (nI N)), (3, .int (nI a)), (4, .int (nI b)), (5, .int (nI 0)), (6, .int (nI 0))]) [2, 3, 4, 5, 6, 1, 0] rfl ?_
  refine ev_st (σ' := av_set σ (70 + q) ((mr1 (σ (70 + p)) (σ (70 + q)) b 0).2)) (by exact (av_set_self _ _).symm) ?_
  refine loop_up (fun k => av_Ev l RX3 cX3_mergeRows 7 none av_E0 2 6 [(0, .ref (70 + p)), (1, .ref (70 + q)), (2, .int (nI N)), (3, .int (nI a)), (4, .int (nI b)), (5, .int (nI ((mr1 (σ (70 + p)) (σ (70 + q)) b k).1))), (6, .int (nI k))] [] (av_set σ (70 + q) ((mr1 (σ (70 + p)) (σ (70 + q)) b k).2)) Q) N ?_ ?_
  · show av_Ev l RX3 cX3_mergeRows 7 none av_E0 2 6 [(0, .ref (70 + p)), (1, .ref (70 + q)), (2, .int (nI N)), (3, .int (nI a)), (4, .int (nI b)), (5, .int (nI ((mr1 (σ (70 + p)) (σ (70 + q)) b N).1))), (6, .int (nI N))] [] (av_set σ (70 + q) ((mr1 (σ (70 + p)) (σ (70 + q)) b N).2)) Q
    refine ev_iload dX3_mergeRows_6 6 rfl ?_
    refine ev_iload_n dX3_mergeRows_8 rfl 2 rfl ?_
    refine ev_ncmp_ge (tgt := 45) dX3_mergeRows_9 (by decide) (by omega) (by omega) (fun h9 => ?_) (fun h9 => ?_)
    · refine ev_iconst dX3_mergeRows_45 (v := nI 0) (by decide) ?_
      refine ev_istore (lv' := [(6, .int (nI 0)), (0, .ref (70 + p)), (1, .ref (70 + q)), (2, .int (nI N)), (3, .int (nI a)), (4, .int (nI b)), (5, .int (nI ((mr1 (σ (70 + p)) (σ (70 + q)) b N).1)))]) dX3_mergeRows_46 (by decide) rfl ?_
      refine ev_lv (lv' := [(0, .ref (70 + p)), (1, .ref (70 + q)), (2, .int (nI N)), (3, .int (nI a)), (4, .int (nI b)), (6, .int (nI 0))]) [1, 2, 3, 4, 5, 0] rfl ?_
      refine ev_st (σ' := av_set σ (70 + q) (fo 0 (fun n G => upd G (a * 10 + n) (srv (σ (70 + p) (a * 10 + n)) (σ (70 + p) (b * 10 + n)))) (mr1 (σ (70 + p)) (σ (70 + q)) b N).2)) rfl ?_
      refine loop_up (fun k2 => av_Ev l RX3 cX3_mergeRows 7 none av_E0 2 48 [(0, .ref (70 + p)), (1, .ref (70 + q)), (2, .int (nI N)), (3, .int (nI a)), (4, .int (nI b)), (6, .int (nI k2))] [] (av_set σ (70 + q) (fo k2 (fun n G => upd G (a * 10 + n) (srv (σ (70 + p) (a * 10 + n)) (σ (70 + p) (b * 10 + n)))) (mr1 (σ (70 + p)) (σ (70 + q)) b N).2)) Q) 10 ?_ ?_
      · show av_Ev l RX3 cX3_mergeRows 7 none av_E0 2 48 [(0, .ref (70 + p)), (1, .ref (70 + q)), (2, .int (nI N)), (3, .int (nI a)), (4, .int (nI b)), (6, .int (nI 10))] [] (av_set σ (70 + q) (fo 10 (fun n G => upd G (a * 10 + n) (srv (σ (70 + p) (a * 10 + n)) (σ (70 + p) (b * 10 + n)))) (mr1 (σ (70 + p)) (σ (70 + q)) b N).2)) Q
        refine ev_iload dX3_mergeRows_48 5 rfl ?_
        refine ev_bipush dX3_mergeRows_50 (v := nI 10) (by decide) ?_
        refine ev_ncmp_ge (tgt := 92) dX3_mergeRows_52 (by decide) (by omega) (by omega) (fun h52 => ?_) (fun h52 => ?_)
        · exact ev_return dX3_mergeRows_92 rfl (leafV hQ rfl)
        · exact absurd h52 (by omega)
      · intro k2 hk2 ihk2
        show av_Ev l RX3 cX3_mergeRows 7 none av_E0 2 48 [(0, .ref (70 + p)), (1, .ref (70 + q)), (2, .int (nI N)), (3, .int (nI a)), (4, .int (nI b)), (6, .int (nI k2))] [] (av_set σ (70 + q) (fo k2 (fun n G => upd G (a * 10 + n) (srv (σ (70 + p) (a * 10 + n)) (σ (70 + p) (b * 10 + n)))) (mr1 (σ (70 + p)) (σ (70 + q)) b N).2)) Q
        refine ev_iload dX3_mergeRows_48 5 rfl ?_
        refine ev_bipush dX3_mergeRows_50 (v := nI 10) (by decide) ?_
        refine ev_ncmp_ge (tgt := 92) dX3_mergeRows_52 (by decide) (by omega) (by omega) (fun h52 => ?_) (fun h52 => ?_)
        · exact absurd h52 (by omega)
        · refine ev_aload_n dX3_mergeRows_55 rfl 1 rfl ?_
          refine ev_iload_n dX3_mergeRows_56 rfl 3 rfl ?_
          refine ev_bipush dX3_mergeRows_57 (v := nI 10) (by decide) ?_
          refine ev_imul dX3_mergeRows_59 ?_
          refine ev_top (v := nI (a * 10)) (pk_mul _ _) ?_
          refine ev_iload dX3_mergeRows_60 5 rfl ?_
          refine ev_iadd dX3_mergeRows_62 ?_
          refine ev_top (v := nI (a * 10 + k2)) (nI_add _ _) ?_
          refine ev_aload_n dX3_mergeRows_63 rfl 0 rfl ?_
          refine ev_iload_n dX3_mergeRows_64 rfl 3 rfl ?_
          refine ev_bipush dX3_mergeRows_65 (v := nI 10) (by decide) ?_
          refine ev_imul dX3_mergeRows_67 ?_
          refine ev_top (v := nI (a * 10)) (pk_mul _ _) ?_
          refine ev_iload dX3_mergeRows_68 5 rfl ?_
          refine ev_iadd dX3_mergeRows_70 ?_
          refine ev_top (v := nI (a * 10 + k2)) (nI_add _ _) ?_
          refine ev_iald (e := a * 10 + k2) (v := (σ (70 + p)) (a * 10 + k2)) dX3_mergeRows_71 (by omega) (sh_tm (i := p) (by omega)) (by omega) (by decide) (by first | rfl | (simp only [av_set, cpS]; (repeat' split) <;> first | rfl | (exfalso; omega))) ?_
          refine ev_aload_n dX3_mergeRows_72 rfl 0 rfl ?_
          refine ev_iload dX3_mergeRows_73 4 rfl ?_
          refine ev_bipush dX3_mergeRows_75 (v := nI 10) (by decide) ?_
          refine ev_imul dX3_mergeRows_77 ?_
          refine ev_top (v := nI (b * 10)) (pk_mul _ _) ?_
          refine ev_iload dX3_mergeRows_78 5 rfl ?_
          refine ev_iadd dX3_mergeRows_80 ?_
          refine ev_top (v := nI (b * 10 + k2)) (nI_add _ _) ?_
          refine ev_iald (e := b * 10 + k2) (v := (σ (70 + p)) (b * 10 + k2)) dX3_mergeRows_81 (by omega) (sh_tm (i := p) (by omega)) (by omega) (by decide) (by first | rfl | (simp only [av_set, cpS]; (repeat' split) <;> first | rfl | (exfalso; omega))) ?_
          refine ev_callSi (x := srv ((σ (70 + p)) (a * 10 + k2)) ((σ (70 + p)) (b * 10 + k2))) dX3_mergeRows_82 (Or.inl M_X3_73) Y_X1_survivor [.int ((σ (70 + p)) (a * 10 + k2)), .int ((σ (70 + p)) (b * 10 + k2))] (c_X1_survivor ((σ (70 + p)) (a * 10 + k2)) ((σ (70 + p)) (b * 10 + k2)) ) (by decide) (Nat.le_of_ble_eq_true rfl) rfl rfl (Nat.le_of_ble_eq_true rfl) ?_
          refine ev_iast (e := a * 10 + k2) dX3_mergeRows_85 (by omega) (sh_tm (i := q) (by omega)) (by omega) (by decide) ?_
          refine ev_st (σ' := av_set σ (70 + q) (upd (fo k2 (fun n G => upd G (a * 10 + n) (srv (σ (70 + p) (a * 10 + n)) (σ (70 + p) (b * 10 + n)))) (mr1 (σ (70 + p)) (σ (70 + q)) b N).2) (a * 10 + k2) (srv ((σ (70 + p)) (a * 10 + k2)) ((σ (70 + p)) (b * 10 + k2))))) (by first | rfl | exact av_set_set _ _ _ _ | (funext a; unfold av_set; (repeat' split) <;> first | rfl | (exfalso; omega)) | (funext a; simp only [av_set, cpS]; (repeat' split) <;> first | rfl | (exfalso; omega))) ?_
          refine ev_iinc (lv' := [(6, .int (nI (k2 + 1))), (0, .ref (70 + p)), (1, .ref (70 + q)), (2, .int (nI N)), (3, .int (nI a)), (4, .int (nI b))]) dX3_mergeRows_86 5 rfl (nI_inc k2) (by decide) rfl ?_
          refine ev_goto (tgt := 48) dX3_mergeRows_89 (by decide) ?_
          refine ev_lv (lv' := [(0, .ref (70 + p)), (1, .ref (70 + q)), (2, .int (nI N)), (3, .int (nI a)), (4, .int (nI b)), (6, .int (nI (k2 + 1)))]) [1, 2, 3, 4, 5, 0] rfl ?_
          have ih9 : av_Ev l RX3 cX3_mergeRows 7 none av_E0 2 48 [(0, .ref (70 + p)), (1, .ref (70 + q)), (2, .int (nI N)), (3, .int (nI a)), (4, .int (nI b)), (6, .int (nI (k2 + 1)))] [] (av_set σ (70 + q) (fo (k2 + 1) (fun n G => upd G (a * 10 + n) (srv (σ (70 + p) (a * 10 + n)) (σ (70 + p) (b * 10 + n)))) (mr1 (σ (70 + p)) (σ (70 + q)) b N).2)) Q := ihk2
          rw [show av_set σ (70 + q) (fo (k2 + 1) (fun n G => upd G (a * 10 + n) (srv (σ (70 + p) (a * 10 + n)) (σ (70 + p) (b * 10 + n)))) (mr1 (σ (70 + p)) (σ (70 + q)) b N).2) = av_set σ (70 + q) (upd (fo k2 (fun n G => upd G (a * 10 + n) (srv (σ (70 + p) (a * 10 + n)) (σ (70 + p) (b * 10 + n)))) (mr1 (σ (70 + p)) (σ (70 + q)) b N).2) (a * 10 + k2) (srv ((σ (70 + p)) (a * 10 + k2)) ((σ (70 + p)) (b * 10 + k2)))) from rfl] at ih9
          exact ih9
    · exact absurd h9 (by omega)
  · intro k hk ihk
    show av_Ev l RX3 cX3_mergeRows 7 none av_E0 2 6 [(0, .ref (70 + p)), (1, .ref (70 + q)), (2, .int (nI N)), (3, .int (nI a)), (4, .int (nI b)), (5, .int (nI ((mr1 (σ (70 + p)) (σ (70 + q)) b k).1))), (6, .int (nI k))] [] (av_set σ (70 + q) ((mr1 (σ (70 + p)) (σ (70 + q)) b k).2)) Q
    have hle := mr1_le (σ (70 + p)) (σ (70 + q)) b k
    refine ev_iload dX3_mergeRows_6 6 rfl ?_
    refine ev_iload_n dX3_mergeRows_8 rfl 2 rfl ?_
    refine ev_ncmp_ge (tgt := 45) dX3_mergeRows_9 (by decide) (by omega) (by omega) (fun h9 => ?_) (fun h9 => ?_)
    · exact absurd h9 (by omega)
    · refine ev_iload dX3_mergeRows_12 6 rfl ?_
      refine ev_iload dX3_mergeRows_14 4 rfl ?_
      refine ev_ncmp_eq (tgt := 39) dX3_mergeRows_16 (by decide) (by omega) (by omega) (fun h16 => ?_) (fun h16 => ?_)
      · refine ev_iinc (lv' := [(6, .int (nI (k + 1))), (0, .ref (70 + p)), (1, .ref (70 + q)), (2, .int (nI N)), (3, .int (nI a)), (4, .int (nI b)), (5, .int (nI ((mr1 (σ (70 + p)) (σ (70 + q)) b k).1)))]) dX3_mergeRows_39 6 rfl (nI_inc k) (by decide) rfl ?_
        refine ev_goto (tgt := 6) dX3_mergeRows_42 (by decide) ?_
        refine ev_lv (lv' := [(0, .ref (70 + p)), (1, .ref (70 + q)), (2, .int (nI N)), (3, .int (nI a)), (4, .int (nI b)), (5, .int (nI ((mr1 (σ (70 + p)) (σ (70 + q)) b k).1))), (6, .int (nI (k + 1)))]) [1, 2, 3, 4, 5, 6, 0] rfl ?_
        have ih9 : av_Ev l RX3 cX3_mergeRows 7 none av_E0 2 6 [(0, .ref (70 + p)), (1, .ref (70 + q)), (2, .int (nI N)), (3, .int (nI a)), (4, .int (nI b)), (5, .int (nI ((mr1 (σ (70 + p)) (σ (70 + q)) b (k + 1)).1))), (6, .int (nI (k + 1)))] [] (av_set σ (70 + q) ((mr1 (σ (70 + p)) (σ (70 + q)) b (k + 1)).2)) Q := ihk
        rw [show nI ((mr1 (σ (70 + p)) (σ (70 + q)) b (k + 1)).1) = nI ((mr1 (σ (70 + p)) (σ (70 + q)) b k).1) from (by show nI (mr1F (σ (70 + p)) b k (mr1 (σ (70 + p)) (σ (70 + q)) b k)).1 = _; unfold mr1F; first | rw [if_pos h16] | (rw [if_neg h16]))] at ih9
        rw [show av_set σ (70 + q) ((mr1 (σ (70 + p)) (σ (70 + q)) b (k + 1)).2) = av_set σ (70 + q) ((mr1 (σ (70 + p)) (σ (70 + q)) b k).2) from (by show av_set σ (70 + q) (mr1F (σ (70 + p)) b k (mr1 (σ (70 + p)) (σ (70 + q)) b k)).2 = _; unfold mr1F; first | rw [if_pos h16] | (rw [if_neg h16]))] at ih9
        exact ih9
      · refine ev_aload_n dX3_mergeRows_19 rfl 0 rfl ?_
        refine ev_iload dX3_mergeRows_20 6 rfl ?_
        refine ev_bipush dX3_mergeRows_22 (v := nI 10) (by decide) ?_
        refine ev_imul dX3_mergeRows_24 ?_
        refine ev_top (v := nI (k * 10)) (pk_mul _ _) ?_
        refine ev_aload_n dX3_mergeRows_25 rfl 1 rfl ?_
        refine ev_iload dX3_mergeRows_26 5 rfl ?_
        refine ev_bipush dX3_mergeRows_28 (v := nI 10) (by decide) ?_
        refine ev_imul dX3_mergeRows_30 ?_
        refine ev_top (v := nI (((mr1 (σ (70 + p)) (σ (70 + q)) b k).1) * 10)) (pk_mul _ _) ?_
        refine ev_bipush dX3_mergeRows_31 (v := nI 10) (by decide) ?_
        refine ev_arraycopy dX3_mergeRows_33 M_X3_67 W_acopy (by decide) (Nat.le_of_ble_eq_true rfl) (by omega) (by omega) (sh_tm (i := p) (by omega)) (sh_tm (i := q) (by omega)) (nI_pos (by omega)) (nI_pos (by omega)) (nI_pos (by omega)) (by rw [nI_clamp (by omega), nI_clamp (by omega)]; omega) (by rw [nI_clamp (by omega), nI_clamp (by omega)]; omega) ?_
        rw [nI_clamp (show k * 10 < 2 ^ 31 by omega), nI_clamp (show ((mr1 (σ (70 + p)) (σ (70 + q)) b k).1) * 10 < 2 ^ 31 by omega), nI_clamp (show 10 < 2 ^ 31 by omega)]
        refine ev_st (σ' := av_set σ (70 + q) (va_cpy (σ (70 + p)) ((mr1 (σ (70 + p)) (σ (70 + q)) b k).2) (k * 10) (((mr1 (σ (70 + p)) (σ (70 + q)) b k).1) * 10) 10)) (by first | rfl | exact av_set_set _ _ _ _ | (funext a; unfold av_set; (repeat' split) <;> first | rfl | (exfalso; omega)) | (funext a; simp only [av_set, cpS]; (repeat' split) <;> first | rfl | (exfalso; omega))) ?_
        refine ev_iinc (lv' := [(5, .int (nI ((mr1 (σ (70 + p)) (σ (70 + q)) b k).1 + 1))), (0, .ref (70 + p)), (1, .ref (70 + q)), (2, .int (nI N)), (3, .int (nI a)), (4, .int (nI b)), (6, .int (nI k))]) dX3_mergeRows_36 5 rfl (nI_inc ((mr1 (σ (70 + p)) (σ (70 + q)) b k).1)) (by decide) rfl ?_
        refine ev_iinc (lv' := [(6, .int (nI (k + 1))), (5, .int (nI ((mr1 (σ (70 + p)) (σ (70 + q)) b k).1 + 1))), (0, .ref (70 + p)), (1, .ref (70 + q)), (2, .int (nI N)), (3, .int (nI a)), (4, .int (nI b))]) dX3_mergeRows_39 6 rfl (nI_inc k) (by decide) rfl ?_
        refine ev_goto (tgt := 6) dX3_mergeRows_42 (by decide) ?_
        refine ev_lv (lv' := [(0, .ref (70 + p)), (1, .ref (70 + q)), (2, .int (nI N)), (3, .int (nI a)), (4, .int (nI b)), (5, .int (nI ((mr1 (σ (70 + p)) (σ (70 + q)) b k).1 + 1))), (6, .int (nI (k + 1)))]) [2, 3, 4, 5, 6, 1, 0] rfl ?_
        have ih9 : av_Ev l RX3 cX3_mergeRows 7 none av_E0 2 6 [(0, .ref (70 + p)), (1, .ref (70 + q)), (2, .int (nI N)), (3, .int (nI a)), (4, .int (nI b)), (5, .int (nI ((mr1 (σ (70 + p)) (σ (70 + q)) b (k + 1)).1))), (6, .int (nI (k + 1)))] [] (av_set σ (70 + q) ((mr1 (σ (70 + p)) (σ (70 + q)) b (k + 1)).2)) Q := ihk
        rw [show nI ((mr1 (σ (70 + p)) (σ (70 + q)) b (k + 1)).1) = nI ((mr1 (σ (70 + p)) (σ (70 + q)) b k).1 + 1) from (by show nI (mr1F (σ (70 + p)) b k (mr1 (σ (70 + p)) (σ (70 + q)) b k)).1 = _; unfold mr1F; first | rw [if_pos h16] | (rw [if_neg h16]))] at ih9
        rw [show av_set σ (70 + q) ((mr1 (σ (70 + p)) (σ (70 + q)) b (k + 1)).2) = av_set σ (70 + q) (va_cpy (σ (70 + p)) ((mr1 (σ (70 + p)) (σ (70 + q)) b k).2) (k * 10) (((mr1 (σ (70 + p)) (σ (70 + q)) b k).1) * 10) 10) from (by show av_set σ (70 + q) (mr1F (σ (70 + p)) b k (mr1 (σ (70 + p)) (σ (70 + q)) b k)).2 = _; unfold mr1F; first | rw [if_pos h16] | (rw [if_neg h16]))] at ih9
        exact ih9

set_option maxRecDepth 100000 in
set_option maxHeartbeats 1000000 in
theorem c_X3_load {l : Launch} {σ : av_S}   : av_M l RX3 cX3_load 7 (some .int) 4 [.ref 68, .ref 0] σ (some (.int (nI ((ld (σ 0 0) (σ 1) (σ 2) (σ 70) (σ 76) 6).1)))) (av_set (av_set σ 70 ((ld (σ 0 0) (σ 1) (σ 2) (σ 70) (σ 76) 6).2.2.1)) 76 ((ld (σ 0 0) (σ 1) (σ 2) (σ 70) (σ 76) 6).2.2.2)) := by
  intro Q hQ
  show av_Ev l RX3 cX3_load 7 (some .int) av_E0 4 0 [(0, .ref 68), (1, .ref 0)] [] σ Q
  refine ev_iconst dX3_load_0 (v := nI 0) (by decide) ?_
  refine ev_istore_n (lv' := [(2, .int (nI 0)), (0, .ref 68), (1, .ref 0)]) dX3_load_1 rfl (by decide) rfl ?_
  refine ev_iconst dX3_load_2 (v := nI 0) (by decide) ?_
  refine ev_istore_n (lv' := [(3, .int (nI 0)), (2, .int (nI 0)), (0, .ref 68), (1, .ref 0)]) dX3_load_3 rfl (by decide) rfl ?_
  refine ev_iconst dX3_load_4 (v := nI 0) (by decide) ?_
  refine ev_istore (lv' := [(4, .int (nI 0)), (3, .int (nI 0)), (2, .int (nI 0)), (0, .ref 68), (1, .ref 0)]) dX3_load_5 (by decide) rfl ?_
  refine ev_lv (lv' := [(0, .ref 68), (1, .ref 0), (2, .int (nI 0)), (3, .int (nI 0)), (4, .int (nI 0))]) [3, 4, 2, 1, 0] rfl ?_
  refine ev_st (σ' := av_set (av_set σ 70 ((ld (σ 0 0) (σ 1) (σ 2) (σ 70) (σ 76) 0).2.2.1)) 76 ((ld (σ 0 0) (σ 1) (σ 2) (σ 70) (σ 76) 0).2.2.2)) (by show σ = av_set (av_set σ 70 (σ 70)) 76 (σ 76); rw [av_set_self, av_set_self]) ?_
  refine loop_up (fun k => av_Ev l RX3 cX3_load 7 (some .int) av_E0 4 7 [(0, .ref 68), (1, .ref 0), (2, .int (nI ((ld (σ 0 0) (σ 1) (σ 2) (σ 70) (σ 76) k).1))), (3, .int ((ld (σ 0 0) (σ 1) (σ 2) (σ 70) (σ 76) k).2.1)), (4, .int (nI k))] [] (av_set (av_set σ 70 ((ld (σ 0 0) (σ 1) (σ 2) (σ 70) (σ 76) k).2.2.1)) 76 ((ld (σ 0 0) (σ 1) (σ 2) (σ 70) (σ 76) k).2.2.2)) Q) 6 ?_ ?_
  · show av_Ev l RX3 cX3_load 7 (some .int) av_E0 4 7 [(0, .ref 68), (1, .ref 0), (2, .int (nI ((ld (σ 0 0) (σ 1) (σ 2) (σ 70) (σ 76) 6).1))), (3, .int ((ld (σ 0 0) (σ 1) (σ 2) (σ 70) (σ 76) 6).2.1)), (4, .int (nI 6))] [] (av_set (av_set σ 70 ((ld (σ 0 0) (σ 1) (σ 2) (σ 70) (σ 76) 6).2.2.1)) 76 ((ld (σ 0 0) (σ 1) (σ 2) (σ 70) (σ 76) 6).2.2.2)) Q
    refine ev_iload dX3_load_7 4 rfl ?_
    refine ev_bipush dX3_load_9 (v := nI 6) (by decide) ?_
    refine ev_ncmp_ge (tgt := 100) dX3_load_11 (by decide) (by omega) (by omega) (fun h11 => ?_) (fun h11 => ?_)
    · refine ev_iload_n dX3_load_100 rfl 2 rfl ?_
      exact ev_ireturn dX3_load_101 rfl rfl (leafI hQ rfl rfl)
    · exact absurd h11 (by omega)
  · intro k hk ihk
    show av_Ev l RX3 cX3_load 7 (some .int) av_E0 4 7 [(0, .ref 68), (1, .ref 0), (2, .int (nI ((ld (σ 0 0) (σ 1) (σ 2) (σ 70) (σ 76) k).1))), (3, .int ((ld (σ 0 0) (σ 1) (σ 2) (σ 70) (σ 76) k).2.1)), (4, .int (nI k))] [] (av_set (av_set σ 70 ((ld (σ 0 0) (σ 1) (σ 2) (σ 70) (σ 76) k).2.2.1)) 76 ((ld (σ 0 0) (σ 1) (σ 2) (σ 70) (σ 76) k).2.2.2)) Q
    have hle := ld_le (σ 0 0) (σ 1) (σ 2) (σ 70) (σ 76) k
    refine ev_iload dX3_load_7 4 rfl ?_
    refine ev_bipush dX3_load_9 (v := nI 6) (by decide) ?_
    refine ev_ncmp_ge (tgt := 100) dX3_load_11 (by decide) (by omega) (by omega) (fun h11 => ?_) (fun h11 => ?_)
    · exact absurd h11 (by omega)
    · refine ev_aload_n dX3_load_14 rfl 1 rfl ?_
      refine ev_iload dX3_load_15 4 rfl ?_
      refine ev_callVi (x := b2i (sv (σ 0 0) (nI k))) dX3_load_17 M_X3_38 Y_X4_hasServer [.int (nI k)] (c_X4_hasServer (nI k) ) (by decide) (Nat.le_of_ble_eq_true rfl) (by decide) sh_0 rfl rfl rfl (Nat.le_of_ble_eq_true rfl) ?_
      refine ev_ifb_eq (tgt := 94) dX3_load_20 (by decide) (fun h20 => ?_) (fun h20 => ?_)
      · refine ev_iinc (lv' := [(4, .int (nI (k + 1))), (0, .ref 68), (1, .ref 0), (2, .int (nI ((ld (σ 0 0) (σ 1) (σ 2) (σ 70) (σ 76) k).1))), (3, .int ((ld (σ 0 0) (σ 1) (σ 2) (σ 70) (σ 76) k).2.1))]) dX3_load_94 4 rfl (nI_inc k) (by decide) rfl ?_
        refine ev_goto (tgt := 7) dX3_load_97 (by decide) ?_
        refine ev_lv (lv' := [(0, .ref 68), (1, .ref 0), (2, .int (nI ((ld (σ 0 0) (σ 1) (σ 2) (σ 70) (σ 76) k).1))), (3, .int ((ld (σ 0 0) (σ 1) (σ 2) (σ 70) (σ 76) k).2.1)), (4, .int (nI (k + 1)))]) [1, 2, 3, 4, 0] rfl ?_
        have ih9 : av_Ev l RX3 cX3_load 7 (some .int) av_E0 4 7 [(0, .ref 68), (1, .ref 0), (2, .int (nI ((ld (σ 0 0) (σ 1) (σ 2) (σ 70) (σ 76) (k + 1)).1))), (3, .int ((ld (σ 0 0) (σ 1) (σ 2) (σ 70) (σ 76) (k + 1)).2.1)), (4, .int (nI (k + 1)))] [] (av_set (av_set σ 70 ((ld (σ 0 0) (σ 1) (σ 2) (σ 70) (σ 76) (k + 1)).2.2.1)) 76 ((ld (σ 0 0) (σ 1) (σ 2) (σ 70) (σ 76) (k + 1)).2.2.2)) Q := ihk
        rw [show nI ((ld (σ 0 0) (σ 1) (σ 2) (σ 70) (σ 76) (k + 1)).1) = nI ((ld (σ 0 0) (σ 1) (σ 2) (σ 70) (σ 76) k).1) from (by show nI (ldF (σ 0 0) (σ 1) (σ 2) k (ld (σ 0 0) (σ 1) (σ 2) (σ 70) (σ 76) k)).1 = _; unfold ldF; simp only [h11, h20, Bool.not_true, Bool.not_false, Bool.and_true, Bool.true_and, Bool.and_false, Bool.false_and, cond_true, cond_false])] at ih9
        rw [show (ld (σ 0 0) (σ 1) (σ 2) (σ 70) (σ 76) (k + 1)).2.1 = (ld (σ 0 0) (σ 1) (σ 2) (σ 70) (σ 76) k).2.1 from (by show  (ldF (σ 0 0) (σ 1) (σ 2) k (ld (σ 0 0) (σ 1) (σ 2) (σ 70) (σ 76) k)).2.1 = _; unfold ldF; simp only [h11, h20, Bool.not_true, Bool.not_false, Bool.and_true, Bool.true_and, Bool.and_false, Bool.false_and, cond_true, cond_false])] at ih9
        rw [show av_set (av_set σ 70 ((ld (σ 0 0) (σ 1) (σ 2) (σ 70) (σ 76) (k + 1)).2.2.1)) 76 ((ld (σ 0 0) (σ 1) (σ 2) (σ 70) (σ 76) (k + 1)).2.2.2) = av_set (av_set σ 70 ((ld (σ 0 0) (σ 1) (σ 2) (σ 70) (σ 76) k).2.2.1)) 76 ((ld (σ 0 0) (σ 1) (σ 2) (σ 70) (σ 76) k).2.2.2) from (by show av_set (av_set σ 70 (ldF (σ 0 0) (σ 1) (σ 2) k (ld (σ 0 0) (σ 1) (σ 2) (σ 70) (σ 76) k)).2.2.1) 76 (ldF (σ 0 0) (σ 1) (σ 2) k (ld (σ 0 0) (σ 1) (σ 2) (σ 70) (σ 76) k)).2.2.2 = _; unfold ldF; simp only [h11, h20, Bool.not_true, Bool.not_false, Bool.and_true, Bool.true_and, Bool.and_false, Bool.false_and, cond_true, cond_false] <;> rfl)] at ih9
        exact ih9
      · refine ev_iload_n dX3_load_23 rfl 3 rfl ?_
        refine ev_iload dX3_load_24 4 rfl ?_
        refine ev_callSi (x := b2i (tb ((ld (σ 0 0) (σ 1) (σ 2) (σ 70) (σ 76) k).2.1) k)) dX3_load_26 (Or.inr M_X3_44) Y_X5_hasBit [.int ((ld (σ 0 0) (σ 1) (σ 2) (σ 70) (σ 76) k).2.1), .int (nI k)] (c_X5_hasBit ((ld (σ 0 0) (σ 1) (σ 2) (σ 70) (σ 76) k).2.1) k (by omega)) (by decide) (Nat.le_of_ble_eq_true rfl) rfl rfl (Nat.le_of_ble_eq_true rfl) ?_
        refine ev_ifb_ne (tgt := 94) dX3_load_29 (by decide) (fun h29 => ?_) (fun h29 => ?_)
        · refine ev_iinc (lv' := [(4, .int (nI (k + 1))), (0, .ref 68), (1, .ref 0), (2, .int (nI ((ld (σ 0 0) (σ 1) (σ 2) (σ 70) (σ 76) k).1))), (3, .int ((ld (σ 0 0) (σ 1) (σ 2) (σ 70) (σ 76) k).2.1))]) dX3_load_94 4 rfl (nI_inc k) (by decide) rfl ?_
          refine ev_goto (tgt := 7) dX3_load_97 (by decide) ?_
          refine ev_lv (lv' := [(0, .ref 68), (1, .ref 0), (2, .int (nI ((ld (σ 0 0) (σ 1) (σ 2) (σ 70) (σ 76) k).1))), (3, .int ((ld (σ 0 0) (σ 1) (σ 2) (σ 70) (σ 76) k).2.1)), (4, .int (nI (k + 1)))]) [1, 2, 3, 4, 0] rfl ?_
          have ih9 : av_Ev l RX3 cX3_load 7 (some .int) av_E0 4 7 [(0, .ref 68), (1, .ref 0), (2, .int (nI ((ld (σ 0 0) (σ 1) (σ 2) (σ 70) (σ 76) (k + 1)).1))), (3, .int ((ld (σ 0 0) (σ 1) (σ 2) (σ 70) (σ 76) (k + 1)).2.1)), (4, .int (nI (k + 1)))] [] (av_set (av_set σ 70 ((ld (σ 0 0) (σ 1) (σ 2) (σ 70) (σ 76) (k + 1)).2.2.1)) 76 ((ld (σ 0 0) (σ 1) (σ 2) (σ 70) (σ 76) (k + 1)).2.2.2)) Q := ihk
          rw [show nI ((ld (σ 0 0) (σ 1) (σ 2) (σ 70) (σ 76) (k + 1)).1) = nI ((ld (σ 0 0) (σ 1) (σ 2) (σ 70) (σ 76) k).1) from (by show nI (ldF (σ 0 0) (σ 1) (σ 2) k (ld (σ 0 0) (σ 1) (σ 2) (σ 70) (σ 76) k)).1 = _; unfold ldF; simp only [h11, h20, h29, Bool.not_true, Bool.not_false, Bool.and_true, Bool.true_and, Bool.and_false, Bool.false_and, cond_true, cond_false])] at ih9
          rw [show (ld (σ 0 0) (σ 1) (σ 2) (σ 70) (σ 76) (k + 1)).2.1 = (ld (σ 0 0) (σ 1) (σ 2) (σ 70) (σ 76) k).2.1 from (by show  (ldF (σ 0 0) (σ 1) (σ 2) k (ld (σ 0 0) (σ 1) (σ 2) (σ 70) (σ 76) k)).2.1 = _; unfold ldF; simp only [h11, h20, h29, Bool.not_true, Bool.not_false, Bool.and_true, Bool.true_and, Bool.and_false, Bool.false_and, cond_true, cond_false])] at ih9
          rw [show av_set (av_set σ 70 ((ld (σ 0 0) (σ 1) (σ 2) (σ 70) (σ 76) (k + 1)).2.2.1)) 76 ((ld (σ 0 0) (σ 1) (σ 2) (σ 70) (σ 76) (k + 1)).2.2.2) = av_set (av_set σ 70 ((ld (σ 0 0) (σ 1) (σ 2) (σ 70) (σ 76) k).2.2.1)) 76 ((ld (σ 0 0) (σ 1) (σ 2) (σ 70) (σ 76) k).2.2.2) from (by show av_set (av_set σ 70 (ldF (σ 0 0) (σ 1) (σ 2) k (ld (σ 0 0) (σ 1) (σ 2) (σ 70) (σ 76) k)).2.2.1) 76 (ldF (σ 0 0) (σ 1) (σ 2) k (ld (σ 0 0) (σ 1) (σ 2) (σ 70) (σ 76) k)).2.2.2 = _; unfold ldF; simp only [h11, h20, h29, Bool.not_true, Bool.not_false, Bool.and_true, Bool.true_and, Bool.and_false, Bool.false_and, cond_true, cond_false] <;> rfl)] at ih9
          exact ih9
        · refine ev_aload_n dX3_load_32 rfl 1 rfl ?_
          refine ev_iload dX3_load_33 4 rfl ?_
          refine ev_callVi (x := net (σ 1) k) dX3_load_35 M_X3_48 Y_X4_networkOf [.int (nI k)] (c_X4_networkOf k (by omega)) (by decide) (Nat.le_of_ble_eq_true rfl) (by decide) sh_0 rfl rfl rfl (Nat.le_of_ble_eq_true rfl) ?_
          refine ev_istore (lv' := [(5, .int (net (σ 1) k)), (0, .ref 68), (1, .ref 0), (2, .int (nI ((ld (σ 0 0) (σ 1) (σ 2) (σ 70) (σ 76) k).1))), (3, .int ((ld (σ 0 0) (σ 1) (σ 2) (σ 70) (σ 76) k).2.1)), (4, .int (nI k))]) dX3_load_38 (by decide) rfl ?_
          refine ev_iconst dX3_load_40 (v := nI 0) (by decide) ?_
          refine ev_istore (lv' := [(6, .int (nI 0)), (5, .int (net (σ 1) k)), (0, .ref 68), (1, .ref 0), (2, .int (nI ((ld (σ 0 0) (σ 1) (σ 2) (σ 70) (σ 76) k).1))), (3, .int ((ld (σ 0 0) (σ 1) (σ 2) (σ 70) (σ 76) k).2.1)), (4, .int (nI k))]) dX3_load_41 (by decide) rfl ?_
          refine ev_lv (lv' := [(0, .ref 68), (1, .ref 0), (2, .int (nI ((ld (σ 0 0) (σ 1) (σ 2) (σ 70) (σ 76) k).1))), (3, .int ((ld (σ 0 0) (σ 1) (σ 2) (σ 70) (σ 76) k).2.1)), (4, .int (nI k)), (5, .int (net (σ 1) k)), (6, .int (nI 0))]) [2, 3, 4, 5, 6, 1, 0] rfl ?_
          refine ev_st (σ' := av_set (av_set σ 70 (fo 0 (fun n G => upd G ((ld (σ 0 0) (σ 1) (σ 2) (σ 70) (σ 76) k).1 * 10 + n) (tn (σ 2) (net (σ 1) k) n)) (ld (σ 0 0) (σ 1) (σ 2) (σ 70) (σ 76) k).2.2.1)) 76 ((ld (σ 0 0) (σ 1) (σ 2) (σ 70) (σ 76) k).2.2.2)) rfl ?_
          refine loop_up (fun k2 => av_Ev l RX3 cX3_load 7 (some .int) av_E0 4 43 [(0, .ref 68), (1, .ref 0), (2, .int (nI ((ld (σ 0 0) (σ 1) (σ 2) (σ 70) (σ 76) k).1))), (3, .int ((ld (σ 0 0) (σ 1) (σ 2) (σ 70) (σ 76) k).2.1)), (4, .int (nI k)), (5, .int (net (σ 1) k)), (6, .int (nI k2))] [] (av_set (av_set σ 70 (fo k2 (fun n G => upd G ((ld (σ 0 0) (σ 1) (σ 2) (σ 70) (σ 76) k).1 * 10 + n) (tn (σ 2) (net (σ 1) k) n)) (ld (σ 0 0) (σ 1) (σ 2) (σ 70) (σ 76) k).2.2.1)) 76 ((ld (σ 0 0) (σ 1) (σ 2) (σ 70) (σ 76) k).2.2.2)) Q) 10 ?_ ?_
          · show av_Ev l RX3 cX3_load 7 (some .int) av_E0 4 43 [(0, .ref 68), (1, .ref 0), (2, .int (nI ((ld (σ 0 0) (σ 1) (σ 2) (σ 70) (σ 76) k).1))), (3, .int ((ld (σ 0 0) (σ 1) (σ 2) (σ 70) (σ 76) k).2.1)), (4, .int (nI k)), (5, .int (net (σ 1) k)), (6, .int (nI 10))] [] (av_set (av_set σ 70 (fo 10 (fun n G => upd G ((ld (σ 0 0) (σ 1) (σ 2) (σ 70) (σ 76) k).1 * 10 + n) (tn (σ 2) (net (σ 1) k) n)) (ld (σ 0 0) (σ 1) (σ 2) (σ 70) (σ 76) k).2.2.1)) 76 ((ld (σ 0 0) (σ 1) (σ 2) (σ 70) (σ 76) k).2.2.2)) Q
            refine ev_iload dX3_load_43 6 rfl ?_
            refine ev_bipush dX3_load_45 (v := nI 10) (by decide) ?_
            refine ev_ncmp_ge (tgt := 78) dX3_load_47 (by decide) (by omega) (by omega) (fun h47 => ?_) (fun h47 => ?_)
            · refine ev_aload_n dX3_load_78 rfl 0 rfl ?_
              refine ev_getR dX3_load_79 C_X3 L_X3_16 (by decide) (by decide) sh_68 rfl ?_
              refine ev_iload_n dX3_load_82 rfl 2 rfl ?_
              refine ev_iload dX3_load_83 4 rfl ?_
              refine ev_iast (e := (ld (σ 0 0) (σ 1) (σ 2) (σ 70) (σ 76) k).1) dX3_load_85 (by decide) sh_76 (by omega) (by decide) ?_
              refine ev_st (σ' := av_set (av_set σ 70 (fo 10 (fun n G => upd G ((ld (σ 0 0) (σ 1) (σ 2) (σ 70) (σ 76) k).1 * 10 + n) (tn (σ 2) (net (σ 1) k) n)) (ld (σ 0 0) (σ 1) (σ 2) (σ 70) (σ 76) k).2.2.1)) 76 (upd ((ld (σ 0 0) (σ 1) (σ 2) (σ 70) (σ 76) k).2.2.2) ((ld (σ 0 0) (σ 1) (σ 2) (σ 70) (σ 76) k).1) (nI k))) (by first | rfl | (funext a; by_cases q70 : a = 70; (next => subst q70; rfl); by_cases q76 : a = 76; (next => subst q76; rfl); simp only [av_set, q70, q76, if_false]) | exact av_set_set _ _ _ _ | (funext a; unfold av_set; (repeat' split) <;> first | rfl | (exfalso; omega)) | (funext a; simp only [av_set, cpS]; (repeat' split) <;> first | rfl | (exfalso; omega))) ?_
              refine ev_iinc (lv' := [(2, .int (nI ((ld (σ 0 0) (σ 1) (σ 2) (σ 70) (σ 76) k).1 + 1))), (0, .ref 68), (1, .ref 0), (3, .int ((ld (σ 0 0) (σ 1) (σ 2) (σ 70) (σ 76) k).2.1)), (4, .int (nI k)), (5, .int (net (σ 1) k)), (6, .int (nI 10))]) dX3_load_86 2 rfl (nI_inc ((ld (σ 0 0) (σ 1) (σ 2) (σ 70) (σ 76) k).1)) (by decide) rfl ?_
              refine ev_iload_n dX3_load_89 rfl 3 rfl ?_
              refine ev_iload dX3_load_90 5 rfl ?_
              refine ev_ior dX3_load_92 ?_
              refine ev_istore_n (lv' := [(3, .int (((ld (σ 0 0) (σ 1) (σ 2) (σ 70) (σ 76) k).2.1) ||| (net (σ 1) k))), (2, .int (nI ((ld (σ 0 0) (σ 1) (σ 2) (σ 70) (σ 76) k).1 + 1))), (0, .ref 68), (1, .ref 0), (4, .int (nI k)), (5, .int (net (σ 1) k)), (6, .int (nI 10))]) dX3_load_93 rfl (by decide) rfl ?_
              refine ev_iinc (lv' := [(4, .int (nI (k + 1))), (3, .int (((ld (σ 0 0) (σ 1) (σ 2) (σ 70) (σ 76) k).2.1) ||| (net (σ 1) k))), (2, .int (nI ((ld (σ 0 0) (σ 1) (σ 2) (σ 70) (σ 76) k).1 + 1))), (0, .ref 68), (1, .ref 0), (5, .int (net (σ 1) k)), (6, .int (nI 10))]) dX3_load_94 4 rfl (nI_inc k) (by decide) rfl ?_
              refine ev_goto (tgt := 7) dX3_load_97 (by decide) ?_
              refine ev_lv (lv' := [(0, .ref 68), (1, .ref 0), (2, .int (nI ((ld (σ 0 0) (σ 1) (σ 2) (σ 70) (σ 76) k).1 + 1))), (3, .int (((ld (σ 0 0) (σ 1) (σ 2) (σ 70) (σ 76) k).2.1) ||| (net (σ 1) k))), (4, .int (nI (k + 1)))]) [3, 4, 2, 1, 0] rfl ?_
              have ih9 : av_Ev l RX3 cX3_load 7 (some .int) av_E0 4 7 [(0, .ref 68), (1, .ref 0), (2, .int (nI ((ld (σ 0 0) (σ 1) (σ 2) (σ 70) (σ 76) (k + 1)).1))), (3, .int ((ld (σ 0 0) (σ 1) (σ 2) (σ 70) (σ 76) (k + 1)).2.1)), (4, .int (nI (k + 1)))] [] (av_set (av_set σ 70 ((ld (σ 0 0) (σ 1) (σ 2) (σ 70) (σ 76) (k + 1)).2.2.1)) 76 ((ld (σ 0 0) (σ 1) (σ 2) (σ 70) (σ 76) (k + 1)).2.2.2)) Q := ihk
              rw [show nI ((ld (σ 0 0) (σ 1) (σ 2) (σ 70) (σ 76) (k + 1)).1) = nI ((ld (σ 0 0) (σ 1) (σ 2) (σ 70) (σ 76) k).1 + 1) from (by show nI (ldF (σ 0 0) (σ 1) (σ 2) k (ld (σ 0 0) (σ 1) (σ 2) (σ 70) (σ 76) k)).1 = _; unfold ldF; simp only [h11, h20, h29, h47, Bool.not_true, Bool.not_false, Bool.and_true, Bool.true_and, Bool.and_false, Bool.false_and, cond_true, cond_false])] at ih9
              rw [show (ld (σ 0 0) (σ 1) (σ 2) (σ 70) (σ 76) (k + 1)).2.1 = ((ld (σ 0 0) (σ 1) (σ 2) (σ 70) (σ 76) k).2.1) ||| (net (σ 1) k) from (by show  (ldF (σ 0 0) (σ 1) (σ 2) k (ld (σ 0 0) (σ 1) (σ 2) (σ 70) (σ 76) k)).2.1 = _; unfold ldF; simp only [h11, h20, h29, h47, Bool.not_true, Bool.not_false, Bool.and_true, Bool.true_and, Bool.and_false, Bool.false_and, cond_true, cond_false])] at ih9
              rw [show av_set (av_set σ 70 ((ld (σ 0 0) (σ 1) (σ 2) (σ 70) (σ 76) (k + 1)).2.2.1)) 76 ((ld (σ 0 0) (σ 1) (σ 2) (σ 70) (σ 76) (k + 1)).2.2.2) = av_set (av_set σ 70 (fo 10 (fun n G => upd G ((ld (σ 0 0) (σ 1) (σ 2) (σ 70) (σ 76) k).1 * 10 + n) (tn (σ 2) (net (σ 1) k) n)) (ld (σ 0 0) (σ 1) (σ 2) (σ 70) (σ 76) k).2.2.1)) 76 (upd ((ld (σ 0 0) (σ 1) (σ 2) (σ 70) (σ 76) k).2.2.2) ((ld (σ 0 0) (σ 1) (σ 2) (σ 70) (σ 76) k).1) (nI k)) from (by show av_set (av_set σ 70 (ldF (σ 0 0) (σ 1) (σ 2) k (ld (σ 0 0) (σ 1) (σ 2) (σ 70) (σ 76) k)).2.2.1) 76 (ldF (σ 0 0) (σ 1) (σ 2) k (ld (σ 0 0) (σ 1) (σ 2) (σ 70) (σ 76) k)).2.2.2 = _; unfold ldF; simp only [h11, h20, h29, h47, Bool.not_true, Bool.not_false, Bool.and_true, Bool.true_and, Bool.and_false, Bool.false_and, cond_true, cond_false] <;> rfl)] at ih9
              exact ih9
            · exact absurd h47 (by omega)
          · intro k2 hk2 ihk2
            show av_Ev l RX3 cX3_load 7 (some .int) av_E0 4 43 [(0, .ref 68), (1, .ref 0), (2, .int (nI ((ld (σ 0 0) (σ 1) (σ 2) (σ 70) (σ 76) k).1))), (3, .int ((ld (σ 0 0) (σ 1) (σ 2) (σ 70) (σ 76) k).2.1)), (4, .int (nI k)), (5, .int (net (σ 1) k)), (6, .int (nI k2))] [] (av_set (av_set σ 70 (fo k2 (fun n G => upd G ((ld (σ 0 0) (σ 1) (σ 2) (σ 70) (σ 76) k).1 * 10 + n) (tn (σ 2) (net (σ 1) k) n)) (ld (σ 0 0) (σ 1) (σ 2) (σ 70) (σ 76) k).2.2.1)) 76 ((ld (σ 0 0) (σ 1) (σ 2) (σ 70) (σ 76) k).2.2.2)) Q
            refine ev_iload dX3_load_43 6 rfl ?_
            refine ev_bipush dX3_load_45 (v := nI 10) (by decide) ?_
            refine ev_ncmp_ge (tgt := 78) dX3_load_47 (by decide) (by omega) (by omega) (fun h47 => ?_) (fun h47 => ?_)
            · exact absurd h47 (by omega)
            · refine ev_aload_n dX3_load_50 rfl 0 rfl ?_
              refine ev_getR dX3_load_51 C_X3 L_X3_11 (by decide) (by decide) sh_68 rfl ?_
              refine ev_iconst dX3_load_54 (v := nI 0) (by decide) ?_
              refine ev_aald (e := 0) (r := 70) dX3_load_55 (by decide) sh_69 (by decide) (by omega) (by decide) (by first | rfl | (show _ = _; omega)) ?_
              refine ev_iload_n dX3_load_56 rfl 2 rfl ?_
              refine ev_bipush dX3_load_57 (v := nI 10) (by decide) ?_
              refine ev_imul dX3_load_59 ?_
              refine ev_top (v := nI (((ld (σ 0 0) (σ 1) (σ 2) (σ 70) (σ 76) k).1) * 10)) (pk_mul _ _) ?_
              refine ev_iload dX3_load_60 6 rfl ?_
              refine ev_iadd dX3_load_62 ?_
              refine ev_top (v := nI (((ld (σ 0 0) (σ 1) (σ 2) (σ 70) (σ 76) k).1) * 10 + k2)) (nI_add _ _) ?_
              refine ev_aload_n dX3_load_63 rfl 1 rfl ?_
              refine ev_iload dX3_load_64 5 rfl ?_
              refine ev_iload dX3_load_66 6 rfl ?_
              refine ev_callVi (x := tn (σ 2) (net (σ 1) k) k2) dX3_load_68 M_X3_52 Y_X4_timeOfNick [.int (net (σ 1) k), .int (nI k2)] (c_X4_timeOfNick (net (σ 1) k) k2 (by omega)) (by decide) (Nat.le_of_ble_eq_true rfl) (by decide) sh_0 rfl rfl rfl (Nat.le_of_ble_eq_true rfl) ?_
              refine ev_iast (e := ((ld (σ 0 0) (σ 1) (σ 2) (σ 70) (σ 76) k).1) * 10 + k2) dX3_load_71 (by decide) sh_70 (by omega) (by decide) ?_
              refine ev_st (σ' := av_set (av_set σ 70 (upd (fo k2 (fun n G => upd G ((ld (σ 0 0) (σ 1) (σ 2) (σ 70) (σ 76) k).1 * 10 + n) (tn (σ 2) (net (σ 1) k) n)) (ld (σ 0 0) (σ 1) (σ 2) (σ 70) (σ 76) k).2.2.1) (((ld (σ 0 0) (σ 1) (σ 2) (σ 70) (σ 76) k).1) * 10 + k2) (tn (σ 2) (net (σ 1) k) k2))) 76 ((ld (σ 0 0) (σ 1) (σ 2) (σ 70) (σ 76) k).2.2.2)) (by first | rfl | (funext a; by_cases q70 : a = 70; (next => subst q70; rfl); by_cases q76 : a = 76; (next => subst q76; rfl); simp only [av_set, q70, q76, if_false]) | exact av_set_set _ _ _ _ | (funext a; unfold av_set; (repeat' split) <;> first | rfl | (exfalso; omega)) | (funext a; simp only [av_set, cpS]; (repeat' split) <;> first | rfl | (exfalso; omega))) ?_
              refine ev_iinc (lv' := [(6, .int (nI (k2 + 1))), (0, .ref 68), (1, .ref 0), (2, .int (nI ((ld (σ 0 0) (σ 1) (σ 2) (σ 70) (σ 76) k).1))), (3, .int ((ld (σ 0 0) (σ 1) (σ 2) (σ 70) (σ 76) k).2.1)), (4, .int (nI k)), (5, .int (net (σ 1) k))]) dX3_load_72 6 rfl (nI_inc k2) (by decide) rfl ?_
              refine ev_goto (tgt := 43) dX3_load_75 (by decide) ?_
              refine ev_lv (lv' := [(0, .ref 68), (1, .ref 0), (2, .int (nI ((ld (σ 0 0) (σ 1) (σ 2) (σ 70) (σ 76) k).1))), (3, .int ((ld (σ 0 0) (σ 1) (σ 2) (σ 70) (σ 76) k).2.1)), (4, .int (nI k)), (5, .int (net (σ 1) k)), (6, .int (nI (k2 + 1)))]) [1, 2, 3, 4, 5, 6, 0] rfl ?_
              have ih9 : av_Ev l RX3 cX3_load 7 (some .int) av_E0 4 43 [(0, .ref 68), (1, .ref 0), (2, .int (nI ((ld (σ 0 0) (σ 1) (σ 2) (σ 70) (σ 76) k).1))), (3, .int ((ld (σ 0 0) (σ 1) (σ 2) (σ 70) (σ 76) k).2.1)), (4, .int (nI k)), (5, .int (net (σ 1) k)), (6, .int (nI (k2 + 1)))] [] (av_set (av_set σ 70 (fo (k2 + 1) (fun n G => upd G ((ld (σ 0 0) (σ 1) (σ 2) (σ 70) (σ 76) k).1 * 10 + n) (tn (σ 2) (net (σ 1) k) n)) (ld (σ 0 0) (σ 1) (σ 2) (σ 70) (σ 76) k).2.2.1)) 76 ((ld (σ 0 0) (σ 1) (σ 2) (σ 70) (σ 76) k).2.2.2)) Q := ihk2
              rw [show av_set (av_set σ 70 (fo (k2 + 1) (fun n G => upd G ((ld (σ 0 0) (σ 1) (σ 2) (σ 70) (σ 76) k).1 * 10 + n) (tn (σ 2) (net (σ 1) k) n)) (ld (σ 0 0) (σ 1) (σ 2) (σ 70) (σ 76) k).2.2.1)) 76 ((ld (σ 0 0) (σ 1) (σ 2) (σ 70) (σ 76) k).2.2.2) = av_set (av_set σ 70 (upd (fo k2 (fun n G => upd G ((ld (σ 0 0) (σ 1) (σ 2) (σ 70) (σ 76) k).1 * 10 + n) (tn (σ 2) (net (σ 1) k) n)) (ld (σ 0 0) (σ 1) (σ 2) (σ 70) (σ 76) k).2.2.1) (((ld (σ 0 0) (σ 1) (σ 2) (σ 70) (σ 76) k).1) * 10 + k2) (tn (σ 2) (net (σ 1) k) k2))) 76 ((ld (σ 0 0) (σ 1) (σ 2) (σ 70) (σ 76) k).2.2.2) from rfl] at ih9
              exact ih9

set_option maxRecDepth 100000 in
set_option maxHeartbeats 1000000 in
theorem c_X3_tryLinks_open {l : Launch} {σ : av_S} (m : Nat) (p : Nat) (N : Nat) (dd : Nat) (hd8 : 8 ≤ dd) (hp : p < 6) (hN : N ≤ 6) (hIH : ∀ {τ : av_S} (N1 : Nat), N1 ≤ 6 → av_M l RX3 cX3_search 4 none dd [.ref 68, .int (nI (p + 1)), .int (nI N1)] τ none (srch m (p + 1) N1 τ)) : av_M l RX3 cX3_tryLinks 5 none (dd + 1) [.ref 68, .int (nI p), .int (nI N)] σ none (lnks (srch m (p + 1) (N - 1)) p N σ) := by
  intro Q hQ
  show av_Ev l RX3 cX3_tryLinks 5 none av_E0 (dd + 1) 0 [(0, .ref 68), (1, .int (nI p)), (2, .int (nI N))] [] σ Q
  refine ev_iconst dX3_tryLinks_0 (v := nI 0) (by decide) ?_
  refine ev_istore_n (lv' := [(3, .int (nI 0)), (0, .ref 68), (1, .int (nI p)), (2, .int (nI N))]) dX3_tryLinks_1 rfl (by decide) rfl ?_
  refine ev_lv (lv' := [(0, .ref 68), (1, .int (nI p)), (2, .int (nI N)), (3, .int (nI 0))]) [1, 2, 3, 0] rfl ?_
  refine ev_st (σ' := fo 0 (fun a s => lnkF (srch m (p + 1) (N - 1)) p N a s) σ) rfl ?_
  refine loop_up (fun a => av_Ev l RX3 cX3_tryLinks 5 none av_E0 (dd + 1) 2 [(0, .ref 68), (1, .int (nI p)), (2, .int (nI N)), (3, .int (nI a))] [] (fo a (fun a s => lnkF (srch m (p + 1) (N - 1)) p N a s) σ) Q) N ?_ ?_
  · show av_Ev l RX3 cX3_tryLinks 5 none av_E0 (dd + 1) 2 [(0, .ref 68), (1, .int (nI p)), (2, .int (nI N)), (3, .int (nI N))] [] (fo N (fun a s => lnkF (srch m (p + 1) (N - 1)) p N a s) σ) Q
    refine ev_iload_n dX3_tryLinks_2 rfl 3 rfl ?_
    refine ev_iload_n dX3_tryLinks_3 rfl 2 rfl ?_
    refine ev_ncmp_ge (tgt := 94) dX3_tryLinks_4 (by decide) (by omega) (by omega) (fun h4 => ?_) (fun h4 => ?_)
    · exact ev_return dX3_tryLinks_94 rfl (leafV hQ rfl)
    · exact absurd h4 (by omega)
  · intro a ha iha
    show av_Ev l RX3 cX3_tryLinks 5 none av_E0 (dd + 1) 2 [(0, .ref 68), (1, .int (nI p)), (2, .int (nI N)), (3, .int (nI a))] [] (fo a (fun a s => lnkF (srch m (p + 1) (N - 1)) p N a s) σ) Q
    refine ev_iload_n dX3_tryLinks_2 rfl 3 rfl ?_
    refine ev_iload_n dX3_tryLinks_3 rfl 2 rfl ?_
    refine ev_ncmp_ge (tgt := 94) dX3_tryLinks_4 (by decide) (by omega) (by omega) (fun h4 => ?_) (fun h4 => ?_)
    · exact absurd h4 (by omega)
    · refine ev_iload_n dX3_tryLinks_7 rfl 3 rfl ?_
      refine ev_iconst dX3_tryLinks_8 (v := nI 1) (by decide) ?_
      refine ev_iadd dX3_tryLinks_9 ?_
      refine ev_top (v := nI (a + 1)) (nI_add _ _) ?_
      refine ev_istore (lv' := [(4, .int (nI (a + 1))), (0, .ref 68), (1, .int (nI p)), (2, .int (nI N)), (3, .int (nI a))]) dX3_tryLinks_10 (by decide) rfl ?_
      refine ev_lv (lv' := [(0, .ref 68), (1, .int (nI p)), (2, .int (nI N)), (3, .int (nI a)), (4, .int (nI (a + 1)))]) [1, 2, 3, 4, 0] rfl ?_
      refine ev_st (σ' := fo 0 (fun j s => stpF (srch m (p + 1) (N - 1)) p N a (a + 1 + j) s) (fo a (fun a s => lnkF (srch m (p + 1) (N - 1)) p N a s) σ)) rfl ?_
      refine loop_up (fun j => av_Ev l RX3 cX3_tryLinks 5 none av_E0 (dd + 1) 12 [(0, .ref 68), (1, .int (nI p)), (2, .int (nI N)), (3, .int (nI a)), (4, .int (nI (a + 1 + j)))] [] (fo j (fun j s => stpF (srch m (p + 1) (N - 1)) p N a (a + 1 + j) s) (fo a (fun a s => lnkF (srch m (p + 1) (N - 1)) p N a s) σ)) Q) (N - (a + 1)) ?_ ?_
      · show av_Ev l RX3 cX3_tryLinks 5 none av_E0 (dd + 1) 12 [(0, .ref 68), (1, .int (nI p)), (2, .int (nI N)), (3, .int (nI a)), (4, .int (nI (a + 1 + (N - (a + 1)))))] [] (fo (N - (a + 1)) (fun j s => stpF (srch m (p + 1) (N - 1)) p N a (a + 1 + j) s) (fo a (fun a s => lnkF (srch m (p + 1) (N - 1)) p N a s) σ)) Q
        refine ev_iload dX3_tryLinks_12 4 rfl ?_
        refine ev_iload_n dX3_tryLinks_14 rfl 2 rfl ?_
        refine ev_ncmp_ge (tgt := 88) dX3_tryLinks_15 (by decide) (by omega) (by omega) (fun h15 => ?_) (fun h15 => ?_)
        · refine ev_iinc (lv' := [(3, .int (nI (a + 1))), (0, .ref 68), (1, .int (nI p)), (2, .int (nI N)), (4, .int (nI (a + 1 + (N - (a + 1)))))]) dX3_tryLinks_88 3 rfl (nI_inc a) (by decide) rfl ?_
          refine ev_goto (tgt := 2) dX3_tryLinks_91 (by decide) ?_
          refine ev_lv (lv' := [(0, .ref 68), (1, .int (nI p)), (2, .int (nI N)), (3, .int (nI (a + 1)))]) [1, 2, 3, 0] rfl ?_
          have ih9 : av_Ev l RX3 cX3_tryLinks 5 none av_E0 (dd + 1) 2 [(0, .ref 68), (1, .int (nI p)), (2, .int (nI N)), (3, .int (nI (a + 1)))] [] (fo (a + 1) (fun a s => lnkF (srch m (p + 1) (N - 1)) p N a s) σ) Q := iha
          rw [show fo (a + 1) (fun a s => lnkF (srch m (p + 1) (N - 1)) p N a s) σ = fo (N - (a + 1)) (fun j s => stpF (srch m (p + 1) (N - 1)) p N a (a + 1 + j) s) (fo a (fun a s => lnkF (srch m (p + 1) (N - 1)) p N a s) σ) from rfl] at ih9
          exact ih9
        · exact absurd h15 (by omega)
      · intro j hj ihj
        show av_Ev l RX3 cX3_tryLinks 5 none av_E0 (dd + 1) 12 [(0, .ref 68), (1, .int (nI p)), (2, .int (nI N)), (3, .int (nI a)), (4, .int (nI (a + 1 + j)))] [] (fo j (fun j s => stpF (srch m (p + 1) (N - 1)) p N a (a + 1 + j) s) (fo a (fun a s => lnkF (srch m (p + 1) (N - 1)) p N a s) σ)) Q
        refine ev_iload dX3_tryLinks_12 4 rfl ?_
        refine ev_iload_n dX3_tryLinks_14 rfl 2 rfl ?_
        refine ev_ncmp_ge (tgt := 88) dX3_tryLinks_15 (by decide) (by omega) (by omega) (fun h15 => ?_) (fun h15 => ?_)
        · exact absurd h15 (by omega)
        · refine ev_iload_n dX3_tryLinks_18 rfl 1 rfl ?_
          refine ev_nif_ne (tgt := 43) dX3_tryLinks_19 (by decide) (by omega) (fun h19 => ?_) (fun h19 => ?_)
          · refine ev_iload_n dX3_tryLinks_43 rfl 1 rfl ?_
            refine ev_iconst dX3_tryLinks_44 (v := nI 1) (by decide) ?_
            refine ev_iadd dX3_tryLinks_45 ?_
            refine ev_top (v := nI (p + 1)) (nI_add _ _) ?_
            refine ev_bipush dX3_tryLinks_46 (v := nI 6) (by decide) ?_
            refine ev_ncmp_ge (tgt := 82) dX3_tryLinks_48 (by decide) (by omega) (by omega) (fun h48 => ?_) (fun h48 => ?_)
            · refine ev_iinc (lv' := [(4, .int (nI (a + 1 + j + 1))), (0, .ref 68), (1, .int (nI p)), (2, .int (nI N)), (3, .int (nI a))]) dX3_tryLinks_82 4 rfl (nI_inc (a + 1 + j)) (by decide) rfl ?_
              refine ev_goto (tgt := 12) dX3_tryLinks_85 (by decide) ?_
              refine ev_lv (lv' := [(0, .ref 68), (1, .int (nI p)), (2, .int (nI N)), (3, .int (nI a)), (4, .int (nI (a + 1 + j + 1)))]) [1, 2, 3, 4, 0] rfl ?_
              have ih9 : av_Ev l RX3 cX3_tryLinks 5 none av_E0 (dd + 1) 12 [(0, .ref 68), (1, .int (nI p)), (2, .int (nI N)), (3, .int (nI a)), (4, .int (nI (a + 1 + (j + 1))))] [] (fo (j + 1) (fun j s => stpF (srch m (p + 1) (N - 1)) p N a (a + 1 + j) s) (fo a (fun a s => lnkF (srch m (p + 1) (N - 1)) p N a s) σ)) Q := ihj
              rw [show nI (a + 1 + (j + 1)) = nI (a + 1 + j + 1) from rfl] at ih9
              rw [show fo (j + 1) (fun j s => stpF (srch m (p + 1) (N - 1)) p N a (a + 1 + j) s) (fo a (fun a s => lnkF (srch m (p + 1) (N - 1)) p N a s) σ) = fo j (fun j s => stpF (srch m (p + 1) (N - 1)) p N a (a + 1 + j) s) (fo a (fun a s => lnkF (srch m (p + 1) (N - 1)) p N a s) σ) from (by show stpF (srch m (p + 1) (N - 1)) p N a (a + 1 + j) _ = _; first | (exfalso; omega) | rw [stpF_t (by omega), opn_t h19, mgd_68] | (rw [stpF_t (by omega), opn_f h19]; rfl) | rw [stpF_f (by omega), opn_t h19] | rw [stpF_f (by omega), opn_f h19])] at ih9
              exact ih9
            · refine ev_aload_n dX3_tryLinks_51 rfl 0 rfl ?_
              refine ev_getR dX3_tryLinks_52 C_X3 L_X3_11 (by decide) (by decide) sh_68 rfl ?_
              refine ev_iload_n dX3_tryLinks_55 rfl 1 rfl ?_
              refine ev_aald (e := p) (r := 70 + p) dX3_tryLinks_56 (by decide) sh_69 (by decide) (by omega) (by decide) (by first | rfl | (show _ = _; omega)) ?_
              refine ev_aload_n dX3_tryLinks_57 rfl 0 rfl ?_
              refine ev_getR dX3_tryLinks_58 C_X3 L_X3_11 (by decide) (by decide) sh_68 rfl ?_
              refine ev_iload_n dX3_tryLinks_61 rfl 1 rfl ?_
              refine ev_iconst dX3_tryLinks_62 (v := nI 1) (by decide) ?_
              refine ev_iadd dX3_tryLinks_63 ?_
              refine ev_top (v := nI (p + 1)) (nI_add _ _) ?_
              refine ev_aald (e := p + 1) (r := 70 + (p + 1)) dX3_tryLinks_64 (by decide) sh_69 (by decide) (by omega) (by decide) (by first | rfl | (show _ = _; omega)) ?_
              refine ev_iload_n dX3_tryLinks_65 rfl 2 rfl ?_
              refine ev_iload_n dX3_tryLinks_66 rfl 3 rfl ?_
              refine ev_iload dX3_tryLinks_67 4 rfl ?_
              refine ev_callSv dX3_tryLinks_69 (Or.inl M_X3_63) Y_X3_mergeRows [.ref (70 + p), .ref (70 + (p + 1)), .int (nI N), .int (nI a), .int (nI (a + 1 + j))] (c_X3_mergeRows p (p + 1) N a (a + 1 + j) (by omega) (by omega) (by omega) (by omega) (by omega) (by omega)) (by omega) (Nat.le_of_ble_eq_true rfl) rfl rfl (Nat.le_of_ble_eq_true rfl) ?_
              refine ev_st (σ' := av_set (fo j (fun j s => stpF (srch m (p + 1) (N - 1)) p N a (a + 1 + j) s) (fo a (fun a s => lnkF (srch m (p + 1) (N - 1)) p N a s) σ)) (70 + (p + 1)) (mrg ((fo j (fun j s => stpF (srch m (p + 1) (N - 1)) p N a (a + 1 + j) s) (fo a (fun a s => lnkF (srch m (p + 1) (N - 1)) p N a s) σ)) (70 + p)) ((fo j (fun j s => stpF (srch m (p + 1) (N - 1)) p N a (a + 1 + j) s) (fo a (fun a s => lnkF (srch m (p + 1) (N - 1)) p N a s) σ)) (70 + (p + 1))) N a (a + 1 + j))) (by first | rfl | exact av_set_set _ _ _ _ | (funext a; unfold av_set; (repeat' split) <;> first | rfl | (exfalso; omega)) | (funext a; simp only [av_set, cpS]; (repeat' split) <;> first | rfl | (exfalso; omega))) ?_
              refine ev_aload_n dX3_tryLinks_72 rfl 0 rfl ?_
              refine ev_iload_n dX3_tryLinks_73 rfl 1 rfl ?_
              refine ev_iconst dX3_tryLinks_74 (v := nI 1) (by decide) ?_
              refine ev_iadd dX3_tryLinks_75 ?_
              refine ev_top (v := nI (p + 1)) (nI_add _ _) ?_
              refine ev_iload_n dX3_tryLinks_76 rfl 2 rfl ?_
              refine ev_iconst dX3_tryLinks_77 (v := nI 1) (by decide) ?_
              refine ev_isub dX3_tryLinks_78 ?_
              refine ev_top (v := nI (N - 1)) (pk_sub (by omega)) ?_
              refine ev_callVv (σ' := srch m (p + 1) (N - 1) (av_set (fo j (fun j s => stpF (srch m (p + 1) (N - 1)) p N a (a + 1 + j) s) (fo a (fun a s => lnkF (srch m (p + 1) (N - 1)) p N a s) σ)) (70 + (p + 1)) (mrg ((fo j (fun j s => stpF (srch m (p + 1) (N - 1)) p N a (a + 1 + j) s) (fo a (fun a s => lnkF (srch m (p + 1) (N - 1)) p N a s) σ)) (70 + p)) ((fo j (fun j s => stpF (srch m (p + 1) (N - 1)) p N a (a + 1 + j) s) (fo a (fun a s => lnkF (srch m (p + 1) (N - 1)) p N a s) σ)) (70 + (p + 1))) N a (a + 1 + j)))) dX3_tryLinks_79 M_X3_34 Y_X3_search [.int (nI (p + 1)), .int (nI (N - 1))] (hIH (N - 1) (by omega)) (by omega) (Nat.le_of_ble_eq_true rfl) (by decide) sh_68 rfl rfl rfl (Nat.le_of_ble_eq_true rfl) ?_
              refine ev_iinc (lv' := [(4, .int (nI (a + 1 + j + 1))), (0, .ref 68), (1, .int (nI p)), (2, .int (nI N)), (3, .int (nI a))]) dX3_tryLinks_82 4 rfl (nI_inc (a + 1 + j)) (by decide) rfl ?_
              refine ev_goto (tgt := 12) dX3_tryLinks_85 (by decide) ?_
              refine ev_lv (lv' := [(0, .ref 68), (1, .int (nI p)), (2, .int (nI N)), (3, .int (nI a)), (4, .int (nI (a + 1 + j + 1)))]) [1, 2, 3, 4, 0] rfl ?_
              have ih9 : av_Ev l RX3 cX3_tryLinks 5 none av_E0 (dd + 1) 12 [(0, .ref 68), (1, .int (nI p)), (2, .int (nI N)), (3, .int (nI a)), (4, .int (nI (a + 1 + (j + 1))))] [] (fo (j + 1) (fun j s => stpF (srch m (p + 1) (N - 1)) p N a (a + 1 + j) s) (fo a (fun a s => lnkF (srch m (p + 1) (N - 1)) p N a s) σ)) Q := ihj
              rw [show nI (a + 1 + (j + 1)) = nI (a + 1 + j + 1) from rfl] at ih9
              rw [show fo (j + 1) (fun j s => stpF (srch m (p + 1) (N - 1)) p N a (a + 1 + j) s) (fo a (fun a s => lnkF (srch m (p + 1) (N - 1)) p N a s) σ) = srch m (p + 1) (N - 1) (av_set (fo j (fun j s => stpF (srch m (p + 1) (N - 1)) p N a (a + 1 + j) s) (fo a (fun a s => lnkF (srch m (p + 1) (N - 1)) p N a s) σ)) (70 + (p + 1)) (mrg ((fo j (fun j s => stpF (srch m (p + 1) (N - 1)) p N a (a + 1 + j) s) (fo a (fun a s => lnkF (srch m (p + 1) (N - 1)) p N a s) σ)) (70 + p)) ((fo j (fun j s => stpF (srch m (p + 1) (N - 1)) p N a (a + 1 + j) s) (fo a (fun a s => lnkF (srch m (p + 1) (N - 1)) p N a s) σ)) (70 + (p + 1))) N a (a + 1 + j))) from (by show stpF (srch m (p + 1) (N - 1)) p N a (a + 1 + j) _ = _; first | (exfalso; omega) | rw [stpF_t (by omega), opn_t h19, mgd_68] | (rw [stpF_t (by omega), opn_f h19]; rfl) | rw [stpF_f (by omega), opn_t h19] | rw [stpF_f (by omega), opn_f h19])] at ih9
              exact ih9
          · refine ev_aload_n dX3_tryLinks_22 rfl 0 rfl ?_
            refine ev_bipush dX3_tryLinks_23 (v := nI 10) (by decide) ?_
            refine ev_aload_n dX3_tryLinks_25 rfl 0 rfl ?_
            refine ev_getR dX3_tryLinks_26 C_X3 L_X3_16 (by decide) (by decide) sh_68 rfl ?_
            refine ev_iload_n dX3_tryLinks_29 rfl 3 rfl ?_
            refine ev_iald (e := a) (v := ((fo j (fun j s => stpF (srch m (p + 1) (N - 1)) p N a (a + 1 + j) s) (fo a (fun a s => lnkF (srch m (p + 1) (N - 1)) p N a s) σ)) 76) a) dX3_tryLinks_30 (by decide) sh_76 (by omega) (by decide) (by first | rfl | (simp only [av_set, cpS]; (repeat' split) <;> first | rfl | (exfalso; omega))) ?_
            refine ev_imul dX3_tryLinks_31 ?_
            refine ev_aload_n dX3_tryLinks_32 rfl 0 rfl ?_
            refine ev_getR dX3_tryLinks_33 C_X3 L_X3_16 (by decide) (by decide) sh_68 rfl ?_
            refine ev_iload dX3_tryLinks_36 4 rfl ?_
            refine ev_iald (e := a + 1 + j) (v := ((fo j (fun j s => stpF (srch m (p + 1) (N - 1)) p N a (a + 1 + j) s) (fo a (fun a s => lnkF (srch m (p + 1) (N - 1)) p N a s) σ)) 76) (a + 1 + j)) dX3_tryLinks_38 (by decide) sh_76 (by omega) (by decide) (by first | rfl | (simp only [av_set, cpS]; (repeat' split) <;> first | rfl | (exfalso; omega))) ?_
            refine ev_iadd dX3_tryLinks_39 ?_
            refine ev_putI dX3_tryLinks_40 C_X3 L_X3_20 (by decide) (by decide) sh_68 rfl rfl rfl ?_
            refine ev_st (σ' := av_set (fo j (fun j s => stpF (srch m (p + 1) (N - 1)) p N a (a + 1 + j) s) (fo a (fun a s => lnkF (srch m (p + 1) (N - 1)) p N a s) σ)) 68 (upd ((fo j (fun j s => stpF (srch m (p + 1) (N - 1)) p N a (a + 1 + j) s) (fo a (fun a s => lnkF (srch m (p + 1) (N - 1)) p N a s) σ)) 68) 2 (((nI 10) * (((fo j (fun j s => stpF (srch m (p + 1) (N - 1)) p N a (a + 1 + j) s) (fo a (fun a s => lnkF (srch m (p + 1) (N - 1)) p N a s) σ)) 76) a)) + (((fo j (fun j s => stpF (srch m (p + 1) (N - 1)) p N a (a + 1 + j) s) (fo a (fun a s => lnkF (srch m (p + 1) (N - 1)) p N a s) σ)) 76) (a + 1 + j))))) (by first | rfl | (funext a; by_cases q68 : a = 68; (next => subst q68; rfl); simp only [av_set, q68, if_false]) | exact av_set_set _ _ _ _ | (funext a; unfold av_set; (repeat' split) <;> first | rfl | (exfalso; omega)) | (funext a; simp only [av_set, cpS]; (repeat' split) <;> first | rfl | (exfalso; omega))) ?_
            refine ev_iload_n dX3_tryLinks_43 rfl 1 rfl ?_
            refine ev_iconst dX3_tryLinks_44 (v := nI 1) (by decide) ?_
            refine ev_iadd dX3_tryLinks_45 ?_
            refine ev_top (v := nI (p + 1)) (nI_add _ _) ?_
            refine ev_bipush dX3_tryLinks_46 (v := nI 6) (by decide) ?_
            refine ev_ncmp_ge (tgt := 82) dX3_tryLinks_48 (by decide) (by omega) (by omega) (fun h48 => ?_) (fun h48 => ?_)
            · refine ev_iinc (lv' := [(4, .int (nI (a + 1 + j + 1))), (0, .ref 68), (1, .int (nI p)), (2, .int (nI N)), (3, .int (nI a))]) dX3_tryLinks_82 4 rfl (nI_inc (a + 1 + j)) (by decide) rfl ?_
              refine ev_goto (tgt := 12) dX3_tryLinks_85 (by decide) ?_
              refine ev_lv (lv' := [(0, .ref 68), (1, .int (nI p)), (2, .int (nI N)), (3, .int (nI a)), (4, .int (nI (a + 1 + j + 1)))]) [1, 2, 3, 4, 0] rfl ?_
              have ih9 : av_Ev l RX3 cX3_tryLinks 5 none av_E0 (dd + 1) 12 [(0, .ref 68), (1, .int (nI p)), (2, .int (nI N)), (3, .int (nI a)), (4, .int (nI (a + 1 + (j + 1))))] [] (fo (j + 1) (fun j s => stpF (srch m (p + 1) (N - 1)) p N a (a + 1 + j) s) (fo a (fun a s => lnkF (srch m (p + 1) (N - 1)) p N a s) σ)) Q := ihj
              rw [show nI (a + 1 + (j + 1)) = nI (a + 1 + j + 1) from rfl] at ih9
              rw [show fo (j + 1) (fun j s => stpF (srch m (p + 1) (N - 1)) p N a (a + 1 + j) s) (fo a (fun a s => lnkF (srch m (p + 1) (N - 1)) p N a s) σ) = av_set (fo j (fun j s => stpF (srch m (p + 1) (N - 1)) p N a (a + 1 + j) s) (fo a (fun a s => lnkF (srch m (p + 1) (N - 1)) p N a s) σ)) 68 (upd ((fo j (fun j s => stpF (srch m (p + 1) (N - 1)) p N a (a + 1 + j) s) (fo a (fun a s => lnkF (srch m (p + 1) (N - 1)) p N a s) σ)) 68) 2 (((nI 10) * (((fo j (fun j s => stpF (srch m (p + 1) (N - 1)) p N a (a + 1 + j) s) (fo a (fun a s => lnkF (srch m (p + 1) (N - 1)) p N a s) σ)) 76) a)) + (((fo j (fun j s => stpF (srch m (p + 1) (N - 1)) p N a (a + 1 + j) s) (fo a (fun a s => lnkF (srch m (p + 1) (N - 1)) p N a s) σ)) 76) (a + 1 + j)))) from (by show stpF (srch m (p + 1) (N - 1)) p N a (a + 1 + j) _ = _; first | (exfalso; omega) | rw [stpF_t (by omega), opn_t h19, mgd_68] | (rw [stpF_t (by omega), opn_f h19]; rfl) | rw [stpF_f (by omega), opn_t h19] | rw [stpF_f (by omega), opn_f h19])] at ih9
              exact ih9
            · refine ev_aload_n dX3_tryLinks_51 rfl 0 rfl ?_
              refine ev_getR dX3_tryLinks_52 C_X3 L_X3_11 (by decide) (by decide) sh_68 rfl ?_
              refine ev_iload_n dX3_tryLinks_55 rfl 1 rfl ?_
              refine ev_aald (e := p) (r := 70 + p) dX3_tryLinks_56 (by decide) sh_69 (by decide) (by omega) (by decide) (by first | rfl | (show _ = _; omega)) ?_
              refine ev_aload_n dX3_tryLinks_57 rfl 0 rfl ?_
              refine ev_getR dX3_tryLinks_58 C_X3 L_X3_11 (by decide) (by decide) sh_68 rfl ?_
              refine ev_iload_n dX3_tryLinks_61 rfl 1 rfl ?_
              refine ev_iconst dX3_tryLinks_62 (v := nI 1) (by decide) ?_
              refine ev_iadd dX3_tryLinks_63 ?_
              refine ev_top (v := nI (p + 1)) (nI_add _ _) ?_
              refine ev_aald (e := p + 1) (r := 70 + (p + 1)) dX3_tryLinks_64 (by decide) sh_69 (by decide) (by omega) (by decide) (by first | rfl | (show _ = _; omega)) ?_
              refine ev_iload_n dX3_tryLinks_65 rfl 2 rfl ?_
              refine ev_iload_n dX3_tryLinks_66 rfl 3 rfl ?_
              refine ev_iload dX3_tryLinks_67 4 rfl ?_
              refine ev_callSv dX3_tryLinks_69 (Or.inl M_X3_63) Y_X3_mergeRows [.ref (70 + p), .ref (70 + (p + 1)), .int (nI N), .int (nI a), .int (nI (a + 1 + j))] (c_X3_mergeRows p (p + 1) N a (a + 1 + j) (by omega) (by omega) (by omega) (by omega) (by omega) (by omega)) (by omega) (Nat.le_of_ble_eq_true rfl) rfl rfl (Nat.le_of_ble_eq_true rfl) ?_
              refine ev_st (σ' := av_set (av_set (fo j (fun j s => stpF (srch m (p + 1) (N - 1)) p N a (a + 1 + j) s) (fo a (fun a s => lnkF (srch m (p + 1) (N - 1)) p N a s) σ)) 68 (upd ((fo j (fun j s => stpF (srch m (p + 1) (N - 1)) p N a (a + 1 + j) s) (fo a (fun a s => lnkF (srch m (p + 1) (N - 1)) p N a s) σ)) 68) 2 (((nI 10) * (((fo j (fun j s => stpF (srch m (p + 1) (N - 1)) p N a (a + 1 + j) s) (fo a (fun a s => lnkF (srch m (p + 1) (N - 1)) p N a s) σ)) 76) a)) + (((fo j (fun j s => stpF (srch m (p + 1) (N - 1)) p N a (a + 1 + j) s) (fo a (fun a s => lnkF (srch m (p + 1) (N - 1)) p N a s) σ)) 76) (a + 1 + j))))) (70 + (p + 1)) (mrg ((fo j (fun j s => stpF (srch m (p + 1) (N - 1)) p N a (a + 1 + j) s) (fo a (fun a s => lnkF (srch m (p + 1) (N - 1)) p N a s) σ)) (70 + p)) ((fo j (fun j s => stpF (srch m (p + 1) (N - 1)) p N a (a + 1 + j) s) (fo a (fun a s => lnkF (srch m (p + 1) (N - 1)) p N a s) σ)) (70 + (p + 1))) N a (a + 1 + j))) (by first | rfl | exact av_set_set _ _ _ _ | (funext a; unfold av_set; (repeat' split) <;> first | rfl | (exfalso; omega)) | (funext a; simp only [av_set, cpS]; (repeat' split) <;> first | rfl | (exfalso; omega))) ?_
              refine ev_aload_n dX3_tryLinks_72 rfl 0 rfl ?_
              refine ev_iload_n dX3_tryLinks_73 rfl 1 rfl ?_
              refine ev_iconst dX3_tryLinks_74 (v := nI 1) (by decide) ?_
              refine ev_iadd dX3_tryLinks_75 ?_
              refine ev_top (v := nI (p + 1)) (nI_add _ _) ?_
              refine ev_iload_n dX3_tryLinks_76 rfl 2 rfl ?_
              refine ev_iconst dX3_tryLinks_77 (v := nI 1) (by decide) ?_
              refine ev_isub dX3_tryLinks_78 ?_
              refine ev_top (v := nI (N - 1)) (pk_sub (by omega)) ?_
              refine ev_callVv (σ' := srch m (p + 1) (N - 1) (av_set (av_set (fo j (fun j s => stpF (srch m (p + 1) (N - 1)) p N a (a + 1 + j) s) (fo a (fun a s => lnkF (srch m (p + 1) (N - 1)) p N a s) σ)) 68 (upd ((fo j (fun j s => stpF (srch m (p + 1) (N - 1)) p N a (a + 1 + j) s) (fo a (fun a s => lnkF (srch m (p + 1) (N - 1)) p N a s) σ)) 68) 2 (((nI 10) * (((fo j (fun j s => stpF (srch m (p + 1) (N - 1)) p N a (a + 1 + j) s) (fo a (fun a s => lnkF (srch m (p + 1) (N - 1)) p N a s) σ)) 76) a)) + (((fo j (fun j s => stpF (srch m (p + 1) (N - 1)) p N a (a + 1 + j) s) (fo a (fun a s => lnkF (srch m (p + 1) (N - 1)) p N a s) σ)) 76) (a + 1 + j))))) (70 + (p + 1)) (mrg ((fo j (fun j s => stpF (srch m (p + 1) (N - 1)) p N a (a + 1 + j) s) (fo a (fun a s => lnkF (srch m (p + 1) (N - 1)) p N a s) σ)) (70 + p)) ((fo j (fun j s => stpF (srch m (p + 1) (N - 1)) p N a (a + 1 + j) s) (fo a (fun a s => lnkF (srch m (p + 1) (N - 1)) p N a s) σ)) (70 + (p + 1))) N a (a + 1 + j)))) dX3_tryLinks_79 M_X3_34 Y_X3_search [.int (nI (p + 1)), .int (nI (N - 1))] (hIH (N - 1) (by omega)) (by omega) (Nat.le_of_ble_eq_true rfl) (by decide) sh_68 rfl rfl rfl (Nat.le_of_ble_eq_true rfl) ?_
              refine ev_iinc (lv' := [(4, .int (nI (a + 1 + j + 1))), (0, .ref 68), (1, .int (nI p)), (2, .int (nI N)), (3, .int (nI a))]) dX3_tryLinks_82 4 rfl (nI_inc (a + 1 + j)) (by decide) rfl ?_
              refine ev_goto (tgt := 12) dX3_tryLinks_85 (by decide) ?_
              refine ev_lv (lv' := [(0, .ref 68), (1, .int (nI p)), (2, .int (nI N)), (3, .int (nI a)), (4, .int (nI (a + 1 + j + 1)))]) [1, 2, 3, 4, 0] rfl ?_
              have ih9 : av_Ev l RX3 cX3_tryLinks 5 none av_E0 (dd + 1) 12 [(0, .ref 68), (1, .int (nI p)), (2, .int (nI N)), (3, .int (nI a)), (4, .int (nI (a + 1 + (j + 1))))] [] (fo (j + 1) (fun j s => stpF (srch m (p + 1) (N - 1)) p N a (a + 1 + j) s) (fo a (fun a s => lnkF (srch m (p + 1) (N - 1)) p N a s) σ)) Q := ihj
              rw [show nI (a + 1 + (j + 1)) = nI (a + 1 + j + 1) from rfl] at ih9
              rw [show fo (j + 1) (fun j s => stpF (srch m (p + 1) (N - 1)) p N a (a + 1 + j) s) (fo a (fun a s => lnkF (srch m (p + 1) (N - 1)) p N a s) σ) = srch m (p + 1) (N - 1) (av_set (av_set (fo j (fun j s => stpF (srch m (p + 1) (N - 1)) p N a (a + 1 + j) s) (fo a (fun a s => lnkF (srch m (p + 1) (N - 1)) p N a s) σ)) 68 (upd ((fo j (fun j s => stpF (srch m (p + 1) (N - 1)) p N a (a + 1 + j) s) (fo a (fun a s => lnkF (srch m (p + 1) (N - 1)) p N a s) σ)) 68) 2 (((nI 10) * (((fo j (fun j s => stpF (srch m (p + 1) (N - 1)) p N a (a + 1 + j) s) (fo a (fun a s => lnkF (srch m (p + 1) (N - 1)) p N a s) σ)) 76) a)) + (((fo j (fun j s => stpF (srch m (p + 1) (N - 1)) p N a (a + 1 + j) s) (fo a (fun a s => lnkF (srch m (p + 1) (N - 1)) p N a s) σ)) 76) (a + 1 + j))))) (70 + (p + 1)) (mrg ((fo j (fun j s => stpF (srch m (p + 1) (N - 1)) p N a (a + 1 + j) s) (fo a (fun a s => lnkF (srch m (p + 1) (N - 1)) p N a s) σ)) (70 + p)) ((fo j (fun j s => stpF (srch m (p + 1) (N - 1)) p N a (a + 1 + j) s) (fo a (fun a s => lnkF (srch m (p + 1) (N - 1)) p N a s) σ)) (70 + (p + 1))) N a (a + 1 + j))) from (by show stpF (srch m (p + 1) (N - 1)) p N a (a + 1 + j) _ = _; first | (exfalso; omega) | rw [stpF_t (by omega), opn_t h19, mgd_68] | (rw [stpF_t (by omega), opn_f h19]; rfl) | rw [stpF_f (by omega), opn_t h19] | rw [stpF_f (by omega), opn_f h19])] at ih9
              exact ih9

set_option maxRecDepth 100000 in
set_option maxHeartbeats 1000000 in
theorem c_X3_search_open {l : Launch} {σ : av_S} (m : Nat) (p : Nat) (N : Nat) (dd : Nat) (hd8 : 8 ≤ dd) (hp : p < 6) (hN : N ≤ 6) (hT : 1 < N → av_M l RX3 cX3_tryLinks 5 none dd [.ref 68, .int (nI p), .int (nI N)] σ none (lnks (srch m (p + 1) (N - 1)) p N σ)) : av_M l RX3 cX3_search 4 none (dd + 1) [.ref 68, .int (nI p), .int (nI N)] σ none (srch (m + 1) p N σ) := by
  intro Q hQ
  show av_Ev l RX3 cX3_search 4 none av_E0 (dd + 1) 0 [(0, .ref 68), (1, .int (nI p)), (2, .int (nI N))] [] σ Q
  refine ev_iload_n dX3_search_0 rfl 1 rfl ?_
  refine ev_bipush dX3_search_1 (v := nI 6) (by decide) ?_
  refine ev_ncmp_lt (tgt := 7) dX3_search_3 (by decide) (by omega) (by omega) (fun h3 => ?_) (fun h3 => ?_)
  · refine ev_aload_n dX3_search_7 rfl 0 rfl ?_
    refine ev_getR dX3_search_8 C_X3 L_X3_11 (by decide) (by decide) sh_68 rfl ?_
    refine ev_iload_n dX3_search_11 rfl 1 rfl ?_
    refine ev_aald (e := p) (r := 70 + p) dX3_search_12 (by decide) sh_69 (by decide) (by omega) (by decide) (by first | rfl | (show _ = _; omega)) ?_
    refine ev_iload_n dX3_search_13 rfl 2 rfl ?_
    refine ev_callSi (x := nI (chp (σ (70 + p)) N)) dX3_search_14 (Or.inl M_X3_56) Y_X3_countHopes [.ref (70 + p), .int (nI N)] (c_X3_countHopes p N (by omega) (by omega)) (by omega) (Nat.le_of_ble_eq_true rfl) rfl rfl (Nat.le_of_ble_eq_true rfl) ?_
    refine ev_istore_n (lv' := [(3, .int (nI (chp (σ (70 + p)) N))), (0, .ref 68), (1, .int (nI p)), (2, .int (nI N))]) dX3_search_17 rfl (by decide) rfl ?_
    have hle := chp_le (σ (70 + p)) N
    refine ev_iload_n dX3_search_18 rfl 0 rfl ?_
    refine ev_aload_n dX3_search_19 rfl 1 rfl ?_
    refine ev_getI dX3_search_20 C_X3 L_X3_27 (by decide) (by decide) sh_68 rfl ?_
    refine ev_icmp_gt (tgt := 27) dX3_search_23 (by decide) (fun h23 => ?_) (fun h23 => ?_)
    · refine ev_iload_n dX3_search_27 rfl 3 rfl ?_
      refine ev_iconst dX3_search_28 (v := nI 1) (by decide) ?_
      refine ev_ncmp_le (tgt := 41) dX3_search_29 (by decide) (by omega) (by omega) (fun h29 => ?_) (fun h29 => ?_)
      · refine ev_aload_n dX3_search_41 rfl 1 rfl ?_
        refine ev_iload_n dX3_search_42 rfl 0 rfl ?_
        refine ev_putI dX3_search_43 C_X3 L_X3_27 (by decide) (by decide) sh_68 rfl rfl rfl ?_
        refine ev_aload_n dX3_search_46 rfl 1 rfl ?_
        refine ev_aload_n dX3_search_47 rfl 1 rfl ?_
        refine ev_getI dX3_search_48 C_X3 L_X3_20 (by decide) (by decide) sh_68 rfl ?_
        refine ev_top (v := σ 68 2) (by first | rfl | (simp only [av_set, cpS]; (repeat' split) <;> first | rfl | (exfalso; omega))) ?_
        refine ev_putI dX3_search_51 C_X3 L_X3_24 (by decide) (by decide) sh_68 rfl rfl rfl ?_
        refine ev_st (σ' := av_set σ 68 (upd (upd (σ 68) 4 (nI (chp (σ (70 + p)) N))) 3 (σ 68 2))) (by first | rfl | (funext a; by_cases q68 : a = 68; (next => subst q68; rfl); simp only [av_set, q68, if_false]) | exact av_set_set _ _ _ _ | (funext a; unfold av_set; (repeat' split) <;> first | rfl | (exfalso; omega)) | (funext a; simp only [av_set, cpS]; (repeat' split) <;> first | rfl | (exfalso; omega))) ?_
        exact ev_return dX3_search_54 rfl (leafV hQ (by unfold srch; rw [if_pos h23]; first | rw [if_pos h29] | rw [if_neg h29]))
      · refine ev_aload_n dX3_search_32 rfl 1 rfl ?_
        refine ev_iload_n dX3_search_33 rfl 2 rfl ?_
        refine ev_iload_n dX3_search_34 rfl 3 rfl ?_
        refine ev_callVv (σ' := lnks (srch m (p + 1) (N - 1)) p N σ) dX3_search_35 M_X3_60 Y_X3_tryLinks [.int (nI p), .int (nI N)] (hT (by omega)) (by omega) (Nat.le_of_ble_eq_true rfl) (by decide) sh_68 rfl rfl rfl (Nat.le_of_ble_eq_true rfl) ?_
        refine ev_goto (tgt := 54) dX3_search_38 (by decide) ?_
        exact ev_return dX3_search_54 rfl (leafV hQ (by unfold srch; rw [if_pos h23]; first | rw [if_pos h29] | rw [if_neg h29]))
    · exact ev_return dX3_search_26 rfl (leafV hQ (by unfold srch; rw [if_neg h23]))
  · exact absurd h3 (by omega)

/-- search, at any depth: the frames grow by two a level -/
theorem c_search_all {l : Launch} : ∀ (m p N : Nat) (σ : av_S), p + m = 6 → N ≤ 6 → av_M l RX3 cX3_search 4 none (10 + 2 * m) [.ref 68, .int (nI p), .int (nI N)] σ none (srch m p N σ)
  | 0, p, N, σ, hp, hN => by
    intro Q hQ
    show av_Ev l RX3 cX3_search 4 none av_E0 10 0 [(0, .ref 68), (1, .int (nI p)), (2, .int (nI N))] [] σ Q
    refine ev_iload_n dX3_search_0 rfl 1 rfl ?_
    refine ev_bipush dX3_search_1 (v := nI 6) (by decide) ?_
    refine ev_ncmp_lt (tgt := 7) dX3_search_3 (by decide) (by omega) (by omega) (fun h3 => ?_) (fun h3 => ?_)
    · exact absurd h3 (by omega)
    · exact ev_return dX3_search_6 rfl hQ
  | m + 1, p, N, σ, hp, hN =>
    av_M.mono (d' := 11 + 2 * m + 1) (by omega) (c_X3_search_open m p N (11 + 2 * m) (by omega) (by omega) hN (fun _ => av_M.mono (d' := 10 + 2 * m + 1) (by omega) (c_X3_tryLinks_open m p N (10 + 2 * m) (by omega) (by omega) hN (fun {τ} N1 h1 => c_search_all m (p + 1) N1 τ (by omega) h1))))
theorem c_X3_search {l : Launch} {σ : av_S} (N : Nat) (hN : N ≤ 6) : av_M l RX3 cX3_search 4 none 22 [.ref 68, .int (nI 0), .int (nI N)] σ none (srch 6 0 N σ) := c_search_all 6 0 N σ rfl hN
set_option maxRecDepth 100000 in
set_option maxHeartbeats 1000000 in
theorem c_X3_findBest {l : Launch} {σ : av_S}   : av_M l RX3 cX3_findBest 2 none 23 [.ref 68, .ref 0] σ none (fbS σ) := by
  intro Q hQ
  show av_Ev l RX3 cX3_findBest 2 none av_E0 23 0 [(0, .ref 68), (1, .ref 0)] [] σ Q
  refine ev_aload_n dX3_findBest_0 rfl 0 rfl ?_
  refine ev_bipush dX3_findBest_1 (v := (-9)) (by decide) ?_
  refine ev_putI dX3_findBest_3 C_X3 L_X3_20 (by decide) (by decide) sh_68 rfl rfl rfl ?_
  refine ev_aload_n dX3_findBest_6 rfl 0 rfl ?_
  refine ev_iconst dX3_findBest_7 (v := (-1)) (by decide) ?_
  refine ev_putI dX3_findBest_8 C_X3 L_X3_27 (by decide) (by decide) sh_68 rfl rfl rfl ?_
  refine ev_st (σ' := av_set σ 68 (upd (upd (σ 68) 2 (-9)) 4 (-1))) (by first | rfl | (funext a; by_cases q68 : a = 68; (next => subst q68; rfl); simp only [av_set, q68, if_false]) | exact av_set_set _ _ _ _ | (funext a; unfold av_set; (repeat' split) <;> first | rfl | (exfalso; omega)) | (funext a; simp only [av_set, cpS]; (repeat' split) <;> first | rfl | (exfalso; omega))) ?_
  refine ev_aload_n dX3_findBest_11 rfl 0 rfl ?_
  refine ev_iconst dX3_findBest_12 (v := nI 0) (by decide) ?_
  refine ev_aload_n dX3_findBest_13 rfl 0 rfl ?_
  refine ev_aload_n dX3_findBest_14 rfl 1 rfl ?_
  refine ev_callVi (x := nI ((ld (σ 0 0) (σ 1) (σ 2) (σ 70) (σ 76) 6).1)) dX3_findBest_15 M_X3_30 Y_X3_load [.ref 0] (c_X3_load  ) (by decide) (Nat.le_of_ble_eq_true rfl) (by decide) sh_68 rfl rfl rfl (Nat.le_of_ble_eq_true rfl) ?_
  refine ev_st (σ' := av_set (av_set (av_set σ 68 (upd (upd (σ 68) 2 (-9)) 4 (-1))) 70 ((ld (σ 0 0) (σ 1) (σ 2) (σ 70) (σ 76) 6).2.2.1)) 76 ((ld (σ 0 0) (σ 1) (σ 2) (σ 70) (σ 76) 6).2.2.2)) (by first | rfl | (funext a; by_cases q68 : a = 68; (next => subst q68; rfl); by_cases q70 : a = 70; (next => subst q70; rfl); by_cases q76 : a = 76; (next => subst q76; rfl); simp only [av_set, q68, q70, q76, if_false]) | exact av_set_set _ _ _ _ | (funext a; unfold av_set; (repeat' split) <;> first | rfl | (exfalso; omega)) | (funext a; simp only [av_set, cpS]; (repeat' split) <;> first | rfl | (exfalso; omega))) ?_
  have hle := ld_le (σ 0 0) (σ 1) (σ 2) (σ 70) (σ 76) 6
  refine ev_callVv (σ' := srch 6 0 ((ld (σ 0 0) (σ 1) (σ 2) (σ 70) (σ 76) 6).1) (av_set (av_set (av_set σ 68 (upd (upd (σ 68) 2 (-9)) 4 (-1))) 70 ((ld (σ 0 0) (σ 1) (σ 2) (σ 70) (σ 76) 6).2.2.1)) 76 ((ld (σ 0 0) (σ 1) (σ 2) (σ 70) (σ 76) 6).2.2.2))) dX3_findBest_18 M_X3_34 Y_X3_search [.int (nI 0), .int (nI ((ld (σ 0 0) (σ 1) (σ 2) (σ 70) (σ 76) 6).1))] (c_X3_search ((ld (σ 0 0) (σ 1) (σ 2) (σ 70) (σ 76) 6).1) (by omega)) (by decide) (Nat.le_of_ble_eq_true rfl) (by decide) sh_68 rfl rfl rfl (Nat.le_of_ble_eq_true rfl) ?_
  exact ev_return dX3_findBest_21 rfl (leafV hQ (fbS_raw σ))

set_option maxRecDepth 100000 in
set_option maxHeartbeats 1000000 in
theorem c_X5_fewestKills {l : Launch} {σ : av_S}   : av_M l RX5 cX5_fewestKills 1 (some .int) 24 [.ref 63] σ (some (.int (nI (cu (σ 2) (nI 63)) - fbS σ 68 4))) (fbS σ) := by
  intro Q hQ
  show av_Ev l RX5 cX5_fewestKills 1 (some .int) av_E0 24 0 [(0, .ref 63)] [] σ Q
  refine ev_aload_n dX5_fewestKills_0 rfl 0 rfl ?_
  refine ev_getR dX5_fewestKills_1 C_X5 L_X5_33 (by decide) (by decide) sh_63 rfl ?_
  refine ev_aload_n dX5_fewestKills_4 rfl 0 rfl ?_
  refine ev_getR dX5_fewestKills_5 C_X5 L_X5_12 (by decide) (by decide) sh_63 rfl ?_
  refine ev_callVv (σ' := fbS σ) dX5_fewestKills_8 M_X5_214 Y_X3_findBest [.ref 0] (c_X3_findBest  ) (by decide) (Nat.le_of_ble_eq_true rfl) (by decide) sh_68 rfl rfl rfl (Nat.le_of_ble_eq_true rfl) ?_
  refine ev_aload_n dX5_fewestKills_11 rfl 0 rfl ?_
  refine ev_getR dX5_fewestKills_12 C_X5 L_X5_12 (by decide) (by decide) sh_63 rfl ?_
  refine ev_bipush dX5_fewestKills_15 (v := nI 63) (by decide) ?_
  refine ev_callVi (x := nI (cu (σ 2) (nI 63))) dX5_fewestKills_17 M_X5_37 Y_X4_countUsers [.int (nI 63)] (c_X4_countUsers (nI 63) ) (by decide) (Nat.le_of_ble_eq_true rfl) (by decide) sh_0 rfl rfl rfl (Nat.le_of_ble_eq_true rfl) ?_
  refine ev_aload_n dX5_fewestKills_20 rfl 0 rfl ?_
  refine ev_getR dX5_fewestKills_21 C_X5 L_X5_33 (by decide) (by decide) sh_63 rfl ?_
  refine ev_getI dX5_fewestKills_24 C_X3 L_X5_217 (by decide) (by decide) sh_68 rfl ?_
  refine ev_top (v := (fbS σ 68) 4) (by first | rfl | (simp only [av_set, cpS]; (repeat' split) <;> first | rfl | (exfalso; omega))) ?_
  refine ev_isub dX5_fewestKills_27 ?_
  exact ev_ireturn dX5_fewestKills_28 rfl rfl (leafI hQ (by first | rfl | (simp []; done)) rfl)

set_option maxRecDepth 100000 in
set_option maxHeartbeats 1000000 in
theorem c_X5_bestFirstLink {l : Launch} {σ : av_S}   : av_M l RX5 cX5_bestFirstLink 1 (some .int) 24 [.ref 63] σ (some (.int (fbS σ 68 3))) (fbS σ) := by
  intro Q hQ
  show av_Ev l RX5 cX5_bestFirstLink 1 (some .int) av_E0 24 0 [(0, .ref 63)] [] σ Q
  refine ev_aload_n dX5_bestFirstLink_0 rfl 0 rfl ?_
  refine ev_getR dX5_bestFirstLink_1 C_X5 L_X5_33 (by decide) (by decide) sh_63 rfl ?_
  refine ev_aload_n dX5_bestFirstLink_4 rfl 0 rfl ?_
  refine ev_getR dX5_bestFirstLink_5 C_X5 L_X5_12 (by decide) (by decide) sh_63 rfl ?_
  refine ev_callVv (σ' := fbS σ) dX5_bestFirstLink_8 M_X5_214 Y_X3_findBest [.ref 0] (c_X3_findBest  ) (by decide) (Nat.le_of_ble_eq_true rfl) (by decide) sh_68 rfl rfl rfl (Nat.le_of_ble_eq_true rfl) ?_
  refine ev_aload_n dX5_bestFirstLink_11 rfl 0 rfl ?_
  refine ev_getR dX5_bestFirstLink_12 C_X5 L_X5_33 (by decide) (by decide) sh_63 rfl ?_
  refine ev_getI dX5_bestFirstLink_15 C_X3 L_X5_220 (by decide) (by decide) sh_68 rfl ?_
  refine ev_top (v := (fbS σ 68) 3) (by first | rfl | (simp only [av_set, cpS]; (repeat' split) <;> first | rfl | (exfalso; omega))) ?_
  exact ev_ireturn dX5_bestFirstLink_18 rfl rfl (leafI hQ (by first | rfl | (simp []; done)) rfl)

