/-! ===== History and Merge: contracts ===== -/
theorem cpS_raw {σ : av_S} {a b : Nat} (hab : a ≠ b) : av_set (av_set (av_set (av_set (av_set (av_set (av_set σ (7 * a) (upd (upd (upd (upd (σ (7 * a)) 0 ((σ (7 * b)) 0)) 1 ((σ (7 * b)) 1)) 2 ((σ (7 * b)) 2)) 3 ((σ (7 * b)) 3))) (7 * a + 1) (va_cpy (σ (7 * b + 1)) (σ (7 * a + 1)) 0 0 6)) (7 * a + 2) (va_cpy (σ (7 * b + 2)) (σ (7 * a + 2)) 0 0 60)) (7 * a + 3) (va_cpy (σ (7 * b + 3)) (σ (7 * a + 3)) 0 0 24)) (7 * a + 4) (va_cpy (σ (7 * b + 4)) (σ (7 * a + 4)) 0 0 24)) (7 * a + 5) (va_cpy (σ (7 * b + 5)) (σ (7 * a + 5)) 0 0 24)) (7 * a + 6) (va_cpy (σ (7 * b + 6)) (σ (7 * a + 6)) 0 0 24) = cpS σ a b := by
  funext c
  unfold cpS
  by_cases hc : 7 * a ≤ c ∧ c < 7 * a + 7
  · rw [if_pos hc]
    obtain ⟨r, hr, rfl⟩ : ∃ r, r < 7 ∧ c = 7 * a + r := ⟨c - 7 * a, by omega, by omega⟩
    rw [show 7 * a + r - 7 * a = r by omega]
    unfold av_set
    match r, hr with
    | 0, _ =>
      rw [if_neg (by omega), if_neg (by omega), if_neg (by omega), if_neg (by omega), if_neg (by omega), if_neg (by omega), if_pos (by omega)]
      funext i
      simp only [upd, cpN, Nat.add_zero, if_true]
      by_cases h3 : i = 3
      · subst h3; rfl
      · by_cases h2 : i = 2
        · subst h2; rfl
        · by_cases h1 : i = 1
          · subst h1; rfl
          · by_cases h0 : i = 0
            · subst h0; rfl
            · simp [h0, h1, h2, h3]; intro; omega
    | 1, _ => rw [if_neg (by omega), if_neg (by omega), if_neg (by omega), if_neg (by omega), if_neg (by omega), if_pos (by omega)]; funext i; simp [va_cpy, cpN]
    | 2, _ => rw [if_neg (by omega), if_neg (by omega), if_neg (by omega), if_neg (by omega), if_pos (by omega)]; funext i; simp [va_cpy, cpN]
    | 3, _ => rw [if_neg (by omega), if_neg (by omega), if_neg (by omega), if_pos (by omega)]; funext i; simp [va_cpy, cpN]
    | 4, _ => rw [if_neg (by omega), if_neg (by omega), if_pos (by omega)]; funext i; simp [va_cpy, cpN]
    | 5, _ => rw [if_neg (by omega), if_pos (by omega)]; funext i; simp [va_cpy, cpN]
    | 6, _ => rw [if_pos (by omega)]; funext i; simp [va_cpy, cpN]
    | r + 7, h => exact absurd h (by omega)
  · rw [if_neg hc]
    unfold av_set
    rw [if_neg (by omega), if_neg (by omega), if_neg (by omega), if_neg (by omega), if_neg (by omega), if_neg (by omega), if_neg (by omega)]
set_option maxRecDepth 100000 in
set_option maxHeartbeats 1000000 in
theorem c_X4_copyFrom {l : Launch} {σ : av_S} (a : Nat) (b : Nat) (ha : a < 9) (hb : b < 9) (hab : a ≠ b) : av_M l RX4 cX4_copyFrom 2 none 1 [.ref (7 * a), .ref (7 * b)] σ none (cpS σ a b) := by
  intro Q hQ
  show av_Ev l RX4 cX4_copyFrom 2 none av_E0 1 0 [(0, .ref (7 * a)), (1, .ref (7 * b))] [] σ Q
  refine ev_aload_n dX4_copyFrom_0 rfl 0 rfl ?_
  refine ev_aload_n dX4_copyFrom_1 rfl 1 rfl ?_
  refine ev_getI dX4_copyFrom_2 C_X4 L_X4_9 (by decide) (by omega) (sh_st (j := b) (by omega)) rfl ?_
  refine ev_putI dX4_copyFrom_5 C_X4 L_X4_9 (by decide) (by omega) (sh_st (j := a) (by omega)) rfl rfl rfl ?_
  refine ev_aload_n dX4_copyFrom_8 rfl 0 rfl ?_
  refine ev_aload_n dX4_copyFrom_9 rfl 1 rfl ?_
  refine ev_getI dX4_copyFrom_10 C_X4 L_X4_15 (by decide) (by omega) (sh_st (j := b) (by omega)) rfl ?_
  refine ev_top (v := (σ (7 * b)) 1) (by first | rfl | (simp only [av_set, cpS]; (repeat' split) <;> first | rfl | (exfalso; omega))) ?_
  refine ev_putI dX4_copyFrom_13 C_X4 L_X4_15 (by decide) (by omega) (sh_st (j := a) (by omega)) rfl rfl rfl ?_
  refine ev_st (σ' := av_set σ (7 * a) (upd (upd (σ (7 * a)) 0 ((σ (7 * b)) 0)) 1 ((σ (7 * b)) 1))) (by first | rfl | exact av_set_set _ _ _ _ | (funext a; unfold av_set; (repeat' split) <;> first | rfl | (exfalso; omega)) | (funext a; simp only [av_set, cpS]; (repeat' split) <;> first | rfl | (exfalso; omega))) ?_
  refine ev_aload_n dX4_copyFrom_16 rfl 0 rfl ?_
  refine ev_aload_n dX4_copyFrom_17 rfl 1 rfl ?_
  refine ev_getI dX4_copyFrom_18 C_X4 L_X4_18 (by decide) (by omega) (sh_st (j := b) (by omega)) rfl ?_
  refine ev_top (v := (σ (7 * b)) 2) (by first | rfl | (simp only [av_set, cpS]; (repeat' split) <;> first | rfl | (exfalso; omega))) ?_
  refine ev_putI dX4_copyFrom_21 C_X4 L_X4_18 (by decide) (by omega) (sh_st (j := a) (by omega)) rfl rfl rfl ?_
  refine ev_st (σ' := av_set σ (7 * a) (upd (upd (upd (σ (7 * a)) 0 ((σ (7 * b)) 0)) 1 ((σ (7 * b)) 1)) 2 ((σ (7 * b)) 2))) (by first | rfl | exact av_set_set _ _ _ _ | (funext a; unfold av_set; (repeat' split) <;> first | rfl | (exfalso; omega)) | (funext a; simp only [av_set, cpS]; (repeat' split) <;> first | rfl | (exfalso; omega))) ?_
  refine ev_aload_n dX4_copyFrom_24 rfl 0 rfl ?_
  refine ev_aload_n dX4_copyFrom_25 rfl 1 rfl ?_
  refine ev_getI dX4_copyFrom_26 C_X4 L_X4_21 (by decide) (by omega) (sh_st (j := b) (by omega)) rfl ?_
  refine ev_top (v := (σ (7 * b)) 3) (by first | rfl | (simp only [av_set, cpS]; (repeat' split) <;> first | rfl | (exfalso; omega))) ?_
  refine ev_putI dX4_copyFrom_29 C_X4 L_X4_21 (by decide) (by omega) (sh_st (j := a) (by omega)) rfl rfl rfl ?_
  refine ev_st (σ' := av_set σ (7 * a) (upd (upd (upd (upd (σ (7 * a)) 0 ((σ (7 * b)) 0)) 1 ((σ (7 * b)) 1)) 2 ((σ (7 * b)) 2)) 3 ((σ (7 * b)) 3))) (by first | rfl | exact av_set_set _ _ _ _ | (funext a; unfold av_set; (repeat' split) <;> first | rfl | (exfalso; omega)) | (funext a; simp only [av_set, cpS]; (repeat' split) <;> first | rfl | (exfalso; omega))) ?_
  refine ev_aload_n dX4_copyFrom_32 rfl 1 rfl ?_
  refine ev_getR dX4_copyFrom_33 C_X4 L_X4_24 (by decide) (by omega) (sh_st (j := b) (by omega)) rfl ?_
  refine ev_iconst dX4_copyFrom_36 (v := nI 0) (by decide) ?_
  refine ev_aload_n dX4_copyFrom_37 rfl 0 rfl ?_
  refine ev_getR dX4_copyFrom_38 C_X4 L_X4_24 (by decide) (by omega) (sh_st (j := a) (by omega)) rfl ?_
  refine ev_iconst dX4_copyFrom_41 (v := nI 0) (by decide) ?_
  refine ev_bipush dX4_copyFrom_42 (v := nI 6) (by decide) ?_
  refine ev_arraycopy dX4_copyFrom_44 M_X4_49 W_acopy (by decide) (Nat.le_of_ble_eq_true rfl) (by omega) (by omega) (sh_st1 (j := b) (by omega)) (sh_st1 (j := a) (by omega)) (nI_pos (by omega)) (nI_pos (by omega)) (nI_pos (by omega)) (by rw [nI_clamp (by omega), nI_clamp (by omega)]; omega) (by rw [nI_clamp (by omega), nI_clamp (by omega)]; omega) ?_
  rw [nI_clamp (show 0 < 2 ^ 31 by omega), nI_clamp (show 6 < 2 ^ 31 by omega)]
  refine ev_st (σ' := av_set (av_set σ (7 * a) (upd (upd (upd (upd (σ (7 * a)) 0 ((σ (7 * b)) 0)) 1 ((σ (7 * b)) 1)) 2 ((σ (7 * b)) 2)) 3 ((σ (7 * b)) 3))) (7 * a + 1) (va_cpy (σ (7 * b + 1)) (σ (7 * a + 1)) 0 0 6)) (by first | rfl | exact av_set_set _ _ _ _ | (funext a; unfold av_set; (repeat' split) <;> first | rfl | (exfalso; omega)) | (funext a; simp only [av_set, cpS]; (repeat' split) <;> first | rfl | (exfalso; omega))) ?_
  refine ev_aload_n dX4_copyFrom_47 rfl 1 rfl ?_
  refine ev_getR dX4_copyFrom_48 C_X4 L_X4_28 (by decide) (by omega) (sh_st (j := b) (by omega)) rfl ?_
  refine ev_iconst dX4_copyFrom_51 (v := nI 0) (by decide) ?_
  refine ev_aload_n dX4_copyFrom_52 rfl 0 rfl ?_
  refine ev_getR dX4_copyFrom_53 C_X4 L_X4_28 (by decide) (by omega) (sh_st (j := a) (by omega)) rfl ?_
  refine ev_iconst dX4_copyFrom_56 (v := nI 0) (by decide) ?_
  refine ev_bipush dX4_copyFrom_57 (v := nI 60) (by decide) ?_
  refine ev_arraycopy dX4_copyFrom_59 M_X4_49 W_acopy (by decide) (Nat.le_of_ble_eq_true rfl) (by omega) (by omega) (sh_st2 (j := b) (by omega)) (sh_st2 (j := a) (by omega)) (nI_pos (by omega)) (nI_pos (by omega)) (nI_pos (by omega)) (by rw [nI_clamp (by omega), nI_clamp (by omega)]; omega) (by rw [nI_clamp (by omega), nI_clamp (by omega)]; omega) ?_
  rw [nI_clamp (show 0 < 2 ^ 31 by omega), nI_clamp (show 60 < 2 ^ 31 by omega)]
  refine ev_st (σ' := av_set (av_set (av_set σ (7 * a) (upd (upd (upd (upd (σ (7 * a)) 0 ((σ (7 * b)) 0)) 1 ((σ (7 * b)) 1)) 2 ((σ (7 * b)) 2)) 3 ((σ (7 * b)) 3))) (7 * a + 1) (va_cpy (σ (7 * b + 1)) (σ (7 * a + 1)) 0 0 6)) (7 * a + 2) (va_cpy (σ (7 * b + 2)) (σ (7 * a + 2)) 0 0 60)) (by first | rfl | exact av_set_set _ _ _ _ | (funext a; unfold av_set; (repeat' split) <;> first | rfl | (exfalso; omega)) | (funext a; simp only [av_set, cpS]; (repeat' split) <;> first | rfl | (exfalso; omega))) ?_
  refine ev_aload_n dX4_copyFrom_62 rfl 1 rfl ?_
  refine ev_getR dX4_copyFrom_63 C_X4 L_X4_31 (by decide) (by omega) (sh_st (j := b) (by omega)) rfl ?_
  refine ev_iconst dX4_copyFrom_66 (v := nI 0) (by decide) ?_
  refine ev_aload_n dX4_copyFrom_67 rfl 0 rfl ?_
  refine ev_getR dX4_copyFrom_68 C_X4 L_X4_31 (by decide) (by omega) (sh_st (j := a) (by omega)) rfl ?_
  refine ev_iconst dX4_copyFrom_71 (v := nI 0) (by decide) ?_
  refine ev_bipush dX4_copyFrom_72 (v := nI 24) (by decide) ?_
  refine ev_arraycopy dX4_copyFrom_74 M_X4_49 W_acopy (by decide) (Nat.le_of_ble_eq_true rfl) (by omega) (by omega) (sh_st3 (j := b) (by omega)) (sh_st3 (j := a) (by omega)) (nI_pos (by omega)) (nI_pos (by omega)) (nI_pos (by omega)) (by rw [nI_clamp (by omega), nI_clamp (by omega)]; omega) (by rw [nI_clamp (by omega), nI_clamp (by omega)]; omega) ?_
  rw [nI_clamp (show 0 < 2 ^ 31 by omega), nI_clamp (show 24 < 2 ^ 31 by omega)]
  refine ev_st (σ' := av_set (av_set (av_set (av_set σ (7 * a) (upd (upd (upd (upd (σ (7 * a)) 0 ((σ (7 * b)) 0)) 1 ((σ (7 * b)) 1)) 2 ((σ (7 * b)) 2)) 3 ((σ (7 * b)) 3))) (7 * a + 1) (va_cpy (σ (7 * b + 1)) (σ (7 * a + 1)) 0 0 6)) (7 * a + 2) (va_cpy (σ (7 * b + 2)) (σ (7 * a + 2)) 0 0 60)) (7 * a + 3) (va_cpy (σ (7 * b + 3)) (σ (7 * a + 3)) 0 0 24)) (by first | rfl | exact av_set_set _ _ _ _ | (funext a; unfold av_set; (repeat' split) <;> first | rfl | (exfalso; omega)) | (funext a; simp only [av_set, cpS]; (repeat' split) <;> first | rfl | (exfalso; omega))) ?_
  refine ev_aload_n dX4_copyFrom_77 rfl 1 rfl ?_
  refine ev_getR dX4_copyFrom_78 C_X4 L_X4_34 (by decide) (by omega) (sh_st (j := b) (by omega)) rfl ?_
  refine ev_iconst dX4_copyFrom_81 (v := nI 0) (by decide) ?_
  refine ev_aload_n dX4_copyFrom_82 rfl 0 rfl ?_
  refine ev_getR dX4_copyFrom_83 C_X4 L_X4_34 (by decide) (by omega) (sh_st (j := a) (by omega)) rfl ?_
  refine ev_iconst dX4_copyFrom_86 (v := nI 0) (by decide) ?_
  refine ev_bipush dX4_copyFrom_87 (v := nI 24) (by decide) ?_
  refine ev_arraycopy dX4_copyFrom_89 M_X4_49 W_acopy (by decide) (Nat.le_of_ble_eq_true rfl) (by omega) (by omega) (sh_st4 (j := b) (by omega)) (sh_st4 (j := a) (by omega)) (nI_pos (by omega)) (nI_pos (by omega)) (nI_pos (by omega)) (by rw [nI_clamp (by omega), nI_clamp (by omega)]; omega) (by rw [nI_clamp (by omega), nI_clamp (by omega)]; omega) ?_
  rw [nI_clamp (show 0 < 2 ^ 31 by omega), nI_clamp (show 24 < 2 ^ 31 by omega)]
  refine ev_st (σ' := av_set (av_set (av_set (av_set (av_set σ (7 * a) (upd (upd (upd (upd (σ (7 * a)) 0 ((σ (7 * b)) 0)) 1 ((σ (7 * b)) 1)) 2 ((σ (7 * b)) 2)) 3 ((σ (7 * b)) 3))) (7 * a + 1) (va_cpy (σ (7 * b + 1)) (σ (7 * a + 1)) 0 0 6)) (7 * a + 2) (va_cpy (σ (7 * b + 2)) (σ (7 * a + 2)) 0 0 60)) (7 * a + 3) (va_cpy (σ (7 * b + 3)) (σ (7 * a + 3)) 0 0 24)) (7 * a + 4) (va_cpy (σ (7 * b + 4)) (σ (7 * a + 4)) 0 0 24)) (by first | rfl | exact av_set_set _ _ _ _ | (funext a; unfold av_set; (repeat' split) <;> first | rfl | (exfalso; omega)) | (funext a; simp only [av_set, cpS]; (repeat' split) <;> first | rfl | (exfalso; omega))) ?_
  refine ev_aload_n dX4_copyFrom_92 rfl 1 rfl ?_
  refine ev_getR dX4_copyFrom_93 C_X4 L_X4_37 (by decide) (by omega) (sh_st (j := b) (by omega)) rfl ?_
  refine ev_iconst dX4_copyFrom_96 (v := nI 0) (by decide) ?_
  refine ev_aload_n dX4_copyFrom_97 rfl 0 rfl ?_
  refine ev_getR dX4_copyFrom_98 C_X4 L_X4_37 (by decide) (by omega) (sh_st (j := a) (by omega)) rfl ?_
  refine ev_iconst dX4_copyFrom_101 (v := nI 0) (by decide) ?_
  refine ev_bipush dX4_copyFrom_102 (v := nI 24) (by decide) ?_
  refine ev_arraycopy dX4_copyFrom_104 M_X4_49 W_acopy (by decide) (Nat.le_of_ble_eq_true rfl) (by omega) (by omega) (sh_st5 (j := b) (by omega)) (sh_st5 (j := a) (by omega)) (nI_pos (by omega)) (nI_pos (by omega)) (nI_pos (by omega)) (by rw [nI_clamp (by omega), nI_clamp (by omega)]; omega) (by rw [nI_clamp (by omega), nI_clamp (by omega)]; omega) ?_
  rw [nI_clamp (show 0 < 2 ^ 31 by omega), nI_clamp (show 24 < 2 ^ 31 by omega)]
  refine ev_st (σ' := av_set (av_set (av_set (av_set (av_set (av_set σ (7 * a) (upd (upd (upd (upd (σ (7 * a)) 0 ((σ (7 * b)) 0)) 1 ((σ (7 * b)) 1)) 2 ((σ (7 * b)) 2)) 3 ((σ (7 * b)) 3))) (7 * a + 1) (va_cpy (σ (7 * b + 1)) (σ (7 * a + 1)) 0 0 6)) (7 * a + 2) (va_cpy (σ (7 * b + 2)) (σ (7 * a + 2)) 0 0 60)) (7 * a + 3) (va_cpy (σ (7 * b + 3)) (σ (7 * a + 3)) 0 0 24)) (7 * a + 4) (va_cpy (σ (7 * b + 4)) (σ (7 * a + 4)) 0 0 24)) (7 * a + 5) (va_cpy (σ (7 * b + 5)) (σ (7 * a + 5)) 0 0 24)) (by first | rfl | exact av_set_set _ _ _ _ | (funext a; unfold av_set; (repeat' split) <;> first | rfl | (exfalso; omega)) | (funext a; simp only [av_set, cpS]; (repeat' split) <;> first | rfl | (exfalso; omega))) ?_
  refine ev_aload_n dX4_copyFrom_107 rfl 1 rfl ?_
  refine ev_getR dX4_copyFrom_108 C_X4 L_X4_40 (by decide) (by omega) (sh_st (j := b) (by omega)) rfl ?_
  refine ev_iconst dX4_copyFrom_111 (v := nI 0) (by decide) ?_
  refine ev_aload_n dX4_copyFrom_112 rfl 0 rfl ?_
  refine ev_getR dX4_copyFrom_113 C_X4 L_X4_40 (by decide) (by omega) (sh_st (j := a) (by omega)) rfl ?_
  refine ev_iconst dX4_copyFrom_116 (v := nI 0) (by decide) ?_
  refine ev_bipush dX4_copyFrom_117 (v := nI 24) (by decide) ?_
  refine ev_arraycopy dX4_copyFrom_119 M_X4_49 W_acopy (by decide) (Nat.le_of_ble_eq_true rfl) (by omega) (by omega) (sh_st6 (j := b) (by omega)) (sh_st6 (j := a) (by omega)) (nI_pos (by omega)) (nI_pos (by omega)) (nI_pos (by omega)) (by rw [nI_clamp (by omega), nI_clamp (by omega)]; omega) (by rw [nI_clamp (by omega), nI_clamp (by omega)]; omega) ?_
  rw [nI_clamp (show 0 < 2 ^ 31 by omega), nI_clamp (show 24 < 2 ^ 31 by omega)]
  refine ev_st (σ' := av_set (av_set (av_set (av_set (av_set (av_set (av_set σ (7 * a) (upd (upd (upd (upd (σ (7 * a)) 0 ((σ (7 * b)) 0)) 1 ((σ (7 * b)) 1)) 2 ((σ (7 * b)) 2)) 3 ((σ (7 * b)) 3))) (7 * a + 1) (va_cpy (σ (7 * b + 1)) (σ (7 * a + 1)) 0 0 6)) (7 * a + 2) (va_cpy (σ (7 * b + 2)) (σ (7 * a + 2)) 0 0 60)) (7 * a + 3) (va_cpy (σ (7 * b + 3)) (σ (7 * a + 3)) 0 0 24)) (7 * a + 4) (va_cpy (σ (7 * b + 4)) (σ (7 * a + 4)) 0 0 24)) (7 * a + 5) (va_cpy (σ (7 * b + 5)) (σ (7 * a + 5)) 0 0 24)) (7 * a + 6) (va_cpy (σ (7 * b + 6)) (σ (7 * a + 6)) 0 0 24)) (by first | rfl | exact av_set_set _ _ _ _ | (funext a; unfold av_set; (repeat' split) <;> first | rfl | (exfalso; omega)) | (funext a; simp only [av_set, cpS]; (repeat' split) <;> first | rfl | (exfalso; omega))) ?_
  exact ev_return dX4_copyFrom_122 rfl (leafV hQ (cpS_raw hab))

set_option maxRecDepth 100000 in
set_option maxHeartbeats 1000000 in
theorem c_X0_keep {l : Launch} {σ : av_S} (j : Nat) (c : Nat) (hj : σ 64 1 = nI j) (hj8 : j < 8) (hc : σ 64 2 = nI c) (hc8 : c ≤ 8) : av_M l RX0 cX0_keep 3 none 2 [.ref 64, .ref 0] σ none (hkeep σ j c) := by
  intro Q hQ
  show av_Ev l RX0 cX0_keep 3 none av_E0 2 0 [(0, .ref 64), (1, .ref 0)] [] σ Q
  refine ev_aload_n dX0_keep_0 rfl 0 rfl ?_
  refine ev_getR dX0_keep_1 C_X0 L_X0_11 (by decide) (by decide) sh_64 rfl ?_
  refine ev_aload_n dX0_keep_4 rfl 0 rfl ?_
  refine ev_getI dX0_keep_5 C_X0 L_X0_17 (by decide) (by decide) sh_64 rfl ?_
  refine ev_top (v := nI j) hj ?_
  refine ev_aald (e := j) (r := 7 * (j + 1)) dX0_keep_8 (by decide) sh_65 (by decide) (by omega) (by decide) (by first | rfl | (show _ = _; omega)) ?_
  refine ev_astore_n (lv' := [(2, .ref (7 * (j + 1))), (0, .ref 64), (1, .ref 0)]) dX0_keep_9 rfl (by decide) rfl ?_
  refine ev_aload_n dX0_keep_10 rfl 0 rfl ?_
  refine ev_ifnull dX0_keep_11 ?_
  refine ev_aload_n dX0_keep_14 rfl 0 rfl ?_
  refine ev_aload_n dX0_keep_15 rfl 2 rfl ?_
  refine ev_callVv (σ' := cpS σ (j + 1) 0) dX0_keep_16 M_X0_25 Y_X4_copyFrom [.ref 0] (c_X4_copyFrom (j + 1) 0 (by omega) (by omega) (by omega)) (by decide) (Nat.le_of_ble_eq_true rfl) (by omega) (sh_st (j := (j + 1)) (by omega)) rfl rfl rfl (Nat.le_of_ble_eq_true rfl) ?_
  refine ev_aload_n dX0_keep_19 rfl 1 rfl ?_
  refine ev_aload_n dX0_keep_20 rfl 1 rfl ?_
  refine ev_getI dX0_keep_21 C_X0 L_X0_17 (by decide) (by decide) sh_64 rfl ?_
  refine ev_top (v := σ 64 1) (by first | rfl | (simp only [av_set, cpS]; (repeat' split) <;> first | rfl | (exfalso; omega))) ?_
  refine ev_top (v := nI j) hj ?_
  refine ev_bipush dX0_keep_24 (v := nI 7) (by decide) ?_
  refine ev_ncmp_ne (tgt := 33) dX0_keep_26 (by decide) (by omega) (by omega) (fun h26 => ?_) (fun h26 => ?_)
  · refine ev_aload_n dX0_keep_33 rfl 1 rfl ?_
    refine ev_getI dX0_keep_34 C_X0 L_X0_17 (by decide) (by decide) sh_64 rfl ?_
    refine ev_top (v := σ 64 1) (by first | rfl | (simp only [av_set, cpS]; (repeat' split) <;> first | rfl | (exfalso; omega))) ?_
    refine ev_top (v := nI j) hj ?_
    refine ev_iconst dX0_keep_37 (v := nI 1) (by decide) ?_
    refine ev_iadd dX0_keep_38 ?_
    refine ev_top (v := nI (j + 1)) (nI_add _ _) ?_
    refine ev_putI dX0_keep_39 C_X0 L_X0_17 (by decide) (by decide) sh_64 rfl rfl rfl ?_
    refine ev_st (σ' := av_set (cpS σ (j + 1) 0) 64 (upd (σ 64) 1 (nI (j + 1)))) (by first | rfl | (funext a; by_cases q64 : a = 64; (next => subst q64; rfl); simp only [av_set, q64, if_false]) | exact av_set_set _ _ _ _ | (funext a; unfold av_set; (repeat' split) <;> first | rfl | (exfalso; omega)) | (funext a; simp only [av_set, cpS]; (repeat' split) <;> first | rfl | (exfalso; omega))) ?_
    refine ev_aload_n dX0_keep_42 rfl 1 rfl ?_
    refine ev_aload_n dX0_keep_43 rfl 1 rfl ?_
    refine ev_getI dX0_keep_44 C_X0 L_X0_21 (by decide) (by decide) sh_64 rfl ?_
    refine ev_top (v := σ 64 2) (by first | rfl | (simp only [av_set, cpS]; (repeat' split) <;> first | rfl | (exfalso; omega))) ?_
    refine ev_top (v := nI c) hc ?_
    refine ev_iconst dX0_keep_47 (v := nI 1) (by decide) ?_
    refine ev_iadd dX0_keep_48 ?_
    refine ev_top (v := nI (c + 1)) (nI_add _ _) ?_
    refine ev_bipush dX0_keep_49 (v := nI 8) (by decide) ?_
    refine ev_min (v := nI (min (c + 1) 8)) dX0_keep_51 M_X0_29 (by decide) (Nat.le_of_ble_eq_true rfl) (nI_min (by omega) (by omega)) ?_
    refine ev_putI dX0_keep_54 C_X0 L_X0_21 (by decide) (by decide) sh_64 rfl rfl rfl ?_
    refine ev_st (σ' := av_set (cpS σ (j + 1) 0) 64 (upd (upd (σ 64) 1 (nI (j + 1))) 2 (nI (min (c + 1) 8)))) (by first | rfl | (funext a; by_cases q64 : a = 64; (next => subst q64; rfl); simp only [av_set, q64, if_false]) | exact av_set_set _ _ _ _ | (funext a; unfold av_set; (repeat' split) <;> first | rfl | (exfalso; omega)) | (funext a; simp only [av_set, cpS]; (repeat' split) <;> first | rfl | (exfalso; omega))) ?_
    exact ev_return dX0_keep_57 rfl (leafV hQ (by rw [← hkeep_raw hj8]; simp [nxt, h26]))
  · refine ev_iconst dX0_keep_29 (v := nI 0) (by decide) ?_
    refine ev_goto (tgt := 39) dX0_keep_30 (by decide) ?_
    refine ev_putI dX0_keep_39 C_X0 L_X0_17 (by decide) (by decide) sh_64 rfl rfl rfl ?_
    refine ev_st (σ' := av_set (cpS σ (j + 1) 0) 64 (upd (σ 64) 1 (nI 0))) (by first | rfl | (funext a; by_cases q64 : a = 64; (next => subst q64; rfl); simp only [av_set, q64, if_false]) | exact av_set_set _ _ _ _ | (funext a; unfold av_set; (repeat' split) <;> first | rfl | (exfalso; omega)) | (funext a; simp only [av_set, cpS]; (repeat' split) <;> first | rfl | (exfalso; omega))) ?_
    refine ev_aload_n dX0_keep_42 rfl 1 rfl ?_
    refine ev_aload_n dX0_keep_43 rfl 1 rfl ?_
    refine ev_getI dX0_keep_44 C_X0 L_X0_21 (by decide) (by decide) sh_64 rfl ?_
    refine ev_top (v := σ 64 2) (by first | rfl | (simp only [av_set, cpS]; (repeat' split) <;> first | rfl | (exfalso; omega))) ?_
    refine ev_top (v := nI c) hc ?_
    refine ev_iconst dX0_keep_47 (v := nI 1) (by decide) ?_
    refine ev_iadd dX0_keep_48 ?_
    refine ev_top (v := nI (c + 1)) (nI_add _ _) ?_
    refine ev_bipush dX0_keep_49 (v := nI 8) (by decide) ?_
    refine ev_min (v := nI (min (c + 1) 8)) dX0_keep_51 M_X0_29 (by decide) (Nat.le_of_ble_eq_true rfl) (nI_min (by omega) (by omega)) ?_
    refine ev_putI dX0_keep_54 C_X0 L_X0_21 (by decide) (by decide) sh_64 rfl rfl rfl ?_
    refine ev_st (σ' := av_set (cpS σ (j + 1) 0) 64 (upd (upd (σ 64) 1 (nI 0)) 2 (nI (min (c + 1) 8)))) (by first | rfl | (funext a; by_cases q64 : a = 64; (next => subst q64; rfl); simp only [av_set, q64, if_false]) | exact av_set_set _ _ _ _ | (funext a; unfold av_set; (repeat' split) <;> first | rfl | (exfalso; omega)) | (funext a; simp only [av_set, cpS]; (repeat' split) <;> first | rfl | (exfalso; omega))) ?_
    exact ev_return dX0_keep_57 rfl (leafV hQ (by rw [← hkeep_raw hj8]; simp [nxt, h26]))

set_option maxRecDepth 100000 in
set_option maxHeartbeats 1000000 in
theorem c_X0_takeBack {l : Launch} {σ : av_S} (j : Nat) (c : Nat) (hj : σ 64 1 = nI j) (hj8 : j < 8) (hc : σ 64 2 = nI c) (hc1 : 1 ≤ c) (hc8 : c ≤ 8) : av_M l RX0 cX0_takeBack 3 none 2 [.ref 64, .ref 0] σ none (htake σ j c) := by
  intro Q hQ
  show av_Ev l RX0 cX0_takeBack 3 none av_E0 2 0 [(0, .ref 64), (1, .ref 0)] [] σ Q
  refine ev_aload_n dX0_takeBack_0 rfl 0 rfl ?_
  refine ev_aload_n dX0_takeBack_1 rfl 0 rfl ?_
  refine ev_getI dX0_takeBack_2 C_X0 L_X0_17 (by decide) (by decide) sh_64 rfl ?_
  refine ev_top (v := nI j) hj ?_
  refine ev_nif_ne (tgt := 13) dX0_takeBack_5 (by decide) (by omega) (fun h5 => ?_) (fun h5 => ?_)
  · refine ev_aload_n dX0_takeBack_13 rfl 0 rfl ?_
    refine ev_getI dX0_takeBack_14 C_X0 L_X0_17 (by decide) (by decide) sh_64 rfl ?_
    refine ev_top (v := nI j) hj ?_
    refine ev_iconst dX0_takeBack_17 (v := nI 1) (by decide) ?_
    refine ev_isub dX0_takeBack_18 ?_
    refine ev_top (v := nI (j - 1)) (pk_sub (by omega)) ?_
    refine ev_putI dX0_takeBack_19 C_X0 L_X0_17 (by decide) (by decide) sh_64 rfl rfl rfl ?_
    refine ev_aload_n dX0_takeBack_22 rfl 0 rfl ?_
    refine ev_aload_n dX0_takeBack_23 rfl 0 rfl ?_
    refine ev_getI dX0_takeBack_24 C_X0 L_X0_21 (by decide) (by decide) sh_64 rfl ?_
    refine ev_top (v := σ 64 2) (by first | rfl | (simp only [av_set, cpS]; (repeat' split) <;> first | rfl | (exfalso; omega))) ?_
    refine ev_top (v := nI c) hc ?_
    refine ev_iconst dX0_takeBack_27 (v := nI 1) (by decide) ?_
    refine ev_isub dX0_takeBack_28 ?_
    refine ev_top (v := nI (c - 1)) (pk_sub (by omega)) ?_
    refine ev_iconst dX0_takeBack_29 (v := nI 0) (by decide) ?_
    refine ev_max (v := nI (c - 1)) dX0_takeBack_30 M_X0_35 (by decide) (Nat.le_of_ble_eq_true rfl) ((nI_max (by omega) (by omega)).trans (by rw [Nat.max_eq_left (by omega)])) ?_
    refine ev_putI dX0_takeBack_33 C_X0 L_X0_21 (by decide) (by decide) sh_64 rfl rfl rfl ?_
    refine ev_st (σ' := av_set σ 64 (upd (upd (σ 64) 1 (nI (j - 1))) 2 (nI (c - 1)))) (by first | rfl | (funext a; by_cases q64 : a = 64; (next => subst q64; rfl); simp only [av_set, q64, if_false]) | exact av_set_set _ _ _ _ | (funext a; unfold av_set; (repeat' split) <;> first | rfl | (exfalso; omega)) | (funext a; simp only [av_set, cpS]; (repeat' split) <;> first | rfl | (exfalso; omega))) ?_
    refine ev_aload_n dX0_takeBack_36 rfl 0 rfl ?_
    refine ev_getR dX0_takeBack_37 C_X0 L_X0_11 (by decide) (by decide) sh_64 rfl ?_
    refine ev_aload_n dX0_takeBack_40 rfl 0 rfl ?_
    refine ev_getI dX0_takeBack_41 C_X0 L_X0_17 (by decide) (by decide) sh_64 rfl ?_
    refine ev_top (v := nI (j - 1)) (by first | rfl | (simp only [av_set, cpS]; (repeat' split) <;> first | rfl | (exfalso; omega))) ?_
    refine ev_aald (e := j - 1) (r := 7 * j) dX0_takeBack_44 (by decide) sh_65 (by decide) (by omega) (by decide) (by first | rfl | (show _ = _; omega)) ?_
    refine ev_astore_n (lv' := [(2, .ref (7 * j)), (0, .ref 64), (1, .ref 0)]) dX0_takeBack_45 rfl (by decide) rfl ?_
    refine ev_aload_n dX0_takeBack_46 rfl 0 rfl ?_
    refine ev_ifnull dX0_takeBack_47 ?_
    refine ev_aload_n dX0_takeBack_50 rfl 2 rfl ?_
    refine ev_aload_n dX0_takeBack_51 rfl 0 rfl ?_
    refine ev_callVv (σ' := cpS (av_set σ 64 (upd (upd (σ 64) 1 (nI (j - 1))) 2 (nI (c - 1)))) 0 j) dX0_takeBack_52 M_X0_25 Y_X4_copyFrom [.ref (7 * j)] (c_X4_copyFrom 0 j (by omega) (by omega) (by omega)) (by decide) (Nat.le_of_ble_eq_true rfl) (by decide) sh_0 rfl rfl rfl (Nat.le_of_ble_eq_true rfl) ?_
    exact ev_return dX0_takeBack_55 rfl (leafV hQ (by first | (rw [← htake_raw hj8, show prv j = 7 by unfold prv; rw [if_pos h5]]) | (rw [← htake_raw hj8, show prv j = j - 1 by unfold prv; rw [if_neg h5], show j - 1 + 1 = j by omega])))
  · refine ev_bipush dX0_takeBack_8 (v := nI 7) (by decide) ?_
    refine ev_goto (tgt := 19) dX0_takeBack_10 (by decide) ?_
    refine ev_putI dX0_takeBack_19 C_X0 L_X0_17 (by decide) (by decide) sh_64 rfl rfl rfl ?_
    refine ev_aload_n dX0_takeBack_22 rfl 0 rfl ?_
    refine ev_aload_n dX0_takeBack_23 rfl 0 rfl ?_
    refine ev_getI dX0_takeBack_24 C_X0 L_X0_21 (by decide) (by decide) sh_64 rfl ?_
    refine ev_top (v := σ 64 2) (by first | rfl | (simp only [av_set, cpS]; (repeat' split) <;> first | rfl | (exfalso; omega))) ?_
    refine ev_top (v := nI c) hc ?_
    refine ev_iconst dX0_takeBack_27 (v := nI 1) (by decide) ?_
    refine ev_isub dX0_takeBack_28 ?_
    refine ev_top (v := nI (c - 1)) (pk_sub (by omega)) ?_
    refine ev_iconst dX0_takeBack_29 (v := nI 0) (by decide) ?_
    refine ev_max (v := nI (c - 1)) dX0_takeBack_30 M_X0_35 (by decide) (Nat.le_of_ble_eq_true rfl) ((nI_max (by omega) (by omega)).trans (by rw [Nat.max_eq_left (by omega)])) ?_
    refine ev_putI dX0_takeBack_33 C_X0 L_X0_21 (by decide) (by decide) sh_64 rfl rfl rfl ?_
    refine ev_st (σ' := av_set σ 64 (upd (upd (σ 64) 1 (nI 7)) 2 (nI (c - 1)))) (by first | rfl | (funext a; by_cases q64 : a = 64; (next => subst q64; rfl); simp only [av_set, q64, if_false]) | exact av_set_set _ _ _ _ | (funext a; unfold av_set; (repeat' split) <;> first | rfl | (exfalso; omega)) | (funext a; simp only [av_set, cpS]; (repeat' split) <;> first | rfl | (exfalso; omega))) ?_
    refine ev_aload_n dX0_takeBack_36 rfl 0 rfl ?_
    refine ev_getR dX0_takeBack_37 C_X0 L_X0_11 (by decide) (by decide) sh_64 rfl ?_
    refine ev_aload_n dX0_takeBack_40 rfl 0 rfl ?_
    refine ev_getI dX0_takeBack_41 C_X0 L_X0_17 (by decide) (by decide) sh_64 rfl ?_
    refine ev_top (v := nI 7) (by first | rfl | (simp only [av_set, cpS]; (repeat' split) <;> first | rfl | (exfalso; omega))) ?_
    refine ev_aald (e := 7) (r := 56) dX0_takeBack_44 (by decide) sh_65 (by decide) (by omega) (by decide) (by first | rfl | (show _ = _; omega)) ?_
    refine ev_astore_n (lv' := [(2, .ref 56), (0, .ref 64), (1, .ref 0)]) dX0_takeBack_45 rfl (by decide) rfl ?_
    refine ev_aload_n dX0_takeBack_46 rfl 0 rfl ?_
    refine ev_ifnull dX0_takeBack_47 ?_
    refine ev_aload_n dX0_takeBack_50 rfl 2 rfl ?_
    refine ev_aload_n dX0_takeBack_51 rfl 0 rfl ?_
    refine ev_callVv (σ' := cpS (av_set σ 64 (upd (upd (σ 64) 1 (nI 7)) 2 (nI (c - 1)))) 0 8) dX0_takeBack_52 M_X0_25 Y_X4_copyFrom [.ref 56] (c_X4_copyFrom 0 8 (by omega) (by omega) (by omega)) (by decide) (Nat.le_of_ble_eq_true rfl) (by decide) sh_0 rfl rfl rfl (Nat.le_of_ble_eq_true rfl) ?_
    exact ev_return dX0_takeBack_55 rfl (leafV hQ (by first | (rw [← htake_raw hj8, show prv j = 7 by unfold prv; rw [if_pos h5]]) | (rw [← htake_raw hj8, show prv j = j - 1 by unfold prv; rw [if_neg h5], show j - 1 + 1 = j by omega])))

set_option maxRecDepth 100000 in
set_option maxHeartbeats 1000000 in
theorem c_X1_survivor {l : Launch} {σ : av_S} (a : Int32) (b : Int32)  : av_M l RX1 cX1_survivor 2 (some .int) 1 [.int a, .int b] σ (some (.int (srv a b))) σ := by
  intro Q hQ
  show av_Ev l RX1 cX1_survivor 2 (some .int) av_E0 1 0 [(0, .int a), (1, .int b)] [] σ Q
  refine ev_iload_n dX1_survivor_0 rfl 0 rfl ?_
  refine ev_iconst dX1_survivor_1 (v := (-1)) (by decide) ?_
  refine ev_icmp_eq (tgt := 10) dX1_survivor_2 (by decide) (fun h2 => ?_) (fun h2 => ?_)
  · refine ev_iload_n dX1_survivor_10 rfl 0 rfl ?_
    refine ev_iload_n dX1_survivor_11 rfl 1 rfl ?_
    refine ev_max (v := imax a b) dX1_survivor_12 M_X1_9 (by decide) (Nat.le_of_ble_eq_true rfl) rfl ?_
    exact ev_ireturn dX1_survivor_15 rfl rfl (leafI hQ (by simp [srv, imax, imin, h2]) rfl)
  · refine ev_iload_n dX1_survivor_5 rfl 1 rfl ?_
    refine ev_iconst dX1_survivor_6 (v := (-1)) (by decide) ?_
    refine ev_icmp_ne (tgt := 16) dX1_survivor_7 (by decide) (fun h7 => ?_) (fun h7 => ?_)
    · refine ev_iload_n dX1_survivor_16 rfl 0 rfl ?_
      refine ev_iload_n dX1_survivor_17 rfl 1 rfl ?_
      refine ev_icmp_ne (tgt := 25) dX1_survivor_18 (by decide) (fun h18 => ?_) (fun h18 => ?_)
      · refine ev_iload_n dX1_survivor_25 rfl 0 rfl ?_
        refine ev_iload_n dX1_survivor_26 rfl 1 rfl ?_
        refine ev_min (v := imin a b) dX1_survivor_27 M_X1_15 (by decide) (Nat.le_of_ble_eq_true rfl) rfl ?_
        exact ev_ireturn dX1_survivor_30 rfl rfl (leafI hQ (by simp [srv, imax, imin, h2, h7, h18]) rfl)
      · refine ev_iconst dX1_survivor_21 (v := (-1)) (by decide) ?_
        refine ev_goto (tgt := 30) dX1_survivor_22 (by decide) ?_
        exact ev_ireturn dX1_survivor_30 rfl rfl (leafI hQ (by simp [srv, imax, imin, h2, h7, h18]) rfl)
    · refine ev_iload_n dX1_survivor_10 rfl 0 rfl ?_
      refine ev_iload_n dX1_survivor_11 rfl 1 rfl ?_
      refine ev_max (v := imax a b) dX1_survivor_12 M_X1_9 (by decide) (Nat.le_of_ble_eq_true rfl) rfl ?_
      exact ev_ireturn dX1_survivor_15 rfl rfl (leafI hQ (by simp [srv, imax, imin, h2, h7]) rfl)

set_option maxRecDepth 100000 in
set_option maxHeartbeats 1000000 in
theorem c_X1_countKills {l : Launch} {σ : av_S} (a : Nat) (b : Nat) (ha : a < 6) (hb : b < 6) : av_M l RX1 cX1_countKills 9 (some .int) 4 [.ref 0, .int (nI a), .int (nI b)] σ (some (.int (nI (ck (σ 2) (net (σ 1) a) (net (σ 1) b))))) σ := by
  intro Q hQ
  show av_Ev l RX1 cX1_countKills 9 (some .int) av_E0 4 0 [(0, .ref 0), (1, .int (nI a)), (2, .int (nI b))] [] σ Q
  refine ev_aload_n dX1_countKills_0 rfl 0 rfl ?_
  refine ev_iload_n dX1_countKills_1 rfl 1 rfl ?_
  refine ev_callVi (x := net (σ 1) a) dX1_countKills_2 M_X1_18 Y_X4_networkOf [.int (nI a)] (c_X4_networkOf a (by omega)) (by decide) (Nat.le_of_ble_eq_true rfl) (by decide) sh_0 rfl rfl rfl (Nat.le_of_ble_eq_true rfl) ?_
  refine ev_istore_n (lv' := [(3, .int (net (σ 1) a)), (0, .ref 0), (1, .int (nI a)), (2, .int (nI b))]) dX1_countKills_5 rfl (by decide) rfl ?_
  refine ev_aload_n dX1_countKills_6 rfl 1 rfl ?_
  refine ev_iload_n dX1_countKills_7 rfl 3 rfl ?_
  refine ev_callVi (x := net (σ 1) b) dX1_countKills_8 M_X1_18 Y_X4_networkOf [.int (nI b)] (c_X4_networkOf b (by omega)) (by decide) (Nat.le_of_ble_eq_true rfl) (by decide) sh_0 rfl rfl rfl (Nat.le_of_ble_eq_true rfl) ?_
  refine ev_istore (lv' := [(4, .int (net (σ 1) b)), (3, .int (net (σ 1) a)), (0, .ref 0), (1, .int (nI a)), (2, .int (nI b))]) dX1_countKills_11 (by decide) rfl ?_
  refine ev_iconst dX1_countKills_13 (v := nI 0) (by decide) ?_
  refine ev_istore (lv' := [(5, .int (nI 0)), (4, .int (net (σ 1) b)), (3, .int (net (σ 1) a)), (0, .ref 0), (1, .int (nI a)), (2, .int (nI b))]) dX1_countKills_14 (by decide) rfl ?_
  refine ev_iconst dX1_countKills_16 (v := nI 0) (by decide) ?_
  refine ev_istore (lv' := [(6, .int (nI 0)), (5, .int (nI 0)), (4, .int (net (σ 1) b)), (3, .int (net (σ 1) a)), (0, .ref 0), (1, .int (nI a)), (2, .int (nI b))]) dX1_countKills_17 (by decide) rfl ?_
  refine ev_lv (lv' := [(0, .ref 0), (1, .int (nI a)), (2, .int (nI b)), (3, .int (net (σ 1) a)), (4, .int (net (σ 1) b)), (5, .int (nI 0)), (6, .int (nI 0))]) [4, 5, 6, 3, 2, 1, 0] rfl ?_
  refine loop_up (fun k => av_Ev l RX1 cX1_countKills 9 (some .int) av_E0 4 19 [(0, .ref 0), (1, .int (nI a)), (2, .int (nI b)), (3, .int (net (σ 1) a)), (4, .int (net (σ 1) b)), (5, .int (nI (fo k (fun n c => ckF (σ 2) (net (σ 1) a) (net (σ 1) b) n c) 0))), (6, .int (nI k))] [] σ Q) 10 ?_ ?_
  · show av_Ev l RX1 cX1_countKills 9 (some .int) av_E0 4 19 [(0, .ref 0), (1, .int (nI a)), (2, .int (nI b)), (3, .int (net (σ 1) a)), (4, .int (net (σ 1) b)), (5, .int (nI (fo 10 (fun n c => ckF (σ 2) (net (σ 1) a) (net (σ 1) b) n c) 0))), (6, .int (nI 10))] [] σ Q
    refine ev_iload dX1_countKills_19 6 rfl ?_
    refine ev_bipush dX1_countKills_21 (v := nI 10) (by decide) ?_
    refine ev_ncmp_ge (tgt := 84) dX1_countKills_23 (by decide) (by omega) (by omega) (fun h23 => ?_) (fun h23 => ?_)
    · refine ev_iload dX1_countKills_84 5 rfl ?_
      exact ev_ireturn dX1_countKills_86 rfl rfl (leafI hQ (by first | rfl | (simp [h23]; done)) rfl)
    · exact absurd h23 (by omega)
  · intro k hk ihk
    show av_Ev l RX1 cX1_countKills 9 (some .int) av_E0 4 19 [(0, .ref 0), (1, .int (nI a)), (2, .int (nI b)), (3, .int (net (σ 1) a)), (4, .int (net (σ 1) b)), (5, .int (nI (fo k (fun n c => ckF (σ 2) (net (σ 1) a) (net (σ 1) b) n c) 0))), (6, .int (nI k))] [] σ Q
    refine ev_iload dX1_countKills_19 6 rfl ?_
    refine ev_bipush dX1_countKills_21 (v := nI 10) (by decide) ?_
    refine ev_ncmp_ge (tgt := 84) dX1_countKills_23 (by decide) (by omega) (by omega) (fun h23 => ?_) (fun h23 => ?_)
    · exact absurd h23 (by omega)
    · refine ev_aload_n dX1_countKills_26 rfl 0 rfl ?_
      refine ev_iload_n dX1_countKills_27 rfl 3 rfl ?_
      refine ev_iload dX1_countKills_28 6 rfl ?_
      refine ev_callVi (x := tn (σ 2) (net (σ 1) a) k) dX1_countKills_30 M_X1_24 Y_X4_timeOfNick [.int (net (σ 1) a), .int (nI k)] (c_X4_timeOfNick (net (σ 1) a) k (by omega)) (by decide) (Nat.le_of_ble_eq_true rfl) (by decide) sh_0 rfl rfl rfl (Nat.le_of_ble_eq_true rfl) ?_
      refine ev_istore (lv' := [(7, .int (tn (σ 2) (net (σ 1) a) k)), (0, .ref 0), (1, .int (nI a)), (2, .int (nI b)), (3, .int (net (σ 1) a)), (4, .int (net (σ 1) b)), (5, .int (nI (fo k (fun n c => ckF (σ 2) (net (σ 1) a) (net (σ 1) b) n c) 0))), (6, .int (nI k))]) dX1_countKills_33 (by decide) rfl ?_
      refine ev_aload_n dX1_countKills_35 rfl 1 rfl ?_
      refine ev_iload dX1_countKills_36 5 rfl ?_
      refine ev_iload dX1_countKills_38 7 rfl ?_
      refine ev_callVi (x := tn (σ 2) (net (σ 1) b) k) dX1_countKills_40 M_X1_24 Y_X4_timeOfNick [.int (net (σ 1) b), .int (nI k)] (c_X4_timeOfNick (net (σ 1) b) k (by omega)) (by decide) (Nat.le_of_ble_eq_true rfl) (by decide) sh_0 rfl rfl rfl (Nat.le_of_ble_eq_true rfl) ?_
      refine ev_istore (lv' := [(8, .int (tn (σ 2) (net (σ 1) b) k)), (7, .int (tn (σ 2) (net (σ 1) a) k)), (0, .ref 0), (1, .int (nI a)), (2, .int (nI b)), (3, .int (net (σ 1) a)), (4, .int (net (σ 1) b)), (5, .int (nI (fo k (fun n c => ckF (σ 2) (net (σ 1) a) (net (σ 1) b) n c) 0))), (6, .int (nI k))]) dX1_countKills_43 (by decide) rfl ?_
      refine ev_iload dX1_countKills_45 1 rfl ?_
      refine ev_iconst dX1_countKills_47 (v := (-1)) (by decide) ?_
      refine ev_icmp_eq (tgt := 78) dX1_countKills_48 (by decide) (fun h48 => ?_) (fun h48 => ?_)
      · refine ev_iinc (lv' := [(6, .int (nI (k + 1))), (8, .int (tn (σ 2) (net (σ 1) b) k)), (7, .int (tn (σ 2) (net (σ 1) a) k)), (0, .ref 0), (1, .int (nI a)), (2, .int (nI b)), (3, .int (net (σ 1) a)), (4, .int (net (σ 1) b)), (5, .int (nI (fo k (fun n c => ckF (σ 2) (net (σ 1) a) (net (σ 1) b) n c) 0)))]) dX1_countKills_78 8 rfl (nI_inc k) (by decide) rfl ?_
        refine ev_goto (tgt := 19) dX1_countKills_81 (by decide) ?_
        refine ev_lv (lv' := [(0, .ref 0), (1, .int (nI a)), (2, .int (nI b)), (3, .int (net (σ 1) a)), (4, .int (net (σ 1) b)), (5, .int (nI (fo k (fun n c => ckF (σ 2) (net (σ 1) a) (net (σ 1) b) n c) 0))), (6, .int (nI (k + 1)))]) [3, 4, 5, 6, 7, 8, 0] rfl ?_
        have ih9 : av_Ev l RX1 cX1_countKills 9 (some .int) av_E0 4 19 [(0, .ref 0), (1, .int (nI a)), (2, .int (nI b)), (3, .int (net (σ 1) a)), (4, .int (net (σ 1) b)), (5, .int (nI (fo (k + 1) (fun n c => ckF (σ 2) (net (σ 1) a) (net (σ 1) b) n c) 0))), (6, .int (nI (k + 1)))] [] σ Q := ihk
        rw [show nI (fo (k + 1) (fun n c => ckF (σ 2) (net (σ 1) a) (net (σ 1) b) n c) 0) = nI (fo k (fun n c => ckF (σ 2) (net (σ 1) a) (net (σ 1) b) n c) 0) from (by rw [fo_s]; simp [ckF, h23, h48])] at ih9
        exact ih9
      · refine ev_iload dX1_countKills_51 0 rfl ?_
        refine ev_iconst dX1_countKills_53 (v := (-1)) (by decide) ?_
        refine ev_icmp_eq (tgt := 78) dX1_countKills_54 (by decide) (fun h54 => ?_) (fun h54 => ?_)
        · refine ev_iinc (lv' := [(6, .int (nI (k + 1))), (8, .int (tn (σ 2) (net (σ 1) b) k)), (7, .int (tn (σ 2) (net (σ 1) a) k)), (0, .ref 0), (1, .int (nI a)), (2, .int (nI b)), (3, .int (net (σ 1) a)), (4, .int (net (σ 1) b)), (5, .int (nI (fo k (fun n c => ckF (σ 2) (net (σ 1) a) (net (σ 1) b) n c) 0)))]) dX1_countKills_78 8 rfl (nI_inc k) (by decide) rfl ?_
          refine ev_goto (tgt := 19) dX1_countKills_81 (by decide) ?_
          refine ev_lv (lv' := [(0, .ref 0), (1, .int (nI a)), (2, .int (nI b)), (3, .int (net (σ 1) a)), (4, .int (net (σ 1) b)), (5, .int (nI (fo k (fun n c => ckF (σ 2) (net (σ 1) a) (net (σ 1) b) n c) 0))), (6, .int (nI (k + 1)))]) [3, 4, 5, 6, 7, 8, 0] rfl ?_
          have ih9 : av_Ev l RX1 cX1_countKills 9 (some .int) av_E0 4 19 [(0, .ref 0), (1, .int (nI a)), (2, .int (nI b)), (3, .int (net (σ 1) a)), (4, .int (net (σ 1) b)), (5, .int (nI (fo (k + 1) (fun n c => ckF (σ 2) (net (σ 1) a) (net (σ 1) b) n c) 0))), (6, .int (nI (k + 1)))] [] σ Q := ihk
          rw [show nI (fo (k + 1) (fun n c => ckF (σ 2) (net (σ 1) a) (net (σ 1) b) n c) 0) = nI (fo k (fun n c => ckF (σ 2) (net (σ 1) a) (net (σ 1) b) n c) 0) from (by rw [fo_s]; simp [ckF, h23, h48, h54])] at ih9
          exact ih9
        · refine ev_iload dX1_countKills_57 7 rfl ?_
          refine ev_iload dX1_countKills_59 1 rfl ?_
          refine ev_iload dX1_countKills_61 0 rfl ?_
          refine ev_callSi (x := srv (tn (σ 2) (net (σ 1) a) k) (tn (σ 2) (net (σ 1) b) k)) dX1_countKills_63 (Or.inl M_X1_27) Y_X1_survivor [.int (tn (σ 2) (net (σ 1) a) k), .int (tn (σ 2) (net (σ 1) b) k)] (c_X1_survivor (tn (σ 2) (net (σ 1) a) k) (tn (σ 2) (net (σ 1) b) k) ) (by decide) (Nat.le_of_ble_eq_true rfl) rfl rfl (Nat.le_of_ble_eq_true rfl) ?_
          refine ev_iconst dX1_countKills_66 (v := (-1)) (by decide) ?_
          refine ev_icmp_ne (tgt := 74) dX1_countKills_67 (by decide) (fun h67 => ?_) (fun h67 => ?_)
          · refine ev_iconst dX1_countKills_74 (v := nI 1) (by decide) ?_
            refine ev_iadd dX1_countKills_75 ?_
            refine ev_top (v := nI (fo k (fun n c => ckF (σ 2) (net (σ 1) a) (net (σ 1) b) n c) 0 + 1)) (nI_add _ _) ?_
            refine ev_istore (lv' := [(5, .int (nI (fo k (fun n c => ckF (σ 2) (net (σ 1) a) (net (σ 1) b) n c) 0 + 1))), (8, .int (tn (σ 2) (net (σ 1) b) k)), (7, .int (tn (σ 2) (net (σ 1) a) k)), (0, .ref 0), (1, .int (nI a)), (2, .int (nI b)), (3, .int (net (σ 1) a)), (4, .int (net (σ 1) b)), (6, .int (nI k))]) dX1_countKills_76 (by decide) rfl ?_
            refine ev_iinc (lv' := [(6, .int (nI (k + 1))), (5, .int (nI (fo k (fun n c => ckF (σ 2) (net (σ 1) a) (net (σ 1) b) n c) 0 + 1))), (8, .int (tn (σ 2) (net (σ 1) b) k)), (7, .int (tn (σ 2) (net (σ 1) a) k)), (0, .ref 0), (1, .int (nI a)), (2, .int (nI b)), (3, .int (net (σ 1) a)), (4, .int (net (σ 1) b))]) dX1_countKills_78 8 rfl (nI_inc k) (by decide) rfl ?_
            refine ev_goto (tgt := 19) dX1_countKills_81 (by decide) ?_
            refine ev_lv (lv' := [(0, .ref 0), (1, .int (nI a)), (2, .int (nI b)), (3, .int (net (σ 1) a)), (4, .int (net (σ 1) b)), (5, .int (nI (fo k (fun n c => ckF (σ 2) (net (σ 1) a) (net (σ 1) b) n c) 0 + 1))), (6, .int (nI (k + 1)))]) [4, 5, 6, 7, 8, 1, 0] rfl ?_
            have ih9 : av_Ev l RX1 cX1_countKills 9 (some .int) av_E0 4 19 [(0, .ref 0), (1, .int (nI a)), (2, .int (nI b)), (3, .int (net (σ 1) a)), (4, .int (net (σ 1) b)), (5, .int (nI (fo (k + 1) (fun n c => ckF (σ 2) (net (σ 1) a) (net (σ 1) b) n c) 0))), (6, .int (nI (k + 1)))] [] σ Q := ihk
            rw [show nI (fo (k + 1) (fun n c => ckF (σ 2) (net (σ 1) a) (net (σ 1) b) n c) 0) = nI (fo k (fun n c => ckF (σ 2) (net (σ 1) a) (net (σ 1) b) n c) 0 + 1) from (by rw [fo_s]; simp [ckF, h23, h48, h54, h67])] at ih9
            exact ih9
          · refine ev_iconst dX1_countKills_70 (v := nI 2) (by decide) ?_
            refine ev_goto (tgt := 75) dX1_countKills_71 (by decide) ?_
            refine ev_iadd dX1_countKills_75 ?_
            refine ev_top (v := nI (fo k (fun n c => ckF (σ 2) (net (σ 1) a) (net (σ 1) b) n c) 0 + 2)) (nI_add _ _) ?_
            refine ev_istore (lv' := [(5, .int (nI (fo k (fun n c => ckF (σ 2) (net (σ 1) a) (net (σ 1) b) n c) 0 + 2))), (8, .int (tn (σ 2) (net (σ 1) b) k)), (7, .int (tn (σ 2) (net (σ 1) a) k)), (0, .ref 0), (1, .int (nI a)), (2, .int (nI b)), (3, .int (net (σ 1) a)), (4, .int (net (σ 1) b)), (6, .int (nI k))]) dX1_countKills_76 (by decide) rfl ?_
            refine ev_iinc (lv' := [(6, .int (nI (k + 1))), (5, .int (nI (fo k (fun n c => ckF (σ 2) (net (σ 1) a) (net (σ 1) b) n c) 0 + 2))), (8, .int (tn (σ 2) (net (σ 1) b) k)), (7, .int (tn (σ 2) (net (σ 1) a) k)), (0, .ref 0), (1, .int (nI a)), (2, .int (nI b)), (3, .int (net (σ 1) a)), (4, .int (net (σ 1) b))]) dX1_countKills_78 8 rfl (nI_inc k) (by decide) rfl ?_
            refine ev_goto (tgt := 19) dX1_countKills_81 (by decide) ?_
            refine ev_lv (lv' := [(0, .ref 0), (1, .int (nI a)), (2, .int (nI b)), (3, .int (net (σ 1) a)), (4, .int (net (σ 1) b)), (5, .int (nI (fo k (fun n c => ckF (σ 2) (net (σ 1) a) (net (σ 1) b) n c) 0 + 2))), (6, .int (nI (k + 1)))]) [4, 5, 6, 7, 8, 1, 0] rfl ?_
            have ih9 : av_Ev l RX1 cX1_countKills 9 (some .int) av_E0 4 19 [(0, .ref 0), (1, .int (nI a)), (2, .int (nI b)), (3, .int (net (σ 1) a)), (4, .int (net (σ 1) b)), (5, .int (nI (fo (k + 1) (fun n c => ckF (σ 2) (net (σ 1) a) (net (σ 1) b) n c) 0))), (6, .int (nI (k + 1)))] [] σ Q := ihk
            rw [show nI (fo (k + 1) (fun n c => ckF (σ 2) (net (σ 1) a) (net (σ 1) b) n c) 0) = nI (fo k (fun n c => ckF (σ 2) (net (σ 1) a) (net (σ 1) b) n c) 0 + 2) from (by rw [fo_s]; simp [ckF, h23, h48, h54, h67])] at ih9
            exact ih9

set_option maxRecDepth 100000 in
set_option maxHeartbeats 1000000 in
theorem c_X1_settleCollision {l : Launch} {σ : av_S} (n : Nat) (a : Nat) (b : Nat) (hn : n < 10) (ha : a < 6) (hb : b < 6) : av_M l RX1 cX1_settleCollision 7 none 3 [.ref 0, .int (nI n), .int (nI a), .int (nI b)] σ none (av_set (av_set (av_set σ 2 ((sc3 (σ 2, σ 3, σ 4) n a b).1)) 3 ((sc3 (σ 2, σ 3, σ 4) n a b).2.1)) 4 ((sc3 (σ 2, σ 3, σ 4) n a b).2.2)) := by
  intro Q hQ
  show av_Ev l RX1 cX1_settleCollision 7 none av_E0 3 0 [(0, .ref 0), (1, .int (nI n)), (2, .int (nI a)), (3, .int (nI b))] [] σ Q
  refine ev_aload_n dX1_settleCollision_0 rfl 0 rfl ?_
  refine ev_iload_n dX1_settleCollision_1 rfl 2 rfl ?_
  refine ev_iload_n dX1_settleCollision_2 rfl 1 rfl ?_
  refine ev_callVi (x := σ 2 (a * 10 + n)) dX1_settleCollision_3 M_X1_39 Y_X4_timeOfUser [.int (nI a), .int (nI n)] (c_X4_timeOfUser a n (by omega) (by omega)) (by decide) (Nat.le_of_ble_eq_true rfl) (by decide) sh_0 rfl rfl rfl (Nat.le_of_ble_eq_true rfl) ?_
  refine ev_istore (lv' := [(4, .int (σ 2 (a * 10 + n))), (0, .ref 0), (1, .int (nI n)), (2, .int (nI a)), (3, .int (nI b))]) dX1_settleCollision_6 (by decide) rfl ?_
  refine ev_aload_n dX1_settleCollision_8 rfl 1 rfl ?_
  refine ev_iload_n dX1_settleCollision_9 rfl 4 rfl ?_
  refine ev_iload_n dX1_settleCollision_10 rfl 2 rfl ?_
  refine ev_callVi (x := σ 2 (b * 10 + n)) dX1_settleCollision_11 M_X1_39 Y_X4_timeOfUser [.int (nI b), .int (nI n)] (c_X4_timeOfUser b n (by omega) (by omega)) (by decide) (Nat.le_of_ble_eq_true rfl) (by decide) sh_0 rfl rfl rfl (Nat.le_of_ble_eq_true rfl) ?_
  refine ev_istore (lv' := [(5, .int (σ 2 (b * 10 + n))), (4, .int (σ 2 (a * 10 + n))), (0, .ref 0), (1, .int (nI n)), (2, .int (nI a)), (3, .int (nI b))]) dX1_settleCollision_14 (by decide) rfl ?_
  refine ev_iload dX1_settleCollision_16 1 rfl ?_
  refine ev_iload dX1_settleCollision_18 0 rfl ?_
  refine ev_callSi (x := srv (σ 2 (a * 10 + n)) (σ 2 (b * 10 + n))) dX1_settleCollision_20 (Or.inl M_X1_27) Y_X1_survivor [.int (σ 2 (a * 10 + n)), .int (σ 2 (b * 10 + n))] (c_X1_survivor (σ 2 (a * 10 + n)) (σ 2 (b * 10 + n)) ) (by decide) (Nat.le_of_ble_eq_true rfl) rfl rfl (Nat.le_of_ble_eq_true rfl) ?_
  refine ev_istore (lv' := [(6, .int (srv (σ 2 (a * 10 + n)) (σ 2 (b * 10 + n)))), (5, .int (σ 2 (b * 10 + n))), (4, .int (σ 2 (a * 10 + n))), (0, .ref 0), (1, .int (nI n)), (2, .int (nI a)), (3, .int (nI b))]) dX1_settleCollision_23 (by decide) rfl ?_
  refine ev_iload dX1_settleCollision_25 2 rfl ?_
  refine ev_iload dX1_settleCollision_27 0 rfl ?_
  refine ev_icmp_eq (tgt := 38) dX1_settleCollision_29 (by decide) (fun h29 => ?_) (fun h29 => ?_)
  · refine ev_iload dX1_settleCollision_38 1 rfl ?_
    refine ev_iload dX1_settleCollision_40 0 rfl ?_
    refine ev_icmp_eq (tgt := 51) dX1_settleCollision_42 (by decide) (fun h42 => ?_) (fun h42 => ?_)
    · exact ev_return dX1_settleCollision_51 rfl (leafV hQ (by unfold sc3; dsimp only; (first | rw [if_pos h29, if_pos h42] | rw [if_neg h29, if_pos h42] | rw [if_pos h29, if_neg h42] | rw [if_neg h29, if_neg h42]) <;> (first | rfl | (funext a; unfold av_set; (repeat' split) <;> first | rfl | (subst_vars; rfl) | (exfalso; omega)))))
    · refine ev_aload_n dX1_settleCollision_45 rfl 3 rfl ?_
      refine ev_iload_n dX1_settleCollision_46 rfl 6 rfl ?_
      refine ev_iload_n dX1_settleCollision_47 rfl 4 rfl ?_
      refine ev_callVv (σ' := av_set (av_set (av_set σ 2 (upd (σ 2) (b * 10 + n) (-1))) 3 (rmA (σ 3) b n)) 4 (rmA (σ 4) b n)) dX1_settleCollision_48 M_X1_42 Y_X4_removeUser [.int (nI b), .int (nI n)] (c_X4_removeUser b n (by omega) (by omega)) (by decide) (Nat.le_of_ble_eq_true rfl) (by decide) sh_0 rfl rfl rfl (Nat.le_of_ble_eq_true rfl) ?_
      exact ev_return dX1_settleCollision_51 rfl (leafV hQ (by unfold sc3; dsimp only; (first | rw [if_pos h29, if_pos h42] | rw [if_neg h29, if_pos h42] | rw [if_pos h29, if_neg h42] | rw [if_neg h29, if_neg h42]) <;> (first | rfl | (funext a; unfold av_set; (repeat' split) <;> first | rfl | (subst_vars; rfl) | (exfalso; omega)))))
  · refine ev_aload_n dX1_settleCollision_32 rfl 3 rfl ?_
    refine ev_iload_n dX1_settleCollision_33 rfl 5 rfl ?_
    refine ev_iload_n dX1_settleCollision_34 rfl 4 rfl ?_
    refine ev_callVv (σ' := av_set (av_set (av_set σ 2 (upd (σ 2) (a * 10 + n) (-1))) 3 (rmA (σ 3) a n)) 4 (rmA (σ 4) a n)) dX1_settleCollision_35 M_X1_42 Y_X4_removeUser [.int (nI a), .int (nI n)] (c_X4_removeUser a n (by omega) (by omega)) (by decide) (Nat.le_of_ble_eq_true rfl) (by decide) sh_0 rfl rfl rfl (Nat.le_of_ble_eq_true rfl) ?_
    refine ev_iload dX1_settleCollision_38 1 rfl ?_
    refine ev_iload dX1_settleCollision_40 0 rfl ?_
    refine ev_icmp_eq (tgt := 51) dX1_settleCollision_42 (by decide) (fun h42 => ?_) (fun h42 => ?_)
    · exact ev_return dX1_settleCollision_51 rfl (leafV hQ (by unfold sc3; dsimp only; (first | rw [if_pos h29, if_pos h42] | rw [if_neg h29, if_pos h42] | rw [if_pos h29, if_neg h42] | rw [if_neg h29, if_neg h42]) <;> (first | rfl | (funext a; unfold av_set; (repeat' split) <;> first | rfl | (subst_vars; rfl) | (exfalso; omega)))))
    · refine ev_aload_n dX1_settleCollision_45 rfl 3 rfl ?_
      refine ev_iload_n dX1_settleCollision_46 rfl 6 rfl ?_
      refine ev_iload_n dX1_settleCollision_47 rfl 4 rfl ?_
      refine ev_callVv dX1_settleCollision_48 M_X1_42 Y_X4_removeUser [.int (nI b), .int (nI n)] (c_X4_removeUser b n (by omega) (by omega)) (by decide) (Nat.le_of_ble_eq_true rfl) (by decide) sh_0 rfl rfl rfl (Nat.le_of_ble_eq_true rfl) ?_
      refine ev_st (σ' := av_set (av_set (av_set σ 2 (upd ((upd (σ 2) (a * 10 + n) (-1))) (b * 10 + n) (-1))) 3 (rmA ((rmA (σ 3) a n)) b n)) 4 (rmA ((rmA (σ 4) a n)) b n)) (by first | rfl | (funext a; by_cases q2 : a = 2; (next => subst q2; rfl); by_cases q3 : a = 3; (next => subst q3; rfl); by_cases q4 : a = 4; (next => subst q4; rfl); simp only [av_set, q2, q3, q4, if_false]) | exact av_set_set _ _ _ _ | (funext a; unfold av_set; (repeat' split) <;> first | rfl | (exfalso; omega)) | (funext a; simp only [av_set, cpS]; (repeat' split) <;> first | rfl | (exfalso; omega))) ?_
      exact ev_return dX1_settleCollision_51 rfl (leafV hQ (by unfold sc3; dsimp only; (first | rw [if_pos h29, if_pos h42] | rw [if_neg h29, if_pos h42] | rw [if_pos h29, if_neg h42] | rw [if_neg h29, if_neg h42]) <;> (first | rfl | (funext a; unfold av_set; (repeat' split) <;> first | rfl | (subst_vars; rfl) | (exfalso; omega)))))

set_option maxRecDepth 100000 in
set_option maxHeartbeats 1000000 in
theorem c_X1_settleNicks {l : Launch} {σ : av_S} (a : Nat) (b : Nat) (ha : a < 6) (hb : b < 6) : av_M l RX1 cX1_settleNicks 8 none 4 [.ref 0, .int (nI a), .int (nI b)] σ none (av_set (av_set (av_set σ 2 ((sn3 (net (σ 1) a) (net (σ 1) b) (σ 2, σ 3, σ 4)).1)) 3 ((sn3 (net (σ 1) a) (net (σ 1) b) (σ 2, σ 3, σ 4)).2.1)) 4 ((sn3 (net (σ 1) a) (net (σ 1) b) (σ 2, σ 3, σ 4)).2.2)) := by
  intro Q hQ
  show av_Ev l RX1 cX1_settleNicks 8 none av_E0 4 0 [(0, .ref 0), (1, .int (nI a)), (2, .int (nI b))] [] σ Q
  refine ev_aload_n dX1_settleNicks_0 rfl 0 rfl ?_
  refine ev_iload_n dX1_settleNicks_1 rfl 1 rfl ?_
  refine ev_callVi (x := net (σ 1) a) dX1_settleNicks_2 M_X1_18 Y_X4_networkOf [.int (nI a)] (c_X4_networkOf a (by omega)) (by decide) (Nat.le_of_ble_eq_true rfl) (by decide) sh_0 rfl rfl rfl (Nat.le_of_ble_eq_true rfl) ?_
  refine ev_istore_n (lv' := [(3, .int (net (σ 1) a)), (0, .ref 0), (1, .int (nI a)), (2, .int (nI b))]) dX1_settleNicks_5 rfl (by decide) rfl ?_
  refine ev_aload_n dX1_settleNicks_6 rfl 1 rfl ?_
  refine ev_iload_n dX1_settleNicks_7 rfl 3 rfl ?_
  refine ev_callVi (x := net (σ 1) b) dX1_settleNicks_8 M_X1_18 Y_X4_networkOf [.int (nI b)] (c_X4_networkOf b (by omega)) (by decide) (Nat.le_of_ble_eq_true rfl) (by decide) sh_0 rfl rfl rfl (Nat.le_of_ble_eq_true rfl) ?_
  refine ev_istore (lv' := [(4, .int (net (σ 1) b)), (3, .int (net (σ 1) a)), (0, .ref 0), (1, .int (nI a)), (2, .int (nI b))]) dX1_settleNicks_11 (by decide) rfl ?_
  refine ev_iconst dX1_settleNicks_13 (v := nI 0) (by decide) ?_
  refine ev_istore (lv' := [(5, .int (nI 0)), (4, .int (net (σ 1) b)), (3, .int (net (σ 1) a)), (0, .ref 0), (1, .int (nI a)), (2, .int (nI b))]) dX1_settleNicks_14 (by decide) rfl ?_
  refine ev_lv (lv' := [(0, .ref 0), (1, .int (nI a)), (2, .int (nI b)), (3, .int (net (σ 1) a)), (4, .int (net (σ 1) b)), (5, .int (nI 0))]) [3, 4, 5, 2, 1, 0] rfl ?_
  refine ev_st (σ' := av_set (av_set (av_set σ 2 ((fo 0 (fun n T => sn3F (net (σ 1) a) (net (σ 1) b) n T) (σ 2, σ 3, σ 4)).1)) 3 ((fo 0 (fun n T => sn3F (net (σ 1) a) (net (σ 1) b) n T) (σ 2, σ 3, σ 4)).2.1)) 4 ((fo 0 (fun n T => sn3F (net (σ 1) a) (net (σ 1) b) n T) (σ 2, σ 3, σ 4)).2.2)) (by simp only [fo_0]; first | rfl | (funext a; unfold av_set; (repeat' split) <;> first | rfl | (subst_vars; rfl) | (exfalso; omega))) ?_
  refine loop_up (fun k => av_Ev l RX1 cX1_settleNicks 8 none av_E0 4 16 [(0, .ref 0), (1, .int (nI a)), (2, .int (nI b)), (3, .int (net (σ 1) a)), (4, .int (net (σ 1) b)), (5, .int (nI k))] [] (av_set (av_set (av_set σ 2 ((fo k (fun n T => sn3F (net (σ 1) a) (net (σ 1) b) n T) (σ 2, σ 3, σ 4)).1)) 3 ((fo k (fun n T => sn3F (net (σ 1) a) (net (σ 1) b) n T) (σ 2, σ 3, σ 4)).2.1)) 4 ((fo k (fun n T => sn3F (net (σ 1) a) (net (σ 1) b) n T) (σ 2, σ 3, σ 4)).2.2)) Q) 10 ?_ ?_
  · show av_Ev l RX1 cX1_settleNicks 8 none av_E0 4 16 [(0, .ref 0), (1, .int (nI a)), (2, .int (nI b)), (3, .int (net (σ 1) a)), (4, .int (net (σ 1) b)), (5, .int (nI 10))] [] (av_set (av_set (av_set σ 2 ((fo 10 (fun n T => sn3F (net (σ 1) a) (net (σ 1) b) n T) (σ 2, σ 3, σ 4)).1)) 3 ((fo 10 (fun n T => sn3F (net (σ 1) a) (net (σ 1) b) n T) (σ 2, σ 3, σ 4)).2.1)) 4 ((fo 10 (fun n T => sn3F (net (σ 1) a) (net (σ 1) b) n T) (σ 2, σ 3, σ 4)).2.2)) Q
    refine ev_iload dX1_settleNicks_16 5 rfl ?_
    refine ev_bipush dX1_settleNicks_18 (v := nI 10) (by decide) ?_
    refine ev_ncmp_ge (tgt := 70) dX1_settleNicks_20 (by decide) (by omega) (by omega) (fun h20 => ?_) (fun h20 => ?_)
    · exact ev_return dX1_settleNicks_70 rfl (leafV hQ rfl)
    · exact absurd h20 (by omega)
  · intro k hk ihk
    show av_Ev l RX1 cX1_settleNicks 8 none av_E0 4 16 [(0, .ref 0), (1, .int (nI a)), (2, .int (nI b)), (3, .int (net (σ 1) a)), (4, .int (net (σ 1) b)), (5, .int (nI k))] [] (av_set (av_set (av_set σ 2 ((fo k (fun n T => sn3F (net (σ 1) a) (net (σ 1) b) n T) (σ 2, σ 3, σ 4)).1)) 3 ((fo k (fun n T => sn3F (net (σ 1) a) (net (σ 1) b) n T) (σ 2, σ 3, σ 4)).2.1)) 4 ((fo k (fun n T => sn3F (net (σ 1) a) (net (σ 1) b) n T) (σ 2, σ 3, σ 4)).2.2)) Q
    refine ev_iload dX1_settleNicks_16 5 rfl ?_
    refine ev_bipush dX1_settleNicks_18 (v := nI 10) (by decide) ?_
    refine ev_ncmp_ge (tgt := 70) dX1_settleNicks_20 (by decide) (by omega) (by omega) (fun h20 => ?_) (fun h20 => ?_)
    · exact absurd h20 (by omega)
    · refine ev_aload_n dX1_settleNicks_23 rfl 0 rfl ?_
      refine ev_iload_n dX1_settleNicks_24 rfl 3 rfl ?_
      refine ev_iload dX1_settleNicks_25 5 rfl ?_
      refine ev_callVi (x := oI (hm (((fo k (fun n T => sn3F (net (σ 1) a) (net (σ 1) b) n T) (σ 2, σ 3, σ 4)).1)) (net (σ 1) a) k)) dX1_settleNicks_27 M_X1_32 Y_X4_homeIn [.int (net (σ 1) a), .int (nI k)] (c_X4_homeIn (net (σ 1) a) k (by omega)) (by decide) (Nat.le_of_ble_eq_true rfl) (by decide) sh_0 rfl rfl rfl (Nat.le_of_ble_eq_true rfl) ?_
      rcases ho27 : hm (((fo k (fun n T => sn3F (net (σ 1) a) (net (σ 1) b) n T) (σ 2, σ 3, σ 4)).1)) (net (σ 1) a) k with _ | u27
      · refine ev_top (v := (-1)) rfl ?_
        refine ev_istore (lv' := [(6, .int (-1)), (0, .ref 0), (1, .int (nI a)), (2, .int (nI b)), (3, .int (net (σ 1) a)), (4, .int (net (σ 1) b)), (5, .int (nI k))]) dX1_settleNicks_30 (by decide) rfl ?_
        refine ev_aload_n dX1_settleNicks_32 rfl 1 rfl ?_
        refine ev_iload dX1_settleNicks_33 5 rfl ?_
        refine ev_iload dX1_settleNicks_35 6 rfl ?_
        refine ev_callVi (x := oI (hm (((fo k (fun n T => sn3F (net (σ 1) a) (net (σ 1) b) n T) (σ 2, σ 3, σ 4)).1)) (net (σ 1) b) k)) dX1_settleNicks_37 M_X1_32 Y_X4_homeIn [.int (net (σ 1) b), .int (nI k)] (c_X4_homeIn (net (σ 1) b) k (by omega)) (by decide) (Nat.le_of_ble_eq_true rfl) (by decide) sh_0 rfl rfl rfl (Nat.le_of_ble_eq_true rfl) ?_
        rcases ho37 : hm (((fo k (fun n T => sn3F (net (σ 1) a) (net (σ 1) b) n T) (σ 2, σ 3, σ 4)).1)) (net (σ 1) b) k with _ | u37
        · refine ev_top (v := (-1)) rfl ?_
          refine ev_istore (lv' := [(7, .int (-1)), (6, .int (-1)), (0, .ref 0), (1, .int (nI a)), (2, .int (nI b)), (3, .int (net (σ 1) a)), (4, .int (net (σ 1) b)), (5, .int (nI k))]) dX1_settleNicks_40 (by decide) rfl ?_
          refine ev_iload dX1_settleNicks_42 1 rfl ?_
          refine ev_iconst dX1_settleNicks_44 (v := (-1)) (by decide) ?_
          refine ev_icmp_eq (tgt := 64) dX1_settleNicks_45 (by decide) (fun h45 => ?_) (fun h45 => ?_)
          · refine ev_iinc (lv' := [(5, .int (nI (k + 1))), (7, .int (-1)), (6, .int (-1)), (0, .ref 0), (1, .int (nI a)), (2, .int (nI b)), (3, .int (net (σ 1) a)), (4, .int (net (σ 1) b))]) dX1_settleNicks_64 7 rfl (nI_inc k) (by decide) rfl ?_
            refine ev_goto (tgt := 16) dX1_settleNicks_67 (by decide) ?_
            refine ev_lv (lv' := [(0, .ref 0), (1, .int (nI a)), (2, .int (nI b)), (3, .int (net (σ 1) a)), (4, .int (net (σ 1) b)), (5, .int (nI (k + 1)))]) [3, 4, 5, 6, 7, 0] rfl ?_
            have ih9 : av_Ev l RX1 cX1_settleNicks 8 none av_E0 4 16 [(0, .ref 0), (1, .int (nI a)), (2, .int (nI b)), (3, .int (net (σ 1) a)), (4, .int (net (σ 1) b)), (5, .int (nI (k + 1)))] [] (av_set (av_set (av_set σ 2 ((fo (k + 1) (fun n T => sn3F (net (σ 1) a) (net (σ 1) b) n T) (σ 2, σ 3, σ 4)).1)) 3 ((fo (k + 1) (fun n T => sn3F (net (σ 1) a) (net (σ 1) b) n T) (σ 2, σ 3, σ 4)).2.1)) 4 ((fo (k + 1) (fun n T => sn3F (net (σ 1) a) (net (σ 1) b) n T) (σ 2, σ 3, σ 4)).2.2)) Q := ihk
            rw [show av_set (av_set (av_set σ 2 ((fo (k + 1) (fun n T => sn3F (net (σ 1) a) (net (σ 1) b) n T) (σ 2, σ 3, σ 4)).1)) 3 ((fo (k + 1) (fun n T => sn3F (net (σ 1) a) (net (σ 1) b) n T) (σ 2, σ 3, σ 4)).2.1)) 4 ((fo (k + 1) (fun n T => sn3F (net (σ 1) a) (net (σ 1) b) n T) (σ 2, σ 3, σ 4)).2.2) = av_set (av_set (av_set σ 2 ((fo k (fun n T => sn3F (net (σ 1) a) (net (σ 1) b) n T) (σ 2, σ 3, σ 4)).1)) 3 ((fo k (fun n T => sn3F (net (σ 1) a) (net (σ 1) b) n T) (σ 2, σ 3, σ 4)).2.1)) 4 ((fo k (fun n T => sn3F (net (σ 1) a) (net (σ 1) b) n T) (σ 2, σ 3, σ 4)).2.2) from (by simp only [fo_s]; first | rw [sn3F_n1 ho27] | rw [sn3F_n2 ho37] | rw [sn3F_ss ho27 ho37])] at ih9
            exact ih9
          · exact absurd rfl h45
        · have hu37 : u37 < 6 := hm_lt ho37
          refine ev_top (v := nI u37) rfl ?_
          refine ev_istore (lv' := [(7, .int (nI u37)), (6, .int (-1)), (0, .ref 0), (1, .int (nI a)), (2, .int (nI b)), (3, .int (net (σ 1) a)), (4, .int (net (σ 1) b)), (5, .int (nI k))]) dX1_settleNicks_40 (by decide) rfl ?_
          refine ev_iload dX1_settleNicks_42 1 rfl ?_
          refine ev_iconst dX1_settleNicks_44 (v := (-1)) (by decide) ?_
          refine ev_icmp_eq (tgt := 64) dX1_settleNicks_45 (by decide) (fun h45 => ?_) (fun h45 => ?_)
          · refine ev_iinc (lv' := [(5, .int (nI (k + 1))), (7, .int (nI u37)), (6, .int (-1)), (0, .ref 0), (1, .int (nI a)), (2, .int (nI b)), (3, .int (net (σ 1) a)), (4, .int (net (σ 1) b))]) dX1_settleNicks_64 7 rfl (nI_inc k) (by decide) rfl ?_
            refine ev_goto (tgt := 16) dX1_settleNicks_67 (by decide) ?_
            refine ev_lv (lv' := [(0, .ref 0), (1, .int (nI a)), (2, .int (nI b)), (3, .int (net (σ 1) a)), (4, .int (net (σ 1) b)), (5, .int (nI (k + 1)))]) [3, 4, 5, 6, 7, 0] rfl ?_
            have ih9 : av_Ev l RX1 cX1_settleNicks 8 none av_E0 4 16 [(0, .ref 0), (1, .int (nI a)), (2, .int (nI b)), (3, .int (net (σ 1) a)), (4, .int (net (σ 1) b)), (5, .int (nI (k + 1)))] [] (av_set (av_set (av_set σ 2 ((fo (k + 1) (fun n T => sn3F (net (σ 1) a) (net (σ 1) b) n T) (σ 2, σ 3, σ 4)).1)) 3 ((fo (k + 1) (fun n T => sn3F (net (σ 1) a) (net (σ 1) b) n T) (σ 2, σ 3, σ 4)).2.1)) 4 ((fo (k + 1) (fun n T => sn3F (net (σ 1) a) (net (σ 1) b) n T) (σ 2, σ 3, σ 4)).2.2)) Q := ihk
            rw [show av_set (av_set (av_set σ 2 ((fo (k + 1) (fun n T => sn3F (net (σ 1) a) (net (σ 1) b) n T) (σ 2, σ 3, σ 4)).1)) 3 ((fo (k + 1) (fun n T => sn3F (net (σ 1) a) (net (σ 1) b) n T) (σ 2, σ 3, σ 4)).2.1)) 4 ((fo (k + 1) (fun n T => sn3F (net (σ 1) a) (net (σ 1) b) n T) (σ 2, σ 3, σ 4)).2.2) = av_set (av_set (av_set σ 2 ((fo k (fun n T => sn3F (net (σ 1) a) (net (σ 1) b) n T) (σ 2, σ 3, σ 4)).1)) 3 ((fo k (fun n T => sn3F (net (σ 1) a) (net (σ 1) b) n T) (σ 2, σ 3, σ 4)).2.1)) 4 ((fo k (fun n T => sn3F (net (σ 1) a) (net (σ 1) b) n T) (σ 2, σ 3, σ 4)).2.2) from (by simp only [fo_s]; first | rw [sn3F_n1 ho27] | rw [sn3F_n2 ho37] | rw [sn3F_ss ho27 ho37])] at ih9
            exact ih9
          · exact absurd rfl h45
      · have hu27 : u27 < 6 := hm_lt ho27
        refine ev_top (v := nI u27) rfl ?_
        refine ev_istore (lv' := [(6, .int (nI u27)), (0, .ref 0), (1, .int (nI a)), (2, .int (nI b)), (3, .int (net (σ 1) a)), (4, .int (net (σ 1) b)), (5, .int (nI k))]) dX1_settleNicks_30 (by decide) rfl ?_
        refine ev_aload_n dX1_settleNicks_32 rfl 1 rfl ?_
        refine ev_iload dX1_settleNicks_33 5 rfl ?_
        refine ev_iload dX1_settleNicks_35 6 rfl ?_
        refine ev_callVi (x := oI (hm (((fo k (fun n T => sn3F (net (σ 1) a) (net (σ 1) b) n T) (σ 2, σ 3, σ 4)).1)) (net (σ 1) b) k)) dX1_settleNicks_37 M_X1_32 Y_X4_homeIn [.int (net (σ 1) b), .int (nI k)] (c_X4_homeIn (net (σ 1) b) k (by omega)) (by decide) (Nat.le_of_ble_eq_true rfl) (by decide) sh_0 rfl rfl rfl (Nat.le_of_ble_eq_true rfl) ?_
        rcases ho37 : hm (((fo k (fun n T => sn3F (net (σ 1) a) (net (σ 1) b) n T) (σ 2, σ 3, σ 4)).1)) (net (σ 1) b) k with _ | u37
        · refine ev_top (v := (-1)) rfl ?_
          refine ev_istore (lv' := [(7, .int (-1)), (6, .int (nI u27)), (0, .ref 0), (1, .int (nI a)), (2, .int (nI b)), (3, .int (net (σ 1) a)), (4, .int (net (σ 1) b)), (5, .int (nI k))]) dX1_settleNicks_40 (by decide) rfl ?_
          refine ev_iload dX1_settleNicks_42 1 rfl ?_
          refine ev_iconst dX1_settleNicks_44 (v := (-1)) (by decide) ?_
          refine ev_icmp_eq (tgt := 64) dX1_settleNicks_45 (by decide) (fun h45 => ?_) (fun h45 => ?_)
          · exact absurd h45 (nI_neg (by omega) (by decide))
          · refine ev_iload dX1_settleNicks_48 0 rfl ?_
            refine ev_iconst dX1_settleNicks_50 (v := (-1)) (by decide) ?_
            refine ev_icmp_eq (tgt := 64) dX1_settleNicks_51 (by decide) (fun h51 => ?_) (fun h51 => ?_)
            · refine ev_iinc (lv' := [(5, .int (nI (k + 1))), (7, .int (-1)), (6, .int (nI u27)), (0, .ref 0), (1, .int (nI a)), (2, .int (nI b)), (3, .int (net (σ 1) a)), (4, .int (net (σ 1) b))]) dX1_settleNicks_64 7 rfl (nI_inc k) (by decide) rfl ?_
              refine ev_goto (tgt := 16) dX1_settleNicks_67 (by decide) ?_
              refine ev_lv (lv' := [(0, .ref 0), (1, .int (nI a)), (2, .int (nI b)), (3, .int (net (σ 1) a)), (4, .int (net (σ 1) b)), (5, .int (nI (k + 1)))]) [3, 4, 5, 6, 7, 0] rfl ?_
              have ih9 : av_Ev l RX1 cX1_settleNicks 8 none av_E0 4 16 [(0, .ref 0), (1, .int (nI a)), (2, .int (nI b)), (3, .int (net (σ 1) a)), (4, .int (net (σ 1) b)), (5, .int (nI (k + 1)))] [] (av_set (av_set (av_set σ 2 ((fo (k + 1) (fun n T => sn3F (net (σ 1) a) (net (σ 1) b) n T) (σ 2, σ 3, σ 4)).1)) 3 ((fo (k + 1) (fun n T => sn3F (net (σ 1) a) (net (σ 1) b) n T) (σ 2, σ 3, σ 4)).2.1)) 4 ((fo (k + 1) (fun n T => sn3F (net (σ 1) a) (net (σ 1) b) n T) (σ 2, σ 3, σ 4)).2.2)) Q := ihk
              rw [show av_set (av_set (av_set σ 2 ((fo (k + 1) (fun n T => sn3F (net (σ 1) a) (net (σ 1) b) n T) (σ 2, σ 3, σ 4)).1)) 3 ((fo (k + 1) (fun n T => sn3F (net (σ 1) a) (net (σ 1) b) n T) (σ 2, σ 3, σ 4)).2.1)) 4 ((fo (k + 1) (fun n T => sn3F (net (σ 1) a) (net (σ 1) b) n T) (σ 2, σ 3, σ 4)).2.2) = av_set (av_set (av_set σ 2 ((fo k (fun n T => sn3F (net (σ 1) a) (net (σ 1) b) n T) (σ 2, σ 3, σ 4)).1)) 3 ((fo k (fun n T => sn3F (net (σ 1) a) (net (σ 1) b) n T) (σ 2, σ 3, σ 4)).2.1)) 4 ((fo k (fun n T => sn3F (net (σ 1) a) (net (σ 1) b) n T) (σ 2, σ 3, σ 4)).2.2) from (by simp only [fo_s]; first | rw [sn3F_n1 ho27] | rw [sn3F_n2 ho37] | rw [sn3F_ss ho27 ho37])] at ih9
              exact ih9
            · exact absurd rfl h51
        · have hu37 : u37 < 6 := hm_lt ho37
          refine ev_top (v := nI u37) rfl ?_
          refine ev_istore (lv' := [(7, .int (nI u37)), (6, .int (nI u27)), (0, .ref 0), (1, .int (nI a)), (2, .int (nI b)), (3, .int (net (σ 1) a)), (4, .int (net (σ 1) b)), (5, .int (nI k))]) dX1_settleNicks_40 (by decide) rfl ?_
          refine ev_iload dX1_settleNicks_42 1 rfl ?_
          refine ev_iconst dX1_settleNicks_44 (v := (-1)) (by decide) ?_
          refine ev_icmp_eq (tgt := 64) dX1_settleNicks_45 (by decide) (fun h45 => ?_) (fun h45 => ?_)
          · exact absurd h45 (nI_neg (by omega) (by decide))
          · refine ev_iload dX1_settleNicks_48 0 rfl ?_
            refine ev_iconst dX1_settleNicks_50 (v := (-1)) (by decide) ?_
            refine ev_icmp_eq (tgt := 64) dX1_settleNicks_51 (by decide) (fun h51 => ?_) (fun h51 => ?_)
            · exact absurd h51 (nI_neg (by omega) (by decide))
            · refine ev_aload_n dX1_settleNicks_54 rfl 2 rfl ?_
              refine ev_iload dX1_settleNicks_55 7 rfl ?_
              refine ev_iload dX1_settleNicks_57 1 rfl ?_
              refine ev_iload dX1_settleNicks_59 0 rfl ?_
              refine ev_callSv dX1_settleNicks_61 (Or.inl M_X1_35) Y_X1_settleCollision [.ref 0, .int (nI k), .int (nI u27), .int (nI u37)] (c_X1_settleCollision k u27 u37 (by omega) (by omega) (by omega)) (by decide) (Nat.le_of_ble_eq_true rfl) rfl rfl (Nat.le_of_ble_eq_true rfl) ?_
              refine ev_st (σ' := av_set (av_set (av_set σ 2 ((sc3 (((fo k (fun n T => sn3F (net (σ 1) a) (net (σ 1) b) n T) (σ 2, σ 3, σ 4)).1), ((fo k (fun n T => sn3F (net (σ 1) a) (net (σ 1) b) n T) (σ 2, σ 3, σ 4)).2.1), ((fo k (fun n T => sn3F (net (σ 1) a) (net (σ 1) b) n T) (σ 2, σ 3, σ 4)).2.2)) k u27 u37).1)) 3 ((sc3 (((fo k (fun n T => sn3F (net (σ 1) a) (net (σ 1) b) n T) (σ 2, σ 3, σ 4)).1), ((fo k (fun n T => sn3F (net (σ 1) a) (net (σ 1) b) n T) (σ 2, σ 3, σ 4)).2.1), ((fo k (fun n T => sn3F (net (σ 1) a) (net (σ 1) b) n T) (σ 2, σ 3, σ 4)).2.2)) k u27 u37).2.1)) 4 ((sc3 (((fo k (fun n T => sn3F (net (σ 1) a) (net (σ 1) b) n T) (σ 2, σ 3, σ 4)).1), ((fo k (fun n T => sn3F (net (σ 1) a) (net (σ 1) b) n T) (σ 2, σ 3, σ 4)).2.1), ((fo k (fun n T => sn3F (net (σ 1) a) (net (σ 1) b) n T) (σ 2, σ 3, σ 4)).2.2)) k u27 u37).2.2)) (by first | rfl | (funext a; by_cases q2 : a = 2; (next => subst q2; rfl); by_cases q3 : a = 3; (next => subst q3; rfl); by_cases q4 : a = 4; (next => subst q4; rfl); simp only [av_set, q2, q3, q4, if_false]) | exact av_set_set _ _ _ _ | (funext a; unfold av_set; (repeat' split) <;> first | rfl | (exfalso; omega)) | (funext a; simp only [av_set, cpS]; (repeat' split) <;> first | rfl | (exfalso; omega))) ?_
              refine ev_iinc (lv' := [(5, .int (nI (k + 1))), (7, .int (nI u37)), (6, .int (nI u27)), (0, .ref 0), (1, .int (nI a)), (2, .int (nI b)), (3, .int (net (σ 1) a)), (4, .int (net (σ 1) b))]) dX1_settleNicks_64 7 rfl (nI_inc k) (by decide) rfl ?_
              refine ev_goto (tgt := 16) dX1_settleNicks_67 (by decide) ?_
              refine ev_lv (lv' := [(0, .ref 0), (1, .int (nI a)), (2, .int (nI b)), (3, .int (net (σ 1) a)), (4, .int (net (σ 1) b)), (5, .int (nI (k + 1)))]) [3, 4, 5, 6, 7, 0] rfl ?_
              have ih9 : av_Ev l RX1 cX1_settleNicks 8 none av_E0 4 16 [(0, .ref 0), (1, .int (nI a)), (2, .int (nI b)), (3, .int (net (σ 1) a)), (4, .int (net (σ 1) b)), (5, .int (nI (k + 1)))] [] (av_set (av_set (av_set σ 2 ((fo (k + 1) (fun n T => sn3F (net (σ 1) a) (net (σ 1) b) n T) (σ 2, σ 3, σ 4)).1)) 3 ((fo (k + 1) (fun n T => sn3F (net (σ 1) a) (net (σ 1) b) n T) (σ 2, σ 3, σ 4)).2.1)) 4 ((fo (k + 1) (fun n T => sn3F (net (σ 1) a) (net (σ 1) b) n T) (σ 2, σ 3, σ 4)).2.2)) Q := ihk
              rw [show av_set (av_set (av_set σ 2 ((fo (k + 1) (fun n T => sn3F (net (σ 1) a) (net (σ 1) b) n T) (σ 2, σ 3, σ 4)).1)) 3 ((fo (k + 1) (fun n T => sn3F (net (σ 1) a) (net (σ 1) b) n T) (σ 2, σ 3, σ 4)).2.1)) 4 ((fo (k + 1) (fun n T => sn3F (net (σ 1) a) (net (σ 1) b) n T) (σ 2, σ 3, σ 4)).2.2) = av_set (av_set (av_set σ 2 ((sc3 (((fo k (fun n T => sn3F (net (σ 1) a) (net (σ 1) b) n T) (σ 2, σ 3, σ 4)).1), ((fo k (fun n T => sn3F (net (σ 1) a) (net (σ 1) b) n T) (σ 2, σ 3, σ 4)).2.1), ((fo k (fun n T => sn3F (net (σ 1) a) (net (σ 1) b) n T) (σ 2, σ 3, σ 4)).2.2)) k u27 u37).1)) 3 ((sc3 (((fo k (fun n T => sn3F (net (σ 1) a) (net (σ 1) b) n T) (σ 2, σ 3, σ 4)).1), ((fo k (fun n T => sn3F (net (σ 1) a) (net (σ 1) b) n T) (σ 2, σ 3, σ 4)).2.1), ((fo k (fun n T => sn3F (net (σ 1) a) (net (σ 1) b) n T) (σ 2, σ 3, σ 4)).2.2)) k u27 u37).2.1)) 4 ((sc3 (((fo k (fun n T => sn3F (net (σ 1) a) (net (σ 1) b) n T) (σ 2, σ 3, σ 4)).1), ((fo k (fun n T => sn3F (net (σ 1) a) (net (σ 1) b) n T) (σ 2, σ 3, σ 4)).2.1), ((fo k (fun n T => sn3F (net (σ 1) a) (net (σ 1) b) n T) (σ 2, σ 3, σ 4)).2.2)) k u27 u37).2.2) from (by simp only [fo_s]; first | rw [sn3F_n1 ho27] | rw [sn3F_n2 ho37] | rw [sn3F_ss ho27 ho37])] at ih9
              exact ih9

set_option maxRecDepth 100000 in
set_option maxHeartbeats 1000000 in
theorem c_X1_tellOfChannel {l : Launch} {σ : av_S} (s : Nat) (N : Int32) (ch : Nat) (hs : s < 6) (hc : ch < 4) : av_M l RX1 cX1_tellOfChannel 4 none 2 [.ref 0, .int (nI s), .int N, .int (nI ch)] σ none (av_set (av_set σ 5 (ds (σ 5) N ch (σ 5 (s * 4 + ch)))) 6 (ds (σ 6) N ch (σ 6 (s * 4 + ch)))) := by
  intro Q hQ
  show av_Ev l RX1 cX1_tellOfChannel 4 none av_E0 2 0 [(0, .ref 0), (1, .int (nI s)), (2, .int N), (3, .int (nI ch))] [] σ Q
  refine ev_aload_n dX1_tellOfChannel_0 rfl 0 rfl ?_
  refine ev_iload_n dX1_tellOfChannel_1 rfl 2 rfl ?_
  refine ev_iload_n dX1_tellOfChannel_2 rfl 3 rfl ?_
  refine ev_aload_n dX1_tellOfChannel_3 rfl 0 rfl ?_
  refine ev_iload_n dX1_tellOfChannel_4 rfl 1 rfl ?_
  refine ev_iload_n dX1_tellOfChannel_5 rfl 3 rfl ?_
  refine ev_callVi (x := σ 5 (s * 4 + ch)) dX1_tellOfChannel_6 M_X1_63 Y_X4_timeOfChannel [.int (nI s), .int (nI ch)] (c_X4_timeOfChannel s ch (by omega) (by omega)) (by decide) (Nat.le_of_ble_eq_true rfl) (by decide) sh_0 rfl rfl rfl (Nat.le_of_ble_eq_true rfl) ?_
  refine ev_aload_n dX1_tellOfChannel_9 rfl 0 rfl ?_
  refine ev_iload_n dX1_tellOfChannel_10 rfl 1 rfl ?_
  refine ev_iload_n dX1_tellOfChannel_11 rfl 3 rfl ?_
  refine ev_callVi (x := σ 6 (s * 4 + ch)) dX1_tellOfChannel_12 M_X1_69 Y_X4_modesOfChannel [.int (nI s), .int (nI ch)] (c_X4_modesOfChannel s ch (by omega) (by omega)) (by decide) (Nat.le_of_ble_eq_true rfl) (by decide) sh_0 rfl rfl rfl (Nat.le_of_ble_eq_true rfl) ?_
  refine ev_callVv (σ' := av_set (av_set σ 5 (ds (σ 5) N ch (σ 5 (s * 4 + ch)))) 6 (ds (σ 6) N ch (σ 6 (s * 4 + ch)))) dX1_tellOfChannel_15 M_X1_72 Y_X4_describeChannel [.int N, .int (nI ch), .int (σ 5 (s * 4 + ch)), .int (σ 6 (s * 4 + ch))] (c_X4_describeChannel N ch (σ 5 (s * 4 + ch)) (σ 6 (s * 4 + ch)) (by omega)) (by decide) (Nat.le_of_ble_eq_true rfl) (by decide) sh_0 rfl rfl rfl (Nat.le_of_ble_eq_true rfl) ?_
  exact ev_return dX1_tellOfChannel_18 rfl (leafV hQ rfl)

set_option maxRecDepth 100000 in
set_option maxHeartbeats 1000000 in
theorem c_X1_overruleChannel {l : Launch} {σ : av_S} (o : Nat) (y : Nat) (ch : Nat) (ho : o < 6) (hy : y < 6) (hc : ch < 4) : av_M l RX1 cX1_overruleChannel 5 none 3 [.ref 0, .int (nI o), .int (nI y), .int (nI ch)] σ none (av_set (av_set (av_set (av_set σ 0 (upd (upd (σ 0) 2 (σ 0 2 + jbc (un (σ 4) (net (σ 1) y) ch))) 3 (σ 0 3 + jbc (σ 6 (y * 4 + ch))))) 4 (so (σ 3) (σ 4) (net (σ 1) y) ch (nI 0))) 5 (ds (σ 5) (net (σ 1) y) ch (σ 5 (o * 4 + ch)))) 6 (ds (σ 6) (net (σ 1) y) ch (σ 6 (o * 4 + ch)))) := by
  intro Q hQ
  show av_Ev l RX1 cX1_overruleChannel 5 none av_E0 3 0 [(0, .ref 0), (1, .int (nI o)), (2, .int (nI y)), (3, .int (nI ch))] [] σ Q
  refine ev_aload_n dX1_overruleChannel_0 rfl 0 rfl ?_
  refine ev_iload_n dX1_overruleChannel_1 rfl 2 rfl ?_
  refine ev_callVi (x := net (σ 1) y) dX1_overruleChannel_2 M_X1_18 Y_X4_networkOf [.int (nI y)] (c_X4_networkOf y (by omega)) (by decide) (Nat.le_of_ble_eq_true rfl) (by decide) sh_0 rfl rfl rfl (Nat.le_of_ble_eq_true rfl) ?_
  refine ev_istore (lv' := [(4, .int (net (σ 1) y)), (0, .ref 0), (1, .int (nI o)), (2, .int (nI y)), (3, .int (nI ch))]) dX1_overruleChannel_5 (by decide) rfl ?_
  refine ev_aload_n dX1_overruleChannel_7 rfl 1 rfl ?_
  refine ev_dup_a dX1_overruleChannel_8 ?_
  refine ev_getI dX1_overruleChannel_9 C_X4 L_X1_46 (by decide) (by decide) sh_0 rfl ?_
  refine ev_aload_n dX1_overruleChannel_12 rfl 1 rfl ?_
  refine ev_iload dX1_overruleChannel_13 0 rfl ?_
  refine ev_iload_n dX1_overruleChannel_15 rfl 4 rfl ?_
  refine ev_callVi (x := un (σ 4) (net (σ 1) y) ch) dX1_overruleChannel_16 M_X1_76 Y_X4_operatorsIn [.int (net (σ 1) y), .int (nI ch)] (c_X4_operatorsIn (net (σ 1) y) ch (by omega)) (by decide) (Nat.le_of_ble_eq_true rfl) (by decide) sh_0 rfl rfl rfl (Nat.le_of_ble_eq_true rfl) ?_
  refine ev_callSi (x := jbc (un (σ 4) (net (σ 1) y) ch)) dX1_overruleChannel_19 (Or.inl M_X1_79) Y_J6_bitCount_0f7a4 [.int (un (σ 4) (net (σ 1) y) ch)] (c_J6_bitCount_0f7a4 (un (σ 4) (net (σ 1) y) ch) ) (by decide) (Nat.le_of_ble_eq_true rfl) rfl rfl (Nat.le_of_ble_eq_true rfl) ?_
  refine ev_iadd dX1_overruleChannel_22 ?_
  refine ev_putI dX1_overruleChannel_23 C_X4 L_X1_46 (by decide) (by decide) sh_0 rfl rfl rfl ?_
  refine ev_aload_n dX1_overruleChannel_26 rfl 1 rfl ?_
  refine ev_dup_a dX1_overruleChannel_27 ?_
  refine ev_getI dX1_overruleChannel_28 C_X4 L_X1_50 (by decide) (by decide) sh_0 rfl ?_
  refine ev_top (v := σ 0 3) (by first | rfl | (simp only [av_set, cpS]; (repeat' split) <;> first | rfl | (exfalso; omega))) ?_
  refine ev_aload_n dX1_overruleChannel_31 rfl 1 rfl ?_
  refine ev_iload_n dX1_overruleChannel_32 rfl 3 rfl ?_
  refine ev_iload_n dX1_overruleChannel_33 rfl 4 rfl ?_
  refine ev_callVi (x := (σ 6) (y * 4 + ch)) dX1_overruleChannel_34 M_X1_69 Y_X4_modesOfChannel [.int (nI y), .int (nI ch)] (c_X4_modesOfChannel y ch (by omega) (by omega)) (by decide) (Nat.le_of_ble_eq_true rfl) (by decide) sh_0 rfl rfl rfl (Nat.le_of_ble_eq_true rfl) ?_
  refine ev_callSi (x := jbc ((σ 6) (y * 4 + ch))) dX1_overruleChannel_37 (Or.inl M_X1_79) Y_J6_bitCount_0f7a4 [.int ((σ 6) (y * 4 + ch))] (c_J6_bitCount_0f7a4 ((σ 6) (y * 4 + ch)) ) (by decide) (Nat.le_of_ble_eq_true rfl) rfl rfl (Nat.le_of_ble_eq_true rfl) ?_
  refine ev_iadd dX1_overruleChannel_40 ?_
  refine ev_putI dX1_overruleChannel_41 C_X4 L_X1_50 (by decide) (by decide) sh_0 rfl rfl rfl ?_
  refine ev_st (σ' := av_set σ 0 (upd (upd (σ 0) 2 ((σ 0 2) + (jbc (un (σ 4) (net (σ 1) y) ch)))) 3 ((σ 0 3) + (jbc ((σ 6) (y * 4 + ch)))))) (by first | rfl | (funext a; by_cases q0 : a = 0; (next => subst q0; rfl); simp only [av_set, q0, if_false]) | exact av_set_set _ _ _ _ | (funext a; unfold av_set; (repeat' split) <;> first | rfl | (exfalso; omega)) | (funext a; simp only [av_set, cpS]; (repeat' split) <;> first | rfl | (exfalso; omega))) ?_
  refine ev_aload_n dX1_overruleChannel_44 rfl 1 rfl ?_
  refine ev_iload dX1_overruleChannel_45 0 rfl ?_
  refine ev_iload_n dX1_overruleChannel_47 rfl 4 rfl ?_
  refine ev_iconst dX1_overruleChannel_48 (v := nI 0) (by decide) ?_
  refine ev_callVv dX1_overruleChannel_49 M_X1_84 Y_X4_setOperators [.int (net (σ 1) y), .int (nI ch), .int (nI 0)] (c_X4_setOperators (net (σ 1) y) ch (nI 0) (by omega)) (by decide) (Nat.le_of_ble_eq_true rfl) (by decide) sh_0 rfl rfl rfl (Nat.le_of_ble_eq_true rfl) ?_
  refine ev_st (σ' := av_set (av_set σ 0 (upd (upd (σ 0) 2 ((σ 0 2) + (jbc (un (σ 4) (net (σ 1) y) ch)))) 3 ((σ 0 3) + (jbc ((σ 6) (y * 4 + ch)))))) 4 (so ((σ 3)) ((σ 4)) (net (σ 1) y) ch (nI 0))) (by first | rfl | (funext a; by_cases q0 : a = 0; (next => subst q0; rfl); by_cases q4 : a = 4; (next => subst q4; rfl); simp only [av_set, q0, q4, if_false]) | exact av_set_set _ _ _ _ | (funext a; unfold av_set; (repeat' split) <;> first | rfl | (exfalso; omega)) | (funext a; simp only [av_set, cpS]; (repeat' split) <;> first | rfl | (exfalso; omega))) ?_
  refine ev_aload_n dX1_overruleChannel_52 rfl 1 rfl ?_
  refine ev_iload_n dX1_overruleChannel_53 rfl 2 rfl ?_
  refine ev_iload dX1_overruleChannel_54 0 rfl ?_
  refine ev_iload_n dX1_overruleChannel_56 rfl 4 rfl ?_
  refine ev_callSv dX1_overruleChannel_57 (Or.inl M_X1_60) Y_X1_tellOfChannel [.ref 0, .int (nI o), .int (net (σ 1) y), .int (nI ch)] (c_X1_tellOfChannel o (net (σ 1) y) ch (by omega) (by omega)) (by decide) (Nat.le_of_ble_eq_true rfl) rfl rfl (Nat.le_of_ble_eq_true rfl) ?_
  refine ev_st (σ' := av_set (av_set (av_set (av_set σ 0 (upd (upd (σ 0) 2 ((σ 0 2) + (jbc (un (σ 4) (net (σ 1) y) ch)))) 3 ((σ 0 3) + (jbc ((σ 6) (y * 4 + ch)))))) 4 (so ((σ 3)) ((σ 4)) (net (σ 1) y) ch (nI 0))) 5 (ds ((σ 5)) (net (σ 1) y) ch ((σ 5) (o * 4 + ch)))) 6 (ds ((σ 6)) (net (σ 1) y) ch ((σ 6) (o * 4 + ch)))) (by first | rfl | (funext a; by_cases q0 : a = 0; (next => subst q0; rfl); by_cases q4 : a = 4; (next => subst q4; rfl); by_cases q5 : a = 5; (next => subst q5; rfl); by_cases q6 : a = 6; (next => subst q6; rfl); simp only [av_set, q0, q4, q5, q6, if_false]) | exact av_set_set _ _ _ _ | (funext a; unfold av_set; (repeat' split) <;> first | rfl | (exfalso; omega)) | (funext a; simp only [av_set, cpS]; (repeat' split) <;> first | rfl | (exfalso; omega))) ?_
  exact ev_return dX1_overruleChannel_60 rfl (leafV hQ rfl)

set_option maxRecDepth 100000 in
set_option maxHeartbeats 1000000 in
theorem c_X1_uniteChannels {l : Launch} {σ : av_S} (a : Nat) (b : Nat) (ch : Nat) (ha : a < 6) (hb : b < 6) (hc : ch < 4) : av_M l RX1 cX1_uniteChannels 7 none 4 [.ref 0, .int (nI a), .int (nI b), .int (nI ch)] σ none (av_set (av_set (av_set (av_set σ 0 ((uc4 (σ 1) (σ 3) (σ 0, σ 4, σ 5, σ 6) a b ch).1)) 4 ((uc4 (σ 1) (σ 3) (σ 0, σ 4, σ 5, σ 6) a b ch).2.1)) 5 ((uc4 (σ 1) (σ 3) (σ 0, σ 4, σ 5, σ 6) a b ch).2.2.1)) 6 ((uc4 (σ 1) (σ 3) (σ 0, σ 4, σ 5, σ 6) a b ch).2.2.2)) := by
  intro Q hQ
  show av_Ev l RX1 cX1_uniteChannels 7 none av_E0 4 0 [(0, .ref 0), (1, .int (nI a)), (2, .int (nI b)), (3, .int (nI ch))] [] σ Q
  refine ev_aload_n dX1_uniteChannels_0 rfl 0 rfl ?_
  refine ev_iload_n dX1_uniteChannels_1 rfl 1 rfl ?_
  refine ev_iload_n dX1_uniteChannels_2 rfl 3 rfl ?_
  refine ev_callVi (x := σ 5 (a * 4 + ch)) dX1_uniteChannels_3 M_X1_63 Y_X4_timeOfChannel [.int (nI a), .int (nI ch)] (c_X4_timeOfChannel a ch (by omega) (by omega)) (by decide) (Nat.le_of_ble_eq_true rfl) (by decide) sh_0 rfl rfl rfl (Nat.le_of_ble_eq_true rfl) ?_
  refine ev_istore (lv' := [(4, .int (σ 5 (a * 4 + ch))), (0, .ref 0), (1, .int (nI a)), (2, .int (nI b)), (3, .int (nI ch))]) dX1_uniteChannels_6 (by decide) rfl ?_
  refine ev_aload_n dX1_uniteChannels_8 rfl 1 rfl ?_
  refine ev_iload_n dX1_uniteChannels_9 rfl 3 rfl ?_
  refine ev_iload_n dX1_uniteChannels_10 rfl 4 rfl ?_
  refine ev_callVi (x := σ 5 (b * 4 + ch)) dX1_uniteChannels_11 M_X1_63 Y_X4_timeOfChannel [.int (nI b), .int (nI ch)] (c_X4_timeOfChannel b ch (by omega) (by omega)) (by decide) (Nat.le_of_ble_eq_true rfl) (by decide) sh_0 rfl rfl rfl (Nat.le_of_ble_eq_true rfl) ?_
  refine ev_istore (lv' := [(5, .int (σ 5 (b * 4 + ch))), (4, .int (σ 5 (a * 4 + ch))), (0, .ref 0), (1, .int (nI a)), (2, .int (nI b)), (3, .int (nI ch))]) dX1_uniteChannels_14 (by decide) rfl ?_
  refine ev_iload dX1_uniteChannels_16 1 rfl ?_
  refine ev_iload dX1_uniteChannels_18 0 rfl ?_
  refine ev_icmp_ge (tgt := 33) dX1_uniteChannels_20 (by decide) (fun h20 => ?_) (fun h20 => ?_)
  · refine ev_iload dX1_uniteChannels_33 0 rfl ?_
    refine ev_iload dX1_uniteChannels_35 1 rfl ?_
    refine ev_icmp_ge (tgt := 50) dX1_uniteChannels_37 (by decide) (fun h37 => ?_) (fun h37 => ?_)
    · refine ev_aload_n dX1_uniteChannels_50 rfl 2 rfl ?_
      refine ev_iload_n dX1_uniteChannels_51 rfl 3 rfl ?_
      refine ev_iload_n dX1_uniteChannels_52 rfl 5 rfl ?_
      refine ev_callVi (x := σ 6 (a * 4 + ch)) dX1_uniteChannels_53 M_X1_69 Y_X4_modesOfChannel [.int (nI a), .int (nI ch)] (c_X4_modesOfChannel a ch (by omega) (by omega)) (by decide) (Nat.le_of_ble_eq_true rfl) (by decide) sh_0 rfl rfl rfl (Nat.le_of_ble_eq_true rfl) ?_
      refine ev_aload_n dX1_uniteChannels_56 rfl 2 rfl ?_
      refine ev_iload_n dX1_uniteChannels_57 rfl 4 rfl ?_
      refine ev_iload_n dX1_uniteChannels_58 rfl 5 rfl ?_
      refine ev_callVi (x := σ 6 (b * 4 + ch)) dX1_uniteChannels_59 M_X1_69 Y_X4_modesOfChannel [.int (nI b), .int (nI ch)] (c_X4_modesOfChannel b ch (by omega) (by omega)) (by decide) (Nat.le_of_ble_eq_true rfl) (by decide) sh_0 rfl rfl rfl (Nat.le_of_ble_eq_true rfl) ?_
      refine ev_ior dX1_uniteChannels_62 ?_
      refine ev_istore (lv' := [(6, .int ((σ 6 (a * 4 + ch)) ||| (σ 6 (b * 4 + ch)))), (5, .int (σ 5 (b * 4 + ch))), (4, .int (σ 5 (a * 4 + ch))), (0, .ref 0), (1, .int (nI a)), (2, .int (nI b)), (3, .int (nI ch))]) dX1_uniteChannels_63 (by decide) rfl ?_
      refine ev_aload_n dX1_uniteChannels_65 rfl 3 rfl ?_
      refine ev_aload_n dX1_uniteChannels_66 rfl 3 rfl ?_
      refine ev_iload_n dX1_uniteChannels_67 rfl 4 rfl ?_
      refine ev_callVi (x := net (σ 1) a) dX1_uniteChannels_68 M_X1_18 Y_X4_networkOf [.int (nI a)] (c_X4_networkOf a (by omega)) (by decide) (Nat.le_of_ble_eq_true rfl) (by decide) sh_0 rfl rfl rfl (Nat.le_of_ble_eq_true rfl) ?_
      refine ev_iload_n dX1_uniteChannels_71 rfl 6 rfl ?_
      refine ev_iload dX1_uniteChannels_72 2 rfl ?_
      refine ev_iload dX1_uniteChannels_74 0 rfl ?_
      refine ev_callVv (σ' := av_set (av_set σ 5 (ds (σ 5) (net (σ 1) a) ch (σ 5 (a * 4 + ch)))) 6 (ds (σ 6) (net (σ 1) a) ch ((σ 6 (a * 4 + ch)) ||| (σ 6 (b * 4 + ch))))) dX1_uniteChannels_76 M_X1_72 Y_X4_describeChannel [.int (net (σ 1) a), .int (nI ch), .int (σ 5 (a * 4 + ch)), .int ((σ 6 (a * 4 + ch)) ||| (σ 6 (b * 4 + ch)))] (c_X4_describeChannel (net (σ 1) a) ch (σ 5 (a * 4 + ch)) ((σ 6 (a * 4 + ch)) ||| (σ 6 (b * 4 + ch))) (by omega)) (by decide) (Nat.le_of_ble_eq_true rfl) (by decide) sh_0 rfl rfl rfl (Nat.le_of_ble_eq_true rfl) ?_
      refine ev_aload_n dX1_uniteChannels_79 rfl 3 rfl ?_
      refine ev_aload_n dX1_uniteChannels_80 rfl 3 rfl ?_
      refine ev_iload_n dX1_uniteChannels_81 rfl 5 rfl ?_
      refine ev_callVi (x := net ((σ 1)) b) dX1_uniteChannels_82 M_X1_18 Y_X4_networkOf [.int (nI b)] (c_X4_networkOf b (by omega)) (by decide) (Nat.le_of_ble_eq_true rfl) (by decide) sh_0 rfl rfl rfl (Nat.le_of_ble_eq_true rfl) ?_
      refine ev_iload_n dX1_uniteChannels_85 rfl 6 rfl ?_
      refine ev_iload dX1_uniteChannels_86 2 rfl ?_
      refine ev_iload dX1_uniteChannels_88 0 rfl ?_
      refine ev_callVv dX1_uniteChannels_90 M_X1_72 Y_X4_describeChannel [.int (net ((σ 1)) b), .int (nI ch), .int (σ 5 (a * 4 + ch)), .int ((σ 6 (a * 4 + ch)) ||| (σ 6 (b * 4 + ch)))] (c_X4_describeChannel (net ((σ 1)) b) ch (σ 5 (a * 4 + ch)) ((σ 6 (a * 4 + ch)) ||| (σ 6 (b * 4 + ch))) (by omega)) (by decide) (Nat.le_of_ble_eq_true rfl) (by decide) sh_0 rfl rfl rfl (Nat.le_of_ble_eq_true rfl) ?_
      refine ev_st (σ' := av_set (av_set σ 5 (ds ((ds (σ 5) (net (σ 1) a) ch (σ 5 (a * 4 + ch)))) (net ((σ 1)) b) ch (σ 5 (a * 4 + ch)))) 6 (ds ((ds (σ 6) (net (σ 1) a) ch ((σ 6 (a * 4 + ch)) ||| (σ 6 (b * 4 + ch))))) (net ((σ 1)) b) ch ((σ 6 (a * 4 + ch)) ||| (σ 6 (b * 4 + ch))))) (by first | rfl | (funext a; by_cases q5 : a = 5; (next => subst q5; rfl); by_cases q6 : a = 6; (next => subst q6; rfl); simp only [av_set, q5, q6, if_false]) | exact av_set_set _ _ _ _ | (funext a; unfold av_set; (repeat' split) <;> first | rfl | (exfalso; omega)) | (funext a; simp only [av_set, cpS]; (repeat' split) <;> first | rfl | (exfalso; omega))) ?_
      exact ev_return dX1_uniteChannels_93 rfl (leafV hQ (by simp only [uc4, ov4, tc4, h20, h37, if_true, if_false] <;> (first | rfl | (funext a; unfold av_set; (repeat' split) <;> first | rfl | (subst_vars; rfl) | (exfalso; omega)))))
    · refine ev_aload_n dX1_uniteChannels_40 rfl 2 rfl ?_
      refine ev_iload_n dX1_uniteChannels_41 rfl 4 rfl ?_
      refine ev_iload_n dX1_uniteChannels_42 rfl 3 rfl ?_
      refine ev_iload_n dX1_uniteChannels_43 rfl 5 rfl ?_
      refine ev_callSv (σ' := av_set (av_set (av_set (av_set σ 0 (upd (upd (σ 0) 2 (σ 0 2 + jbc (un (σ 4) (net (σ 1) a) ch))) 3 (σ 0 3 + jbc (σ 6 (a * 4 + ch))))) 4 (so (σ 3) (σ 4) (net (σ 1) a) ch (nI 0))) 5 (ds (σ 5) (net (σ 1) a) ch (σ 5 (b * 4 + ch)))) 6 (ds (σ 6) (net (σ 1) a) ch (σ 6 (b * 4 + ch)))) dX1_uniteChannels_44 (Or.inl M_X1_66) Y_X1_overruleChannel [.ref 0, .int (nI b), .int (nI a), .int (nI ch)] (c_X1_overruleChannel b a ch (by omega) (by omega) (by omega)) (by decide) (Nat.le_of_ble_eq_true rfl) rfl rfl (Nat.le_of_ble_eq_true rfl) ?_
      refine ev_goto (tgt := 93) dX1_uniteChannels_47 (by decide) ?_
      exact ev_return dX1_uniteChannels_93 rfl (leafV hQ (by simp only [uc4, ov4, tc4, h20, h37, if_true, if_false] <;> (first | rfl | (funext a; unfold av_set; (repeat' split) <;> first | rfl | (subst_vars; rfl) | (exfalso; omega)))))
  · refine ev_aload_n dX1_uniteChannels_23 rfl 2 rfl ?_
    refine ev_iload_n dX1_uniteChannels_24 rfl 3 rfl ?_
    refine ev_iload_n dX1_uniteChannels_25 rfl 4 rfl ?_
    refine ev_iload_n dX1_uniteChannels_26 rfl 5 rfl ?_
    refine ev_callSv (σ' := av_set (av_set (av_set (av_set σ 0 (upd (upd (σ 0) 2 (σ 0 2 + jbc (un (σ 4) (net (σ 1) b) ch))) 3 (σ 0 3 + jbc (σ 6 (b * 4 + ch))))) 4 (so (σ 3) (σ 4) (net (σ 1) b) ch (nI 0))) 5 (ds (σ 5) (net (σ 1) b) ch (σ 5 (a * 4 + ch)))) 6 (ds (σ 6) (net (σ 1) b) ch (σ 6 (a * 4 + ch)))) dX1_uniteChannels_27 (Or.inl M_X1_66) Y_X1_overruleChannel [.ref 0, .int (nI a), .int (nI b), .int (nI ch)] (c_X1_overruleChannel a b ch (by omega) (by omega) (by omega)) (by decide) (Nat.le_of_ble_eq_true rfl) rfl rfl (Nat.le_of_ble_eq_true rfl) ?_
    refine ev_goto (tgt := 93) dX1_uniteChannels_30 (by decide) ?_
    exact ev_return dX1_uniteChannels_93 rfl (leafV hQ (by simp only [uc4, ov4, tc4, h20, if_true, if_false] <;> (first | rfl | (funext a; unfold av_set; (repeat' split) <;> first | rfl | (subst_vars; rfl) | (exfalso; omega)))))

set_option maxRecDepth 100000 in
set_option maxHeartbeats 1000000 in
theorem c_X1_settleChannels {l : Launch} {σ : av_S} (a : Nat) (b : Nat) (ha : a < 6) (hb : b < 6) : av_M l RX1 cX1_settleChannels 6 none 5 [.ref 0, .int (nI a), .int (nI b)] σ none (av_set (av_set (av_set (av_set σ 0 ((sh4 (σ 1) (σ 3) a b (σ 0, σ 4, σ 5, σ 6)).1)) 4 ((sh4 (σ 1) (σ 3) a b (σ 0, σ 4, σ 5, σ 6)).2.1)) 5 ((sh4 (σ 1) (σ 3) a b (σ 0, σ 4, σ 5, σ 6)).2.2.1)) 6 ((sh4 (σ 1) (σ 3) a b (σ 0, σ 4, σ 5, σ 6)).2.2.2)) := by
  intro Q hQ
  show av_Ev l RX1 cX1_settleChannels 6 none av_E0 5 0 [(0, .ref 0), (1, .int (nI a)), (2, .int (nI b))] [] σ Q
  refine ev_aload_n dX1_settleChannels_0 rfl 0 rfl ?_
  refine ev_iconst dX1_settleChannels_1 (v := nI 0) (by decide) ?_
  refine ev_putI dX1_settleChannels_2 C_X4 L_X1_46 (by decide) (by decide) sh_0 rfl rfl rfl ?_
  refine ev_aload_n dX1_settleChannels_5 rfl 0 rfl ?_
  refine ev_iconst dX1_settleChannels_6 (v := nI 0) (by decide) ?_
  refine ev_putI dX1_settleChannels_7 C_X4 L_X1_50 (by decide) (by decide) sh_0 rfl rfl rfl ?_
  refine ev_st (σ' := av_set σ 0 (upd (upd (σ 0) 2 (nI 0)) 3 (nI 0))) (by first | rfl | (funext a; by_cases q0 : a = 0; (next => subst q0; rfl); simp only [av_set, q0, if_false]) | exact av_set_set _ _ _ _ | (funext a; unfold av_set; (repeat' split) <;> first | rfl | (exfalso; omega)) | (funext a; simp only [av_set, cpS]; (repeat' split) <;> first | rfl | (exfalso; omega))) ?_
  refine ev_iconst dX1_settleChannels_10 (v := nI 0) (by decide) ?_
  refine ev_istore_n (lv' := [(3, .int (nI 0)), (0, .ref 0), (1, .int (nI a)), (2, .int (nI b))]) dX1_settleChannels_11 rfl (by decide) rfl ?_
  refine ev_lv (lv' := [(0, .ref 0), (1, .int (nI a)), (2, .int (nI b)), (3, .int (nI 0))]) [1, 2, 3, 0] rfl ?_
  refine ev_st (σ' := av_set (av_set (av_set (av_set σ 0 ((fo 0 (fun ch T => sh4F (σ 1) (σ 3) a b ch T) (upd (upd (σ 0) 2 (nI 0)) 3 (nI 0), σ 4, σ 5, σ 6)).1)) 4 ((fo 0 (fun ch T => sh4F (σ 1) (σ 3) a b ch T) (upd (upd (σ 0) 2 (nI 0)) 3 (nI 0), σ 4, σ 5, σ 6)).2.1)) 5 ((fo 0 (fun ch T => sh4F (σ 1) (σ 3) a b ch T) (upd (upd (σ 0) 2 (nI 0)) 3 (nI 0), σ 4, σ 5, σ 6)).2.2.1)) 6 ((fo 0 (fun ch T => sh4F (σ 1) (σ 3) a b ch T) (upd (upd (σ 0) 2 (nI 0)) 3 (nI 0), σ 4, σ 5, σ 6)).2.2.2)) (by simp only [fo_0]; first | rfl | (funext a; unfold av_set; (repeat' split) <;> first | rfl | (subst_vars; rfl) | (exfalso; omega))) ?_
  refine loop_up (fun k => av_Ev l RX1 cX1_settleChannels 6 none av_E0 5 12 [(0, .ref 0), (1, .int (nI a)), (2, .int (nI b)), (3, .int (nI k))] [] (av_set (av_set (av_set (av_set σ 0 ((fo k (fun ch T => sh4F (σ 1) (σ 3) a b ch T) (upd (upd (σ 0) 2 (nI 0)) 3 (nI 0), σ 4, σ 5, σ 6)).1)) 4 ((fo k (fun ch T => sh4F (σ 1) (σ 3) a b ch T) (upd (upd (σ 0) 2 (nI 0)) 3 (nI 0), σ 4, σ 5, σ 6)).2.1)) 5 ((fo k (fun ch T => sh4F (σ 1) (σ 3) a b ch T) (upd (upd (σ 0) 2 (nI 0)) 3 (nI 0), σ 4, σ 5, σ 6)).2.2.1)) 6 ((fo k (fun ch T => sh4F (σ 1) (σ 3) a b ch T) (upd (upd (σ 0) 2 (nI 0)) 3 (nI 0), σ 4, σ 5, σ 6)).2.2.2)) Q) 4 ?_ ?_
  · show av_Ev l RX1 cX1_settleChannels 6 none av_E0 5 12 [(0, .ref 0), (1, .int (nI a)), (2, .int (nI b)), (3, .int (nI 4))] [] (av_set (av_set (av_set (av_set σ 0 ((fo 4 (fun ch T => sh4F (σ 1) (σ 3) a b ch T) (upd (upd (σ 0) 2 (nI 0)) 3 (nI 0), σ 4, σ 5, σ 6)).1)) 4 ((fo 4 (fun ch T => sh4F (σ 1) (σ 3) a b ch T) (upd (upd (σ 0) 2 (nI 0)) 3 (nI 0), σ 4, σ 5, σ 6)).2.1)) 5 ((fo 4 (fun ch T => sh4F (σ 1) (σ 3) a b ch T) (upd (upd (σ 0) 2 (nI 0)) 3 (nI 0), σ 4, σ 5, σ 6)).2.2.1)) 6 ((fo 4 (fun ch T => sh4F (σ 1) (σ 3) a b ch T) (upd (upd (σ 0) 2 (nI 0)) 3 (nI 0), σ 4, σ 5, σ 6)).2.2.2)) Q
    refine ev_iload_n dX1_settleChannels_12 rfl 3 rfl ?_
    refine ev_iconst dX1_settleChannels_13 (v := nI 4) (by decide) ?_
    refine ev_ncmp_ge (tgt := 94) dX1_settleChannels_14 (by decide) (by omega) (by omega) (fun h14 => ?_) (fun h14 => ?_)
    · exact ev_return dX1_settleChannels_94 rfl (leafV hQ rfl)
    · exact absurd h14 (by omega)
  · intro k hk ihk
    show av_Ev l RX1 cX1_settleChannels 6 none av_E0 5 12 [(0, .ref 0), (1, .int (nI a)), (2, .int (nI b)), (3, .int (nI k))] [] (av_set (av_set (av_set (av_set σ 0 ((fo k (fun ch T => sh4F (σ 1) (σ 3) a b ch T) (upd (upd (σ 0) 2 (nI 0)) 3 (nI 0), σ 4, σ 5, σ 6)).1)) 4 ((fo k (fun ch T => sh4F (σ 1) (σ 3) a b ch T) (upd (upd (σ 0) 2 (nI 0)) 3 (nI 0), σ 4, σ 5, σ 6)).2.1)) 5 ((fo k (fun ch T => sh4F (σ 1) (σ 3) a b ch T) (upd (upd (σ 0) 2 (nI 0)) 3 (nI 0), σ 4, σ 5, σ 6)).2.2.1)) 6 ((fo k (fun ch T => sh4F (σ 1) (σ 3) a b ch T) (upd (upd (σ 0) 2 (nI 0)) 3 (nI 0), σ 4, σ 5, σ 6)).2.2.2)) Q
    refine ev_iload_n dX1_settleChannels_12 rfl 3 rfl ?_
    refine ev_iconst dX1_settleChannels_13 (v := nI 4) (by decide) ?_
    refine ev_ncmp_ge (tgt := 94) dX1_settleChannels_14 (by decide) (by omega) (by omega) (fun h14 => ?_) (fun h14 => ?_)
    · exact absurd h14 (by omega)
    · refine ev_aload_n dX1_settleChannels_17 rfl 0 rfl ?_
      refine ev_iload_n dX1_settleChannels_18 rfl 1 rfl ?_
      refine ev_iload_n dX1_settleChannels_19 rfl 3 rfl ?_
      refine ev_callVi (x := b2i (hc ((σ 1)) ((σ 3)) a k)) dX1_settleChannels_20 M_X1_53 Y_X4_hasChannel [.int (nI a), .int (nI k)] (c_X4_hasChannel a k (by omega) (by omega)) (by decide) (Nat.le_of_ble_eq_true rfl) (by decide) sh_0 rfl rfl rfl (Nat.le_of_ble_eq_true rfl) ?_
      refine ev_istore (lv' := [(4, .int (b2i (hc ((σ 1)) ((σ 3)) a k))), (0, .ref 0), (1, .int (nI a)), (2, .int (nI b)), (3, .int (nI k))]) dX1_settleChannels_23 (by decide) rfl ?_
      refine ev_aload_n dX1_settleChannels_25 rfl 1 rfl ?_
      refine ev_iload_n dX1_settleChannels_26 rfl 3 rfl ?_
      refine ev_iload_n dX1_settleChannels_27 rfl 4 rfl ?_
      refine ev_callVi (x := b2i (hc ((σ 1)) ((σ 3)) b k)) dX1_settleChannels_28 M_X1_53 Y_X4_hasChannel [.int (nI b), .int (nI k)] (c_X4_hasChannel b k (by omega) (by omega)) (by decide) (Nat.le_of_ble_eq_true rfl) (by decide) sh_0 rfl rfl rfl (Nat.le_of_ble_eq_true rfl) ?_
      refine ev_istore (lv' := [(5, .int (b2i (hc ((σ 1)) ((σ 3)) b k))), (4, .int (b2i (hc ((σ 1)) ((σ 3)) a k))), (0, .ref 0), (1, .int (nI a)), (2, .int (nI b)), (3, .int (nI k))]) dX1_settleChannels_31 (by decide) rfl ?_
      refine ev_iload dX1_settleChannels_33 1 rfl ?_
      refine ev_ifb_eq (tgt := 53) dX1_settleChannels_35 (by decide) (fun h35 => ?_) (fun h35 => ?_)
      · refine ev_iload dX1_settleChannels_53 1 rfl ?_
        refine ev_ifb_eq (tgt := 72) dX1_settleChannels_55 (by decide) (fun h55 => ?_) (fun h55 => ?_)
        · refine ev_iload dX1_settleChannels_72 0 rfl ?_
          refine ev_ifb_eq (tgt := 88) dX1_settleChannels_74 (by decide) (fun h74 => ?_) (fun h74 => ?_)
          · refine ev_iinc (lv' := [(3, .int (nI (k + 1))), (5, .int (b2i (hc ((σ 1)) ((σ 3)) b k))), (4, .int (b2i (hc ((σ 1)) ((σ 3)) a k))), (0, .ref 0), (1, .int (nI a)), (2, .int (nI b))]) dX1_settleChannels_88 5 rfl (nI_inc k) (by decide) rfl ?_
            refine ev_goto (tgt := 12) dX1_settleChannels_91 (by decide) ?_
            refine ev_lv (lv' := [(0, .ref 0), (1, .int (nI a)), (2, .int (nI b)), (3, .int (nI (k + 1)))]) [3, 4, 5, 0] rfl ?_
            have ih9 : av_Ev l RX1 cX1_settleChannels 6 none av_E0 5 12 [(0, .ref 0), (1, .int (nI a)), (2, .int (nI b)), (3, .int (nI (k + 1)))] [] (av_set (av_set (av_set (av_set σ 0 ((fo (k + 1) (fun ch T => sh4F (σ 1) (σ 3) a b ch T) (upd (upd (σ 0) 2 (nI 0)) 3 (nI 0), σ 4, σ 5, σ 6)).1)) 4 ((fo (k + 1) (fun ch T => sh4F (σ 1) (σ 3) a b ch T) (upd (upd (σ 0) 2 (nI 0)) 3 (nI 0), σ 4, σ 5, σ 6)).2.1)) 5 ((fo (k + 1) (fun ch T => sh4F (σ 1) (σ 3) a b ch T) (upd (upd (σ 0) 2 (nI 0)) 3 (nI 0), σ 4, σ 5, σ 6)).2.2.1)) 6 ((fo (k + 1) (fun ch T => sh4F (σ 1) (σ 3) a b ch T) (upd (upd (σ 0) 2 (nI 0)) 3 (nI 0), σ 4, σ 5, σ 6)).2.2.2)) Q := ihk
            rw [show av_set (av_set (av_set (av_set σ 0 ((fo (k + 1) (fun ch T => sh4F (σ 1) (σ 3) a b ch T) (upd (upd (σ 0) 2 (nI 0)) 3 (nI 0), σ 4, σ 5, σ 6)).1)) 4 ((fo (k + 1) (fun ch T => sh4F (σ 1) (σ 3) a b ch T) (upd (upd (σ 0) 2 (nI 0)) 3 (nI 0), σ 4, σ 5, σ 6)).2.1)) 5 ((fo (k + 1) (fun ch T => sh4F (σ 1) (σ 3) a b ch T) (upd (upd (σ 0) 2 (nI 0)) 3 (nI 0), σ 4, σ 5, σ 6)).2.2.1)) 6 ((fo (k + 1) (fun ch T => sh4F (σ 1) (σ 3) a b ch T) (upd (upd (σ 0) 2 (nI 0)) 3 (nI 0), σ 4, σ 5, σ 6)).2.2.2) = av_set (av_set (av_set (av_set σ 0 ((fo k (fun ch T => sh4F (σ 1) (σ 3) a b ch T) (upd (upd (σ 0) 2 (nI 0)) 3 (nI 0), σ 4, σ 5, σ 6)).1)) 4 ((fo k (fun ch T => sh4F (σ 1) (σ 3) a b ch T) (upd (upd (σ 0) 2 (nI 0)) 3 (nI 0), σ 4, σ 5, σ 6)).2.1)) 5 ((fo k (fun ch T => sh4F (σ 1) (σ 3) a b ch T) (upd (upd (σ 0) 2 (nI 0)) 3 (nI 0), σ 4, σ 5, σ 6)).2.2.1)) 6 ((fo k (fun ch T => sh4F (σ 1) (σ 3) a b ch T) (upd (upd (σ 0) 2 (nI 0)) 3 (nI 0), σ 4, σ 5, σ 6)).2.2.2) from (by simp only [fo_s]; simp only [sh4F, h14, h35, h55, h74, cond_true, cond_false] <;> rfl)] at ih9
            exact ih9
          · refine ev_aload_n dX1_settleChannels_77 rfl 2 rfl ?_
            refine ev_iload_n dX1_settleChannels_78 rfl 4 rfl ?_
            refine ev_aload_n dX1_settleChannels_79 rfl 2 rfl ?_
            refine ev_iload_n dX1_settleChannels_80 rfl 3 rfl ?_
            refine ev_callVi (x := net ((σ 1)) a) dX1_settleChannels_81 M_X1_18 Y_X4_networkOf [.int (nI a)] (c_X4_networkOf a (by omega)) (by decide) (Nat.le_of_ble_eq_true rfl) (by decide) sh_0 rfl rfl rfl (Nat.le_of_ble_eq_true rfl) ?_
            refine ev_iload_n dX1_settleChannels_84 rfl 5 rfl ?_
            refine ev_callSv dX1_settleChannels_85 (Or.inl M_X1_60) Y_X1_tellOfChannel [.ref 0, .int (nI b), .int (net ((σ 1)) a), .int (nI k)] (c_X1_tellOfChannel b (net ((σ 1)) a) k (by omega) (by omega)) (by decide) (Nat.le_of_ble_eq_true rfl) rfl rfl (Nat.le_of_ble_eq_true rfl) ?_
            refine ev_st (σ' := av_set (av_set (av_set (av_set σ 0 ((fo k (fun ch T => sh4F (σ 1) (σ 3) a b ch T) (upd (upd (σ 0) 2 (nI 0)) 3 (nI 0), σ 4, σ 5, σ 6)).1)) 4 ((fo k (fun ch T => sh4F (σ 1) (σ 3) a b ch T) (upd (upd (σ 0) 2 (nI 0)) 3 (nI 0), σ 4, σ 5, σ 6)).2.1)) 5 (ds (((fo k (fun ch T => sh4F (σ 1) (σ 3) a b ch T) (upd (upd (σ 0) 2 (nI 0)) 3 (nI 0), σ 4, σ 5, σ 6)).2.2.1)) (net ((σ 1)) a) k (((fo k (fun ch T => sh4F (σ 1) (σ 3) a b ch T) (upd (upd (σ 0) 2 (nI 0)) 3 (nI 0), σ 4, σ 5, σ 6)).2.2.1) (b * 4 + k)))) 6 (ds (((fo k (fun ch T => sh4F (σ 1) (σ 3) a b ch T) (upd (upd (σ 0) 2 (nI 0)) 3 (nI 0), σ 4, σ 5, σ 6)).2.2.2)) (net ((σ 1)) a) k (((fo k (fun ch T => sh4F (σ 1) (σ 3) a b ch T) (upd (upd (σ 0) 2 (nI 0)) 3 (nI 0), σ 4, σ 5, σ 6)).2.2.2) (b * 4 + k)))) (by first | rfl | (funext a; by_cases q0 : a = 0; (next => subst q0; rfl); by_cases q4 : a = 4; (next => subst q4; rfl); by_cases q5 : a = 5; (next => subst q5; rfl); by_cases q6 : a = 6; (next => subst q6; rfl); simp only [av_set, q0, q4, q5, q6, if_false]) | exact av_set_set _ _ _ _ | (funext a; unfold av_set; (repeat' split) <;> first | rfl | (exfalso; omega)) | (funext a; simp only [av_set, cpS]; (repeat' split) <;> first | rfl | (exfalso; omega))) ?_
            refine ev_iinc (lv' := [(3, .int (nI (k + 1))), (5, .int (b2i (hc ((σ 1)) ((σ 3)) b k))), (4, .int (b2i (hc ((σ 1)) ((σ 3)) a k))), (0, .ref 0), (1, .int (nI a)), (2, .int (nI b))]) dX1_settleChannels_88 5 rfl (nI_inc k) (by decide) rfl ?_
            refine ev_goto (tgt := 12) dX1_settleChannels_91 (by decide) ?_
            refine ev_lv (lv' := [(0, .ref 0), (1, .int (nI a)), (2, .int (nI b)), (3, .int (nI (k + 1)))]) [3, 4, 5, 0] rfl ?_
            have ih9 : av_Ev l RX1 cX1_settleChannels 6 none av_E0 5 12 [(0, .ref 0), (1, .int (nI a)), (2, .int (nI b)), (3, .int (nI (k + 1)))] [] (av_set (av_set (av_set (av_set σ 0 ((fo (k + 1) (fun ch T => sh4F (σ 1) (σ 3) a b ch T) (upd (upd (σ 0) 2 (nI 0)) 3 (nI 0), σ 4, σ 5, σ 6)).1)) 4 ((fo (k + 1) (fun ch T => sh4F (σ 1) (σ 3) a b ch T) (upd (upd (σ 0) 2 (nI 0)) 3 (nI 0), σ 4, σ 5, σ 6)).2.1)) 5 ((fo (k + 1) (fun ch T => sh4F (σ 1) (σ 3) a b ch T) (upd (upd (σ 0) 2 (nI 0)) 3 (nI 0), σ 4, σ 5, σ 6)).2.2.1)) 6 ((fo (k + 1) (fun ch T => sh4F (σ 1) (σ 3) a b ch T) (upd (upd (σ 0) 2 (nI 0)) 3 (nI 0), σ 4, σ 5, σ 6)).2.2.2)) Q := ihk
            rw [show av_set (av_set (av_set (av_set σ 0 ((fo (k + 1) (fun ch T => sh4F (σ 1) (σ 3) a b ch T) (upd (upd (σ 0) 2 (nI 0)) 3 (nI 0), σ 4, σ 5, σ 6)).1)) 4 ((fo (k + 1) (fun ch T => sh4F (σ 1) (σ 3) a b ch T) (upd (upd (σ 0) 2 (nI 0)) 3 (nI 0), σ 4, σ 5, σ 6)).2.1)) 5 ((fo (k + 1) (fun ch T => sh4F (σ 1) (σ 3) a b ch T) (upd (upd (σ 0) 2 (nI 0)) 3 (nI 0), σ 4, σ 5, σ 6)).2.2.1)) 6 ((fo (k + 1) (fun ch T => sh4F (σ 1) (σ 3) a b ch T) (upd (upd (σ 0) 2 (nI 0)) 3 (nI 0), σ 4, σ 5, σ 6)).2.2.2) = av_set (av_set (av_set (av_set σ 0 ((fo k (fun ch T => sh4F (σ 1) (σ 3) a b ch T) (upd (upd (σ 0) 2 (nI 0)) 3 (nI 0), σ 4, σ 5, σ 6)).1)) 4 ((fo k (fun ch T => sh4F (σ 1) (σ 3) a b ch T) (upd (upd (σ 0) 2 (nI 0)) 3 (nI 0), σ 4, σ 5, σ 6)).2.1)) 5 (ds (((fo k (fun ch T => sh4F (σ 1) (σ 3) a b ch T) (upd (upd (σ 0) 2 (nI 0)) 3 (nI 0), σ 4, σ 5, σ 6)).2.2.1)) (net ((σ 1)) a) k (((fo k (fun ch T => sh4F (σ 1) (σ 3) a b ch T) (upd (upd (σ 0) 2 (nI 0)) 3 (nI 0), σ 4, σ 5, σ 6)).2.2.1) (b * 4 + k)))) 6 (ds (((fo k (fun ch T => sh4F (σ 1) (σ 3) a b ch T) (upd (upd (σ 0) 2 (nI 0)) 3 (nI 0), σ 4, σ 5, σ 6)).2.2.2)) (net ((σ 1)) a) k (((fo k (fun ch T => sh4F (σ 1) (σ 3) a b ch T) (upd (upd (σ 0) 2 (nI 0)) 3 (nI 0), σ 4, σ 5, σ 6)).2.2.2) (b * 4 + k))) from (by simp only [fo_s]; simp only [sh4F, h14, h35, h55, h74, cond_true, cond_false] <;> rfl)] at ih9
            exact ih9
        · exact absurd (h35.symm.trans h55) (by decide)
      · refine ev_iload dX1_settleChannels_38 0 rfl ?_
        refine ev_ifb_eq (tgt := 53) dX1_settleChannels_40 (by decide) (fun h40 => ?_) (fun h40 => ?_)
        · refine ev_iload dX1_settleChannels_53 1 rfl ?_
          refine ev_ifb_eq (tgt := 72) dX1_settleChannels_55 (by decide) (fun h55 => ?_) (fun h55 => ?_)
          · exact absurd (h35.symm.trans h55) (by decide)
          · refine ev_aload_n dX1_settleChannels_58 rfl 2 rfl ?_
            refine ev_iload_n dX1_settleChannels_59 rfl 3 rfl ?_
            refine ev_aload_n dX1_settleChannels_60 rfl 2 rfl ?_
            refine ev_iload_n dX1_settleChannels_61 rfl 4 rfl ?_
            refine ev_callVi (x := net ((σ 1)) b) dX1_settleChannels_62 M_X1_18 Y_X4_networkOf [.int (nI b)] (c_X4_networkOf b (by omega)) (by decide) (Nat.le_of_ble_eq_true rfl) (by decide) sh_0 rfl rfl rfl (Nat.le_of_ble_eq_true rfl) ?_
            refine ev_iload_n dX1_settleChannels_65 rfl 5 rfl ?_
            refine ev_callSv dX1_settleChannels_66 (Or.inl M_X1_60) Y_X1_tellOfChannel [.ref 0, .int (nI a), .int (net ((σ 1)) b), .int (nI k)] (c_X1_tellOfChannel a (net ((σ 1)) b) k (by omega) (by omega)) (by decide) (Nat.le_of_ble_eq_true rfl) rfl rfl (Nat.le_of_ble_eq_true rfl) ?_
            refine ev_st (σ' := av_set (av_set (av_set (av_set σ 0 ((fo k (fun ch T => sh4F (σ 1) (σ 3) a b ch T) (upd (upd (σ 0) 2 (nI 0)) 3 (nI 0), σ 4, σ 5, σ 6)).1)) 4 ((fo k (fun ch T => sh4F (σ 1) (σ 3) a b ch T) (upd (upd (σ 0) 2 (nI 0)) 3 (nI 0), σ 4, σ 5, σ 6)).2.1)) 5 (ds (((fo k (fun ch T => sh4F (σ 1) (σ 3) a b ch T) (upd (upd (σ 0) 2 (nI 0)) 3 (nI 0), σ 4, σ 5, σ 6)).2.2.1)) (net ((σ 1)) b) k (((fo k (fun ch T => sh4F (σ 1) (σ 3) a b ch T) (upd (upd (σ 0) 2 (nI 0)) 3 (nI 0), σ 4, σ 5, σ 6)).2.2.1) (a * 4 + k)))) 6 (ds (((fo k (fun ch T => sh4F (σ 1) (σ 3) a b ch T) (upd (upd (σ 0) 2 (nI 0)) 3 (nI 0), σ 4, σ 5, σ 6)).2.2.2)) (net ((σ 1)) b) k (((fo k (fun ch T => sh4F (σ 1) (σ 3) a b ch T) (upd (upd (σ 0) 2 (nI 0)) 3 (nI 0), σ 4, σ 5, σ 6)).2.2.2) (a * 4 + k)))) (by first | rfl | (funext a; by_cases q0 : a = 0; (next => subst q0; rfl); by_cases q4 : a = 4; (next => subst q4; rfl); by_cases q5 : a = 5; (next => subst q5; rfl); by_cases q6 : a = 6; (next => subst q6; rfl); simp only [av_set, q0, q4, q5, q6, if_false]) | exact av_set_set _ _ _ _ | (funext a; unfold av_set; (repeat' split) <;> first | rfl | (exfalso; omega)) | (funext a; simp only [av_set, cpS]; (repeat' split) <;> first | rfl | (exfalso; omega))) ?_
            refine ev_goto (tgt := 88) dX1_settleChannels_69 (by decide) ?_
            refine ev_iinc (lv' := [(3, .int (nI (k + 1))), (5, .int (b2i (hc ((σ 1)) ((σ 3)) b k))), (4, .int (b2i (hc ((σ 1)) ((σ 3)) a k))), (0, .ref 0), (1, .int (nI a)), (2, .int (nI b))]) dX1_settleChannels_88 5 rfl (nI_inc k) (by decide) rfl ?_
            refine ev_goto (tgt := 12) dX1_settleChannels_91 (by decide) ?_
            refine ev_lv (lv' := [(0, .ref 0), (1, .int (nI a)), (2, .int (nI b)), (3, .int (nI (k + 1)))]) [3, 4, 5, 0] rfl ?_
            have ih9 : av_Ev l RX1 cX1_settleChannels 6 none av_E0 5 12 [(0, .ref 0), (1, .int (nI a)), (2, .int (nI b)), (3, .int (nI (k + 1)))] [] (av_set (av_set (av_set (av_set σ 0 ((fo (k + 1) (fun ch T => sh4F (σ 1) (σ 3) a b ch T) (upd (upd (σ 0) 2 (nI 0)) 3 (nI 0), σ 4, σ 5, σ 6)).1)) 4 ((fo (k + 1) (fun ch T => sh4F (σ 1) (σ 3) a b ch T) (upd (upd (σ 0) 2 (nI 0)) 3 (nI 0), σ 4, σ 5, σ 6)).2.1)) 5 ((fo (k + 1) (fun ch T => sh4F (σ 1) (σ 3) a b ch T) (upd (upd (σ 0) 2 (nI 0)) 3 (nI 0), σ 4, σ 5, σ 6)).2.2.1)) 6 ((fo (k + 1) (fun ch T => sh4F (σ 1) (σ 3) a b ch T) (upd (upd (σ 0) 2 (nI 0)) 3 (nI 0), σ 4, σ 5, σ 6)).2.2.2)) Q := ihk
            rw [show av_set (av_set (av_set (av_set σ 0 ((fo (k + 1) (fun ch T => sh4F (σ 1) (σ 3) a b ch T) (upd (upd (σ 0) 2 (nI 0)) 3 (nI 0), σ 4, σ 5, σ 6)).1)) 4 ((fo (k + 1) (fun ch T => sh4F (σ 1) (σ 3) a b ch T) (upd (upd (σ 0) 2 (nI 0)) 3 (nI 0), σ 4, σ 5, σ 6)).2.1)) 5 ((fo (k + 1) (fun ch T => sh4F (σ 1) (σ 3) a b ch T) (upd (upd (σ 0) 2 (nI 0)) 3 (nI 0), σ 4, σ 5, σ 6)).2.2.1)) 6 ((fo (k + 1) (fun ch T => sh4F (σ 1) (σ 3) a b ch T) (upd (upd (σ 0) 2 (nI 0)) 3 (nI 0), σ 4, σ 5, σ 6)).2.2.2) = av_set (av_set (av_set (av_set σ 0 ((fo k (fun ch T => sh4F (σ 1) (σ 3) a b ch T) (upd (upd (σ 0) 2 (nI 0)) 3 (nI 0), σ 4, σ 5, σ 6)).1)) 4 ((fo k (fun ch T => sh4F (σ 1) (σ 3) a b ch T) (upd (upd (σ 0) 2 (nI 0)) 3 (nI 0), σ 4, σ 5, σ 6)).2.1)) 5 (ds (((fo k (fun ch T => sh4F (σ 1) (σ 3) a b ch T) (upd (upd (σ 0) 2 (nI 0)) 3 (nI 0), σ 4, σ 5, σ 6)).2.2.1)) (net ((σ 1)) b) k (((fo k (fun ch T => sh4F (σ 1) (σ 3) a b ch T) (upd (upd (σ 0) 2 (nI 0)) 3 (nI 0), σ 4, σ 5, σ 6)).2.2.1) (a * 4 + k)))) 6 (ds (((fo k (fun ch T => sh4F (σ 1) (σ 3) a b ch T) (upd (upd (σ 0) 2 (nI 0)) 3 (nI 0), σ 4, σ 5, σ 6)).2.2.2)) (net ((σ 1)) b) k (((fo k (fun ch T => sh4F (σ 1) (σ 3) a b ch T) (upd (upd (σ 0) 2 (nI 0)) 3 (nI 0), σ 4, σ 5, σ 6)).2.2.2) (a * 4 + k))) from (by simp only [fo_s]; simp only [sh4F, h14, h35, h40, h55, cond_true, cond_false] <;> rfl)] at ih9
            exact ih9
        · refine ev_aload_n dX1_settleChannels_43 rfl 2 rfl ?_
          refine ev_iload_n dX1_settleChannels_44 rfl 3 rfl ?_
          refine ev_iload_n dX1_settleChannels_45 rfl 4 rfl ?_
          refine ev_iload_n dX1_settleChannels_46 rfl 5 rfl ?_
          refine ev_callSv dX1_settleChannels_47 (Or.inl M_X1_57) Y_X1_uniteChannels [.ref 0, .int (nI a), .int (nI b), .int (nI k)] (c_X1_uniteChannels a b k (by omega) (by omega) (by omega)) (by decide) (Nat.le_of_ble_eq_true rfl) rfl rfl (Nat.le_of_ble_eq_true rfl) ?_
          refine ev_st (σ' := av_set (av_set (av_set (av_set σ 0 ((uc4 ((σ 1)) ((σ 3)) (((fo k (fun ch T => sh4F (σ 1) (σ 3) a b ch T) (upd (upd (σ 0) 2 (nI 0)) 3 (nI 0), σ 4, σ 5, σ 6)).1), ((fo k (fun ch T => sh4F (σ 1) (σ 3) a b ch T) (upd (upd (σ 0) 2 (nI 0)) 3 (nI 0), σ 4, σ 5, σ 6)).2.1), ((fo k (fun ch T => sh4F (σ 1) (σ 3) a b ch T) (upd (upd (σ 0) 2 (nI 0)) 3 (nI 0), σ 4, σ 5, σ 6)).2.2.1), ((fo k (fun ch T => sh4F (σ 1) (σ 3) a b ch T) (upd (upd (σ 0) 2 (nI 0)) 3 (nI 0), σ 4, σ 5, σ 6)).2.2.2)) a b k).1)) 4 ((uc4 ((σ 1)) ((σ 3)) (((fo k (fun ch T => sh4F (σ 1) (σ 3) a b ch T) (upd (upd (σ 0) 2 (nI 0)) 3 (nI 0), σ 4, σ 5, σ 6)).1), ((fo k (fun ch T => sh4F (σ 1) (σ 3) a b ch T) (upd (upd (σ 0) 2 (nI 0)) 3 (nI 0), σ 4, σ 5, σ 6)).2.1), ((fo k (fun ch T => sh4F (σ 1) (σ 3) a b ch T) (upd (upd (σ 0) 2 (nI 0)) 3 (nI 0), σ 4, σ 5, σ 6)).2.2.1), ((fo k (fun ch T => sh4F (σ 1) (σ 3) a b ch T) (upd (upd (σ 0) 2 (nI 0)) 3 (nI 0), σ 4, σ 5, σ 6)).2.2.2)) a b k).2.1)) 5 ((uc4 ((σ 1)) ((σ 3)) (((fo k (fun ch T => sh4F (σ 1) (σ 3) a b ch T) (upd (upd (σ 0) 2 (nI 0)) 3 (nI 0), σ 4, σ 5, σ 6)).1), ((fo k (fun ch T => sh4F (σ 1) (σ 3) a b ch T) (upd (upd (σ 0) 2 (nI 0)) 3 (nI 0), σ 4, σ 5, σ 6)).2.1), ((fo k (fun ch T => sh4F (σ 1) (σ 3) a b ch T) (upd (upd (σ 0) 2 (nI 0)) 3 (nI 0), σ 4, σ 5, σ 6)).2.2.1), ((fo k (fun ch T => sh4F (σ 1) (σ 3) a b ch T) (upd (upd (σ 0) 2 (nI 0)) 3 (nI 0), σ 4, σ 5, σ 6)).2.2.2)) a b k).2.2.1)) 6 ((uc4 ((σ 1)) ((σ 3)) (((fo k (fun ch T => sh4F (σ 1) (σ 3) a b ch T) (upd (upd (σ 0) 2 (nI 0)) 3 (nI 0), σ 4, σ 5, σ 6)).1), ((fo k (fun ch T => sh4F (σ 1) (σ 3) a b ch T) (upd (upd (σ 0) 2 (nI 0)) 3 (nI 0), σ 4, σ 5, σ 6)).2.1), ((fo k (fun ch T => sh4F (σ 1) (σ 3) a b ch T) (upd (upd (σ 0) 2 (nI 0)) 3 (nI 0), σ 4, σ 5, σ 6)).2.2.1), ((fo k (fun ch T => sh4F (σ 1) (σ 3) a b ch T) (upd (upd (σ 0) 2 (nI 0)) 3 (nI 0), σ 4, σ 5, σ 6)).2.2.2)) a b k).2.2.2)) (by first | rfl | (funext a; by_cases q0 : a = 0; (next => subst q0; rfl); by_cases q4 : a = 4; (next => subst q4; rfl); by_cases q5 : a = 5; (next => subst q5; rfl); by_cases q6 : a = 6; (next => subst q6; rfl); simp only [av_set, q0, q4, q5, q6, if_false]) | exact av_set_set _ _ _ _ | (funext a; unfold av_set; (repeat' split) <;> first | rfl | (exfalso; omega)) | (funext a; simp only [av_set, cpS]; (repeat' split) <;> first | rfl | (exfalso; omega))) ?_
          refine ev_goto (tgt := 88) dX1_settleChannels_50 (by decide) ?_
          refine ev_iinc (lv' := [(3, .int (nI (k + 1))), (5, .int (b2i (hc ((σ 1)) ((σ 3)) b k))), (4, .int (b2i (hc ((σ 1)) ((σ 3)) a k))), (0, .ref 0), (1, .int (nI a)), (2, .int (nI b))]) dX1_settleChannels_88 5 rfl (nI_inc k) (by decide) rfl ?_
          refine ev_goto (tgt := 12) dX1_settleChannels_91 (by decide) ?_
          refine ev_lv (lv' := [(0, .ref 0), (1, .int (nI a)), (2, .int (nI b)), (3, .int (nI (k + 1)))]) [3, 4, 5, 0] rfl ?_
          have ih9 : av_Ev l RX1 cX1_settleChannels 6 none av_E0 5 12 [(0, .ref 0), (1, .int (nI a)), (2, .int (nI b)), (3, .int (nI (k + 1)))] [] (av_set (av_set (av_set (av_set σ 0 ((fo (k + 1) (fun ch T => sh4F (σ 1) (σ 3) a b ch T) (upd (upd (σ 0) 2 (nI 0)) 3 (nI 0), σ 4, σ 5, σ 6)).1)) 4 ((fo (k + 1) (fun ch T => sh4F (σ 1) (σ 3) a b ch T) (upd (upd (σ 0) 2 (nI 0)) 3 (nI 0), σ 4, σ 5, σ 6)).2.1)) 5 ((fo (k + 1) (fun ch T => sh4F (σ 1) (σ 3) a b ch T) (upd (upd (σ 0) 2 (nI 0)) 3 (nI 0), σ 4, σ 5, σ 6)).2.2.1)) 6 ((fo (k + 1) (fun ch T => sh4F (σ 1) (σ 3) a b ch T) (upd (upd (σ 0) 2 (nI 0)) 3 (nI 0), σ 4, σ 5, σ 6)).2.2.2)) Q := ihk
          rw [show av_set (av_set (av_set (av_set σ 0 ((fo (k + 1) (fun ch T => sh4F (σ 1) (σ 3) a b ch T) (upd (upd (σ 0) 2 (nI 0)) 3 (nI 0), σ 4, σ 5, σ 6)).1)) 4 ((fo (k + 1) (fun ch T => sh4F (σ 1) (σ 3) a b ch T) (upd (upd (σ 0) 2 (nI 0)) 3 (nI 0), σ 4, σ 5, σ 6)).2.1)) 5 ((fo (k + 1) (fun ch T => sh4F (σ 1) (σ 3) a b ch T) (upd (upd (σ 0) 2 (nI 0)) 3 (nI 0), σ 4, σ 5, σ 6)).2.2.1)) 6 ((fo (k + 1) (fun ch T => sh4F (σ 1) (σ 3) a b ch T) (upd (upd (σ 0) 2 (nI 0)) 3 (nI 0), σ 4, σ 5, σ 6)).2.2.2) = av_set (av_set (av_set (av_set σ 0 ((uc4 ((σ 1)) ((σ 3)) (((fo k (fun ch T => sh4F (σ 1) (σ 3) a b ch T) (upd (upd (σ 0) 2 (nI 0)) 3 (nI 0), σ 4, σ 5, σ 6)).1), ((fo k (fun ch T => sh4F (σ 1) (σ 3) a b ch T) (upd (upd (σ 0) 2 (nI 0)) 3 (nI 0), σ 4, σ 5, σ 6)).2.1), ((fo k (fun ch T => sh4F (σ 1) (σ 3) a b ch T) (upd (upd (σ 0) 2 (nI 0)) 3 (nI 0), σ 4, σ 5, σ 6)).2.2.1), ((fo k (fun ch T => sh4F (σ 1) (σ 3) a b ch T) (upd (upd (σ 0) 2 (nI 0)) 3 (nI 0), σ 4, σ 5, σ 6)).2.2.2)) a b k).1)) 4 ((uc4 ((σ 1)) ((σ 3)) (((fo k (fun ch T => sh4F (σ 1) (σ 3) a b ch T) (upd (upd (σ 0) 2 (nI 0)) 3 (nI 0), σ 4, σ 5, σ 6)).1), ((fo k (fun ch T => sh4F (σ 1) (σ 3) a b ch T) (upd (upd (σ 0) 2 (nI 0)) 3 (nI 0), σ 4, σ 5, σ 6)).2.1), ((fo k (fun ch T => sh4F (σ 1) (σ 3) a b ch T) (upd (upd (σ 0) 2 (nI 0)) 3 (nI 0), σ 4, σ 5, σ 6)).2.2.1), ((fo k (fun ch T => sh4F (σ 1) (σ 3) a b ch T) (upd (upd (σ 0) 2 (nI 0)) 3 (nI 0), σ 4, σ 5, σ 6)).2.2.2)) a b k).2.1)) 5 ((uc4 ((σ 1)) ((σ 3)) (((fo k (fun ch T => sh4F (σ 1) (σ 3) a b ch T) (upd (upd (σ 0) 2 (nI 0)) 3 (nI 0), σ 4, σ 5, σ 6)).1), ((fo k (fun ch T => sh4F (σ 1) (σ 3) a b ch T) (upd (upd (σ 0) 2 (nI 0)) 3 (nI 0), σ 4, σ 5, σ 6)).2.1), ((fo k (fun ch T => sh4F (σ 1) (σ 3) a b ch T) (upd (upd (σ 0) 2 (nI 0)) 3 (nI 0), σ 4, σ 5, σ 6)).2.2.1), ((fo k (fun ch T => sh4F (σ 1) (σ 3) a b ch T) (upd (upd (σ 0) 2 (nI 0)) 3 (nI 0), σ 4, σ 5, σ 6)).2.2.2)) a b k).2.2.1)) 6 ((uc4 ((σ 1)) ((σ 3)) (((fo k (fun ch T => sh4F (σ 1) (σ 3) a b ch T) (upd (upd (σ 0) 2 (nI 0)) 3 (nI 0), σ 4, σ 5, σ 6)).1), ((fo k (fun ch T => sh4F (σ 1) (σ 3) a b ch T) (upd (upd (σ 0) 2 (nI 0)) 3 (nI 0), σ 4, σ 5, σ 6)).2.1), ((fo k (fun ch T => sh4F (σ 1) (σ 3) a b ch T) (upd (upd (σ 0) 2 (nI 0)) 3 (nI 0), σ 4, σ 5, σ 6)).2.2.1), ((fo k (fun ch T => sh4F (σ 1) (σ 3) a b ch T) (upd (upd (σ 0) 2 (nI 0)) 3 (nI 0), σ 4, σ 5, σ 6)).2.2.2)) a b k).2.2.2) from (by simp only [fo_s]; simp only [sh4F, h14, h35, h40, cond_true, cond_false] <;> rfl)] at ih9
          exact ih9

