/-! ===== History and Merge: contracts ===== -/
theorem cpS_raw {σ : av_S} {a b : Nat} (hab : a ≠ b) : av_set (av_set (av_set (av_set (av_set (av_set (av_set σ (7 * a) (upd (upd (upd (upd (σ (7 * a)) 0 ((σ (7 * b)) 0)) 1 ((σ (7 * b)) 1)) 2 ((σ (7 * b)) 2)) 3 ((σ (7 * b)) 3))) (7 * a + 1) (va_cpy (σ (7 * b + 1)) (σ (7 * a + 1)) 0 0 6)) (7 * a + 2) (va_cpy (σ (7 * b + 2)) (σ (7 * a + 2)) 0 0 60)) (7 * a + 3) (va_cpy (σ (7 * b + 3)) (σ (7 * a + 3)) 0 0 24)) (7 * a + 4) (va_cpy (σ (7 * b + 4)) (σ (7 * a + 4)) 0 0 24)) (7 * a + 5) (va_cpy (σ (7 * b + 5)) (σ (7 * a + 5)) 0 0 24)) (7 * a + 6) (va_cpy (σ (7 * b + 6)) (σ (7 * a + 6)) 0 0 24) = cpS σ a b := by
  funext c
  unfold cpS
  by_cases hc : 7 * a ≤ c ∧ c < 7 * a + 7
  · rw [if_pos hc]
    obtain ⟨r, hr, rfl⟩ : ∃ r, r < 7 ∧ c = 7 * a + r := ⟨c - 7 * a, by omega, by omega⟩
    rw [show 7 * a + r - 7 * a = r by omega]
    unfold av_set
    match r, hr with
    | 0, _ =>
      rw [if_neg (by omega), if_neg (by omega), if_neg (by omega), if_neg (by omega), if_neg (by omega), if_neg (by omega), if_pos (by omega)]
      funext i
      simp only [upd, cpN, Nat.add_zero, if_true]
      by_cases h3 : i = 3
      · subst h3; rfl
      · by_cases h2 : i = 2
        · subst h2; rfl
        · by_cases h1 : i = 1
          · subst h1; rfl
          · by_cases h0 : i = 0
            · subst h0; rfl
            · simp [h0, h1, h2, h3]; intro; omega
    | 1, _ => rw [if_neg (by omega), if_neg (by omega), if_neg (by omega), if_neg (by omega), if_neg (by omega), if_pos (by omega)]; funext i; simp [va_cpy, cpN]
    | 2, _ => rw [if_neg (by omega), if_neg (by omega), if_neg (by omega), if_neg (by omega), if_pos (by omega)]; funext i; simp [va_cpy, cpN]
    | 3, _ => rw [if_neg (by omega), if_neg (by omega), if_neg (by omega), if_pos (by omega)]; funext i; simp [va_cpy, cpN]
    | 4, _ => rw [if_neg (by omega), if_neg (by omega), if_pos (by omega)]; funext i; simp [va_cpy, cpN]
    | 5, _ => rw [if_neg (by omega), if_pos (by omega)]; funext i; simp [va_cpy, cpN]
    | 6, _ => rw [if_pos (by omega)]; funext i; simp [va_cpy, cpN]
    | r + 7, h => exact absurd h (by omega)
  · rw [if_neg hc]
    unfold av_set
    rw [if_neg (by omega), if_neg (by omega), if_neg (by omega), if_neg (by omega), if_neg (by omega), if_neg (by omega), if_neg (by omega)]
set_option maxRecDepth 100000 in
set_option maxHeartbeats 1000000 in
theorem c_X4_copyFrom {l : Launch} {σ : av_S} (a : Nat) (b : Nat) (ha : a < 9) (hb : b < 9) (hab : a ≠ b) : av_M l RX4 cX4_copyFrom 2 none 1 [.ref (7 * a), .ref (7 * b)] σ none (cpS σ a b) := by
  intro Q hQ
  show av_Ev l RX4 cX4_copyFrom 2 none av_E0 1 0 [(0, .ref (7 * a)), (1, .ref (7 * b))] [] σ Q
  refine ev_aload_n dX4_copyFrom_0 rfl 0 rfl ?_
  refine ev_aload_n dX4_copyFrom_1 rfl 1 rfl ?_
  refine ev_getI dX4_copyFrom_2 C_X4 L_X4_9 (by decide) (by omega) (sh_st (j := b) (by omega)) rfl ?_
  refine ev_putI dX4_copyFrom_5 C_X4 L_X4_9 (by decide) (by omega) (sh_st (j := a) (by omega)) rfl rfl rfl ?_
  refine ev_aload_n dX4_copyFrom_8 rfl 0 rfl ?_
  refine ev_aload_n dX4_copyFrom_9 rfl 1 rfl ?_
  refine ev_getI dX4_copyFrom_10 C_X4 L_X4_15 (by decide) (by omega) (sh_st (j := b) (by omega)) rfl ?_
  refine ev_top (v := (σ (7 * b)) 1) (by first | rfl | (simp only [av_set, cpS]; (repeat' split) <;> first | rfl | (exfalso; omega))) ?_
  refine ev_putI dX4_copyFrom_13 C_X4 L_X4_15 (by decide) (by omega) (sh_st (j := a) (by omega)) rfl rfl rfl ?_
  refine ev_st (σ' := av_set σ (7 * a) (upd (upd (σ (7 * a)) 0 ((σ (7 * b)) 0)) 1 ((σ (7 * b)) 1))) (by first | rfl | exact av_set_set _ _ _ _ | (funext a; unfold av_set; (repeat' split) <;> first | rfl | (exfalso; omega)) | (funext a; simp only [av_set, cpS]; (repeat' split) <;> first | rfl | (exfalso; omega))) ?_
  refine ev_aload_n dX4_copyFrom_16 rfl 0 rfl ?_
  refine ev_aload_n dX4_copyFrom_17 rfl 1 rfl ?_
  refine ev_getI dX4_copyFrom_18 C_X4 L_X4_18 (by decide) (by omega) (sh_st (j := b) (by omega)) rfl ?_
  refine ev_top (v := (σ (7 * b)) 2) (by first | rfl | (simp only [av_set, cpS]; (repeat' split) <;> first | rfl | (exfalso; omega))) ?_
  refine ev_putI dX4_copyFrom_21 C_X4 L_X4_18 (by decide) (by omega) (sh_st (j := a) (by omega)) rfl rfl rfl ?_
  refine ev_st (σ' := av_set σ (7 * a) (upd (upd (upd (σ (7 * a)) 0 ((σ (7 * b)) 0)) 1 ((σ (7 * b)) 1)) 2 ((σ (7 * b)) 2))) (by first | rfl | exact av_set_set _ _ _ _ | (funext a; unfold av_set; (repeat' split) <;> first | rfl | (exfalso; omega)) | (funext a; simp only [av_set, cpS]; (repeat' split) <;> first | rfl | (exfalso; omega))) ?_
  refine ev_aload_n dX4_copyFrom_24 rfl 0 rfl ?_
  refine ev_aload_n dX4_copyFrom_25 rfl 1 rfl ?_
  refine ev_getI dX4_copyFrom_26 C_X4 L_X4_21 (by decide) (by omega) (sh_st (j := b) (by omega)) rfl ?_
  refine ev_top (v := (σ (7 * b)) 3) (by first | rfl | (simp only [av_set, cpS]; (repeat' split) <;> first | rfl | (exfalso; omega))) ?_
  refine ev_putI dX4_copyFrom_29 C_X4 L_X4_21 (by decide) (by omega) (sh_st (j := a) (by omega)) rfl rfl rfl ?_
  refine ev_st (σ' := av_set σ (7 * a) (upd (upd (upd (upd (σ (7 * a)) 0 ((σ (7 * b)) 0)) 1 ((σ (7 * b)) 1)) 2 ((σ (7 * b)) 2)) 3 ((σ (7 * b)) 3))) (by first | rfl | exact av_set_set _ _ _ _ | (funext a; unfold av_set; (repeat' split) <;> first | rfl | (exfalso; omega)) | (funext a; simp only [av_set, cpS]; (repeat' split) <;> first | rfl | (exfalso; omega))) ?_
  refine ev_aload_n dX4_copyFrom_32 rfl 1 rfl ?_
  refine ev_getR dX4_copyFrom_33 C_X4 L_X4_24 (by decide) (by omega) (sh_st (j := b) (by omega)) rfl ?_
  refine ev_iconst dX4_copyFrom_36 (v := nI 0) (by decide) ?_
  refine ev_aload_n dX4_copyFrom_37 rfl 0 rfl ?_
  refine ev_getR dX4_copyFrom_38 C_X4 L_X4_24 (by decide) (by omega) (sh_st (j := a) (by omega)) rfl ?_
  refine ev_iconst dX4_copyFrom_41 (v := nI 0) (by decide) ?_
  refine ev_bipush dX4_copyFrom_42 (v := nI 6) (by decide) ?_
  refine ev_arraycopy dX4_copyFrom_44 M_X4_49 W_acopy (by decide) (Nat.le_of_ble_eq_true rfl) (by omega) (by omega) (sh_st1 (j := b) (by omega)) (sh_st1 (j := a) (by omega)) (nI_pos (by omega)) (nI_pos (by omega)) (nI_pos (by omega)) (by rw [nI_clamp (by omega), nI_clamp (by omega)]; omega) (by rw [nI_clamp (by omega), nI_clamp (by omega)]; omega) ?_
  rw [nI_clamp (show 0 < 2 ^ 31 by omega), nI_clamp (show 6 < 2 ^ 31 by omega)]
  refine ev_st (σ' := av_set (av_set σ (7 * a) (upd (upd (upd (upd (σ (7 * a)) 0 ((σ (7 * b)) 0)) 1 ((σ (7 * b)) 1)) 2 ((σ (7 * b)) 2)) 3 ((σ (7 * b)) 3))) (7 * a + 1) (va_cpy (σ (7 * b + 1)) (σ (7 * a + 1)) 0 0 6)) (by first | rfl | exact av_set_set _ _ _ _ | (funext a; unfold av_set; (repeat' split) <;> first | rfl | (exfalso; omega)) | (funext a; simp only [av_set, cpS]; (repeat' split) <;> first | rfl | (exfalso; omega))) ?_
  refine ev_aload_n dX4_copyFrom_47 rfl 1 rfl ?_
  refine ev_getR dX4_copyFrom_48 C_X4 L_X4_28 (by decide) (by omega) (sh_st (j := b) (by omega)) rfl ?_
  refine ev_iconst dX4_copyFrom_51 (v := nI 0) (by decide) ?_
  refine ev_aload_n dX4_copyFrom_52 rfl 0 rfl ?_
  refine ev_getR dX4_copyFrom_53 C_X4 L_X4_28 (by decide) (by omega) (sh_st (j := a) (by omega)) rfl ?_
  refine ev_iconst dX4_copyFrom_56 (v := nI 0) (by decide) ?_
  refine ev_bipush dX4_copyFrom_57 (v := nI 60) (by decide) ?_
  refine ev_arraycopy dX4_copyFrom_59 M_X4_49 W_acopy (by decide) (Nat.le_of_ble_eq_true rfl) (by omega) (by omega) (sh_st2 (j := b) (by omega)) (sh_st2 (j := a) (by omega)) (nI_pos (by omega)) (nI_pos (by omega)) (nI_pos (by omega)) (by rw [nI_clamp (by omega), nI_clamp (by omega)]; omega) (by rw [nI_clamp (by omega), nI_clamp (by omega)]; omega) ?_
  rw [nI_clamp (show 0 < 2 ^ 31 by omega), nI_clamp (show 60 < 2 ^ 31 by omega)]
  refine ev_st (σ' := av_set (av_set (av_set σ (7 * a) (upd (upd (upd (upd (σ (7 * a)) 0 ((σ (7 * b)) 0)) 1 ((σ (7 * b)) 1)) 2 ((σ (7 * b)) 2)) 3 ((σ (7 * b)) 3))) (7 * a + 1) (va_cpy (σ (7 * b + 1)) (σ (7 * a + 1)) 0 0 6)) (7 * a + 2) (va_cpy (σ (7 * b + 2)) (σ (7 * a + 2)) 0 0 60)) (by first | rfl | exact av_set_set _ _ _ _ | (funext a; unfold av_set; (repeat' split) <;> first | rfl | (exfalso; omega)) | (funext a; simp only [av_set, cpS]; (repeat' split) <;> first | rfl | (exfalso; omega))) ?_
  refine ev_aload_n dX4_copyFrom_62 rfl 1 rfl ?_
  refine ev_getR dX4_copyFrom_63 C_X4 L_X4_31 (by decide) (by omega) (sh_st (j := b) (by omega)) rfl ?_
  refine ev_iconst dX4_copyFrom_66 (v := nI 0) (by decide) ?_
  refine ev_aload_n dX4_copyFrom_67 rfl 0 rfl ?_
  refine ev_getR dX4_copyFrom_68 C_X4 L_X4_31 (by decide) (by omega) (sh_st (j := a) (by omega)) rfl ?_
  refine ev_iconst dX4_copyFrom_71 (v := nI 0) (by decide) ?_
  refine ev_bipush dX4_copyFrom_72 (v := nI 24) (by decide) ?_
  refine ev_arraycopy dX4_copyFrom_74 M_X4_49 W_acopy (by decide) (Nat.le_of_ble_eq_true rfl) (by omega) (by omega) (sh_st3 (j := b) (by omega)) (sh_st3 (j := a) (by omega)) (nI_pos (by omega)) (nI_pos (by omega)) (nI_pos (by omega)) (by rw [nI_clamp (by omega), nI_clamp (by omega)]; omega) (by rw [nI_clamp (by omega), nI_clamp (by omega)]; omega) ?_
  rw [nI_clamp (show 0 < 2 ^ 31 by omega), nI_clamp (show 24 < 2 ^ 31 by omega)]
  refine ev_st (σ' := av_set (av_set (av_set (av_set σ (7 * a) (upd (upd (upd (upd (σ (7 * a)) 0 ((σ (7 * b)) 0)) 1 ((σ (7 * b)) 1)) 2 ((σ (7 * b)) 2)) 3 ((σ (7 * b)) 3))) (7 * a + 1) (va_cpy (σ (7 * b + 1)) (σ (7 * a + 1)) 0 0 6)) (7 * a + 2) (va_cpy (σ (7 * b + 2)) (σ (7 * a + 2)) 0 0 60)) (7 * a + 3) (va_cpy (σ (7 * b + 3)) (σ (7 * a + 3)) 0 0 24)) (by first | rfl | exact av_set_set _ _ _ _ | (funext a; unfold av_set; (repeat' split) <;> first | rfl | (exfalso; omega)) | (funext a; simp only [av_set, cpS]; (repeat' split) <;> first | rfl | (exfalso; omega))) ?_
  refine ev_aload_n dX4_copyFrom_77 rfl 1 rfl ?_
  refine ev_getR dX4_copyFrom_78 C_X4 L_X4_34 (by decide) (by omega) (sh_st (j := b) (by omega)) rfl ?_
  refine ev_iconst dX4_copyFrom_81 (v := nI 0) (by decide) ?_
  refine ev_aload_n dX4_copyFrom_82 rfl 0 rfl ?_
  refine ev_getR dX4_copyFrom_83 C_X4 L_X4_34 (by decide) (by omega) (sh_st (j := a) (by omega)) rfl ?_
  refine ev_iconst dX4_copyFrom_86 (v := nI 0) (by decide) ?_
  refine ev_bipush dX4_copyFrom_87 (v := nI 24) (by decide) ?_
  refine ev_arraycopy dX4_copyFrom_89 M_X4_49 W_acopy (by decide) (Nat.le_of_ble_eq_true rfl) (by omega) (by omega) (sh_st4 (j := b) (by omega)) (sh_st4 (j := a) (by omega)) (nI_pos (by omega)) (nI_pos (by omega)) (nI_pos (by omega)) (by rw [nI_clamp (by omega), nI_clamp (by omega)]; omega) (by rw [nI_clamp (by omega), nI_clamp (by omega)]; omega) ?_
  rw [nI_clamp (show 0 < 2 ^ 31 by omega), nI_clamp (show 24 < 2 ^ 31 by omega)]
  refine ev_st (σ' := av_set (av_set (av_set (av_set (av_set σ (7 * a) (upd (upd (upd (upd (σ (7 * a)) 0 ((σ (7 * b)) 0)) 1 ((σ (7 * b)) 1)) 2 ((σ (7 * b)) 2)) 3 ((σ (7 * b)) 3))) (7 * a + 1) (va_cpy (σ (7 * b + 1)) (σ (7 * a + 1)) 0 0 6)) (7 * a + 2) (va_cpy (σ (7 * b + 2)) (σ (7 * a + 2)) 0 0 60)) (7 * a + 3) (va_cpy (σ (7 * b + 3)) (σ (7 * a + 3)) 0 0 24)) (7 * a + 4) (va_cpy (σ (7 * b + 4)) (σ (7 * a + 4)) 0 0 24)) (by first | rfl | exact av_set_set _ _ _ _ | (funext a; unfold av_set; (repeat' split) <;> first | rfl | (exfalso; omega)) | (funext a; simp only [av_set, cpS]; (repeat' split) <;> first | rfl | (exfalso; omega))) ?_
  refine ev_aload_n dX4_copyFrom_92 rfl 1 rfl ?_
  refine ev_getR dX4_copyFrom_93 C_X4 L_X4_37 (by decide) (by omega) (sh_st (j := b) (by omega)) rfl ?_
  refine ev_iconst dX4_copyFrom_96 (v := nI 0) (by decide) ?_
  refine ev_aload_n dX4_copyFrom_97 rfl 0 rfl ?_
  refine ev_getR dX4_copyFrom_98 C_X4 L_X4_37 (by decide) (by omega) (sh_st (j := a) (by omega)) rfl ?_
  refine ev_iconst dX4_copyFrom_101 (v := nI 0) (by decide) ?_
  refine ev_bipush dX4_copyFrom_102 (v := nI 24) (by decide) ?_
  refine ev_arraycopy dX4_copyFrom_104 M_X4_49 W_acopy (by decide) (Nat.le_of_ble_eq_true rfl) (by omega) (by omega) (sh_st5 (j := b) (by omega)) (sh_st5 (j := a) (by omega)) (nI_pos (by omega)) (nI_pos (by omega)) (nI_pos (by omega)) (by rw [nI_clamp (by omega), nI_clamp (by omega)]; omega) (by rw [nI_clamp (by omega), nI_clamp (by omega)]; omega) ?_
  rw [nI_clamp (show 0 < 2 ^ 31 by omega), nI_clamp (show 24 < 2 ^ 31 by omega)]
  refine ev_st (σ' := av_set (av_set (av_set (av_set (av_set (av_set σ (7 * a) (upd (upd (upd (upd (σ (7 * a)) 0 ((σ (7 * b)) 0)) 1 ((σ (7 * b)) 1)) 2 ((σ (7 * b)) 2)) 3 ((σ (7 * b)) 3))) (7 * a + 1) (va_cpy (σ (7 * b + 1)) (σ (7 * a + 1)) 0 0 6)) (7 * a + 2) (va_cpy (σ (7 * b + 2)) (σ (7 * a + 2)) 0 0 60)) (7 * a + 3) (va_cpy (σ (7 * b + 3)) (σ (7 * a + 3)) 0 0 24)) (7 * a + 4) (va_cpy (σ (7 * b + 4)) (σ (7 * a + 4)) 0 0 24)) (7 * a + 5) (va_cpy (σ (7 * b + 5)) (σ (7 * a + 5)) 0 0 24)) (by first | rfl | exact av_set_set _ _ _ _ | (funext a; unfold av_set; (repeat' split) <;> first | rfl | (exfalso; omega)) | (funext a; simp only [av_set, cpS]; (repeat' split) <;> first | rfl | (exfalso; omega))) ?_
  refine ev_aload_n dX4_copyFrom_107 rfl 1 rfl ?_
  refine ev_getR dX4_copyFrom_108 C_X4 L_X4_40 (by decide) (by omega) (sh_st (j := b) (by omega)) rfl ?_
  refine ev_iconst dX4_copyFrom_111 (v := nI 0) (by decide) ?_
  refine ev_aload_n dX4_copyFrom_112 rfl 0 rfl ?_
  refine ev_getR dX4_copyFrom_113 C_X4 L_X4_40 (by decide) (by omega) (sh_st (j := a) (by omega)) rfl ?_
  refine ev_iconst dX4_copyFrom_116 (v := nI 0) (by decide) ?_
  refine ev_bipush dX4_copyFrom_117 (v := nI 24) (by decide) ?_
  refine ev_arraycopy dX4_copyFrom_119 M_X4_49 W_acopy (by decide) (Nat.le_of_ble_eq_true rfl) (by omega) (by omega) (sh_st6 (j := b) (by omega)) (sh_st6 (j := a) (by omega)) (nI_pos (by omega)) (nI_pos (by omega)) (nI_pos (by omega)) (by rw [nI_clamp (by omega), nI_clamp (by omega)]; omega) (by rw [nI_clamp (by omega), nI_clamp (by omega)]; omega) ?_
  rw [nI_clamp (show 0 < 2 ^ 31 by omega), nI_clamp (show 24 < 2 ^ 31 by omega)]
  refine ev_st (σ' := av_set (av_set (av_set (av_set (av_set (av_set (av_set σ (7 * a) (upd (upd (upd (upd (σ (7 * a)) 0 ((σ (7 * b)) 0)) 1 ((σ (7 * b)) 1)) 2 ((σ (7 * b)) 2)) 3 ((σ (7 * b)) 3))) (7 * a + 1) (va_cpy (σ (7 * b + 1)) (σ (7 * a + 1)) 0 0 6)) (7 * a + 2) (va_cpy (σ (7 * b + 2)) (σ (7 * a + 2)) 0 0 60)) (7 * a + 3) (va_cpy (σ (7 * b + 3)) (σ (7 * a + 3)) 0 0 24)) (7 * a + 4) (va_cpy (σ (7 * b + 4)) (σ (7 * a + 4)) 0 0 24)) (7 * a + 5) (va_cpy (σ (7 * b + 5)) (σ (7 * a + 5)) 0 0 24)) (7 * a + 6) (va_cpy (σ (7 * b + 6)) (σ (7 * a + 6)) 0 0 24)) (by first | rfl | exact av_set_set _ _ _ _ | (funext a; unfold av_set; (repeat' split) <;> first | rfl | (exfalso; omega)) | (funext a; simp only [av_set, cpS]; (repeat' split) <;> first | rfl | (exfalso; omega))) ?_
  exact ev_return dX4_copyFrom_122 rfl (leafV hQ (cpS_raw hab))

set_option maxRecDepth 100000 in
set_option maxHeartbeats 1000000 in
theorem c_X0_keep {l : Launch} {σ : av_S} (j : Nat) (c : Nat) (hj : σ 64 1 = nI j) (hj8 : j < 8) (hc : σ 64 2 = nI c) (hc8 : c ≤ 8) : av_M l RX0 cX0_keep 3 none 2 [.ref 64, .ref 0] σ none (hkeep σ j c) := by
  intro Q hQ
  show av_Ev l RX0 cX0_keep 3 none av_E0 2 0 [(0, .ref 64), (1, .ref 0)] [] σ Q
  refine ev_aload_n dX0_keep_0 rfl 0 rfl ?_
  refine ev_getR dX0_keep_1 C_X0 L_X0_11 (by decide) (by decide) sh_64 rfl ?_
  refine ev_aload_n dX0_keep_4 rfl 0 rfl ?_
  refine ev_getI dX0_keep_5 C_X0 L_X0_17 (by decide) (by decide) sh_64 rfl ?_
  refine ev_top (v := nI j) hj ?_
  refine ev_aald (e := j) (r := 7 * (j + 1)) dX0_keep_8 (by decide) sh_65 (by decide) (by omega) (by decide) (by first | rfl | (show _ = _; omega)) ?_
  refine ev_astore_n (lv' := [(2, .ref (7 * (j + 1))), (0, .ref 64), (1, .ref 0)]) dX0_keep_9 rfl (by decide) rfl ?_
  refine ev_aload_n dX0_keep_10 rfl 0 rfl ?_
  refine ev_ifnull dX0_keep_11 ?_
  refine ev_aload_n dX0_keep_14 rfl 0 rfl ?_
  refine ev_aload_n dX0_keep_15 rfl 2 rfl ?_
  refine ev_callVv (σ' := cpS σ (j + 1) 0) dX0_keep_16 M_X0_25 Y_X4_copyFrom [.ref 0] (c_X4_copyFrom (j + 1) 0 (by omega) (by omega) (by omega)) (by decide) (Nat.le_of_ble_eq_true rfl) (by omega) (sh_st (j := (j + 1)) (by omega)) rfl rfl rfl (Nat.le_of_ble_eq_true rfl) ?_
  refine ev_aload_n dX0_keep_19 rfl 1 rfl ?_
  refine ev_aload_n dX0_keep_20 rfl 1 rfl ?_
  refine ev_getI dX0_keep_21 C_X0 L_X0_17 (by decide) (by decide) sh_64 rfl ?_
  refine ev_top (v := σ 64 1) (by first | rfl | (simp only [av_set, cpS]; (repeat' split) <;> first | rfl | (exfalso; omega))) ?_
  refine ev_top (v := nI j) hj ?_
  refine ev_bipush dX0_keep_24 (v := nI 7) (by decide) ?_
  refine ev_ncmp_ne (tgt := 33) dX0_keep_26 (by decide) (by omega) (by omega) (fun h26 => ?_) (fun h26 => ?_)
  · refine ev_aload_n dX0_keep_33 rfl 1 rfl ?_
    refine ev_getI dX0_keep_34 C_X0 L_X0_17 (by decide) (by decide) sh_64 rfl ?_
    refine ev_top (v := σ 64 1) (by first | rfl | (simp only [av_set, cpS]; (repeat' split) <;> first | rfl | (exfalso; omega))) ?_
    refine ev_top (v := nI j) hj ?_
    refine ev_iconst dX0_keep_37 (v := nI 1) (by decide) ?_
    refine ev_iadd dX0_keep_38 ?_
    refine ev_top (v := nI (j + 1)) (nI_add _ _) ?_
    refine ev_putI dX0_keep_39 C_X0 L_X0_17 (by decide) (by decide) sh_64 rfl rfl rfl ?_
    refine ev_st (σ' := av_set (cpS σ (j + 1) 0) 64 (upd (σ 64) 1 (nI (j + 1)))) (by first | rfl | exact av_set_set _ _ _ _ | (funext a; unfold av_set; (repeat' split) <;> first | rfl | (exfalso; omega)) | (funext a; simp only [av_set, cpS]; (repeat' split) <;> first | rfl | (exfalso; omega))) ?_
    refine ev_aload_n dX0_keep_42 rfl 1 rfl ?_
    refine ev_aload_n dX0_keep_43 rfl 1 rfl ?_
    refine ev_getI dX0_keep_44 C_X0 L_X0_21 (by decide) (by decide) sh_64 rfl ?_
    refine ev_top (v := σ 64 2) (by first | rfl | (simp only [av_set, cpS]; (repeat' split) <;> first | rfl | (exfalso; omega))) ?_
    refine ev_top (v := nI c) hc ?_
    refine ev_iconst dX0_keep_47 (v := nI 1) (by decide) ?_
    refine ev_iadd dX0_keep_48 ?_
    refine ev_top (v := nI (c + 1)) (nI_add _ _) ?_
    refine ev_bipush dX0_keep_49 (v := nI 8) (by decide) ?_
    refine ev_min (v := nI (min (c + 1) 8)) dX0_keep_51 M_X0_29 (by decide) (Nat.le_of_ble_eq_true rfl) (nI_min (by omega) (by omega)) ?_
    refine ev_putI dX0_keep_54 C_X0 L_X0_21 (by decide) (by decide) sh_64 rfl rfl rfl ?_
    refine ev_st (σ' := av_set (cpS σ (j + 1) 0) 64 (upd (upd (σ 64) 1 (nI (j + 1))) 2 (nI (min (c + 1) 8)))) (by first | rfl | exact av_set_set _ _ _ _ | (funext a; unfold av_set; (repeat' split) <;> first | rfl | (exfalso; omega)) | (funext a; simp only [av_set, cpS]; (repeat' split) <;> first | rfl | (exfalso; omega))) ?_
    exact ev_return dX0_keep_57 rfl (leafV hQ (by rw [← hkeep_raw hj8]; simp [nxt, h26]))
  · refine ev_iconst dX0_keep_29 (v := nI 0) (by decide) ?_
    refine ev_goto (tgt := 39) dX0_keep_30 (by decide) ?_
    refine ev_putI dX0_keep_39 C_X0 L_X0_17 (by decide) (by decide) sh_64 rfl rfl rfl ?_
    refine ev_st (σ' := av_set (cpS σ (j + 1) 0) 64 (upd (σ 64) 1 (nI 0))) (by first | rfl | exact av_set_set _ _ _ _ | (funext a; unfold av_set; (repeat' split) <;> first | rfl | (exfalso; omega)) | (funext a; simp only [av_set, cpS]; (repeat' split) <;> first | rfl | (exfalso; omega))) ?_
    refine ev_aload_n dX0_keep_42 rfl 1 rfl ?_
    refine ev_aload_n dX0_keep_43 rfl 1 rfl ?_
    refine ev_getI dX0_keep_44 C_X0 L_X0_21 (by decide) (by decide) sh_64 rfl ?_
    refine ev_top (v := σ 64 2) (by first | rfl | (simp only [av_set, cpS]; (repeat' split) <;> first | rfl | (exfalso; omega))) ?_
    refine ev_top (v := nI c) hc ?_
    refine ev_iconst dX0_keep_47 (v := nI 1) (by decide) ?_
    refine ev_iadd dX0_keep_48 ?_
    refine ev_top (v := nI (c + 1)) (nI_add _ _) ?_
    refine ev_bipush dX0_keep_49 (v := nI 8) (by decide) ?_
    refine ev_min (v := nI (min (c + 1) 8)) dX0_keep_51 M_X0_29 (by decide) (Nat.le_of_ble_eq_true rfl) (nI_min (by omega) (by omega)) ?_
    refine ev_putI dX0_keep_54 C_X0 L_X0_21 (by decide) (by decide) sh_64 rfl rfl rfl ?_
    refine ev_st (σ' := av_set (cpS σ (j + 1) 0) 64 (upd (upd (σ 64) 1 (nI 0)) 2 (nI (min (c + 1) 8)))) (by first | rfl | exact av_set_set _ _ _ _ | (funext a; unfold av_set; (repeat' split) <;> first | rfl | (exfalso; omega)) | (funext a; simp only [av_set, cpS]; (repeat' split) <;> first | rfl | (exfalso; omega))) ?_
    exact ev_return dX0_keep_57 rfl (leafV hQ (by rw [← hkeep_raw hj8]; simp [nxt, h26]))

set_option maxRecDepth 100000 in
set_option maxHeartbeats 1000000 in
theorem c_X0_takeBack {l : Launch} {σ : av_S} (j : Nat) (c : Nat) (hj : σ 64 1 = nI j) (hj8 : j < 8) (hc : σ 64 2 = nI c) (hc1 : 1 ≤ c) (hc8 : c ≤ 8) : av_M l RX0 cX0_takeBack 3 none 2 [.ref 64, .ref 0] σ none (htake σ j c) := by
  intro Q hQ
  show av_Ev l RX0 cX0_takeBack 3 none av_E0 2 0 [(0, .ref 64), (1, .ref 0)] [] σ Q
  refine ev_aload_n dX0_takeBack_0 rfl 0 rfl ?_
  refine ev_aload_n dX0_takeBack_1 rfl 0 rfl ?_
  refine ev_getI dX0_takeBack_2 C_X0 L_X0_17 (by decide) (by decide) sh_64 rfl ?_
  refine ev_top (v := nI j) hj ?_
  refine ev_nif_ne (tgt := 13) dX0_takeBack_5 (by decide) (by omega) (fun h5 => ?_) (fun h5 => ?_)
  · refine ev_aload_n dX0_takeBack_13 rfl 0 rfl ?_
    refine ev_getI dX0_takeBack_14 C_X0 L_X0_17 (by decide) (by decide) sh_64 rfl ?_
    refine ev_top (v := nI j) hj ?_
    refine ev_iconst dX0_takeBack_17 (v := nI 1) (by decide) ?_
    refine ev_isub dX0_takeBack_18 ?_
    refine ev_top (v := nI (j - 1)) (pk_sub (by omega)) ?_
    refine ev_putI dX0_takeBack_19 C_X0 L_X0_17 (by decide) (by decide) sh_64 rfl rfl rfl ?_
    refine ev_aload_n dX0_takeBack_22 rfl 0 rfl ?_
    refine ev_aload_n dX0_takeBack_23 rfl 0 rfl ?_
    refine ev_getI dX0_takeBack_24 C_X0 L_X0_21 (by decide) (by decide) sh_64 rfl ?_
    refine ev_top (v := σ 64 2) (by first | rfl | (simp only [av_set, cpS]; (repeat' split) <;> first | rfl | (exfalso; omega))) ?_
    refine ev_top (v := nI c) hc ?_
    refine ev_iconst dX0_takeBack_27 (v := nI 1) (by decide) ?_
    refine ev_isub dX0_takeBack_28 ?_
    refine ev_top (v := nI (c - 1)) (pk_sub (by omega)) ?_
    refine ev_iconst dX0_takeBack_29 (v := nI 0) (by decide) ?_
    refine ev_max (v := nI (c - 1)) dX0_takeBack_30 M_X0_35 (by decide) (Nat.le_of_ble_eq_true rfl) ((nI_max (by omega) (by omega)).trans (by rw [Nat.max_eq_left (by omega)])) ?_
    refine ev_putI dX0_takeBack_33 C_X0 L_X0_21 (by decide) (by decide) sh_64 rfl rfl rfl ?_
    refine ev_st (σ' := av_set σ 64 (upd (upd (σ 64) 1 (nI (j - 1))) 2 (nI (c - 1)))) (by first | rfl | exact av_set_set _ _ _ _ | (funext a; unfold av_set; (repeat' split) <;> first | rfl | (exfalso; omega)) | (funext a; simp only [av_set, cpS]; (repeat' split) <;> first | rfl | (exfalso; omega))) ?_
    refine ev_aload_n dX0_takeBack_36 rfl 0 rfl ?_
    refine ev_getR dX0_takeBack_37 C_X0 L_X0_11 (by decide) (by decide) sh_64 rfl ?_
    refine ev_aload_n dX0_takeBack_40 rfl 0 rfl ?_
    refine ev_getI dX0_takeBack_41 C_X0 L_X0_17 (by decide) (by decide) sh_64 rfl ?_
    refine ev_top (v := nI (j - 1)) (by first | rfl | (simp only [av_set, cpS]; (repeat' split) <;> first | rfl | (exfalso; omega))) ?_
    refine ev_aald (e := j - 1) (r := 7 * j) dX0_takeBack_44 (by decide) sh_65 (by decide) (by omega) (by decide) (by first | rfl | (show _ = _; omega)) ?_
    refine ev_astore_n (lv' := [(2, .ref (7 * j)), (0, .ref 64), (1, .ref 0)]) dX0_takeBack_45 rfl (by decide) rfl ?_
    refine ev_aload_n dX0_takeBack_46 rfl 0 rfl ?_
    refine ev_ifnull dX0_takeBack_47 ?_
    refine ev_aload_n dX0_takeBack_50 rfl 2 rfl ?_
    refine ev_aload_n dX0_takeBack_51 rfl 0 rfl ?_
    refine ev_callVv (σ' := cpS (av_set σ 64 (upd (upd (σ 64) 1 (nI (j - 1))) 2 (nI (c - 1)))) 0 j) dX0_takeBack_52 M_X0_25 Y_X4_copyFrom [.ref (7 * j)] (c_X4_copyFrom 0 j (by omega) (by omega) (by omega)) (by decide) (Nat.le_of_ble_eq_true rfl) (by decide) sh_0 rfl rfl rfl (Nat.le_of_ble_eq_true rfl) ?_
    exact ev_return dX0_takeBack_55 rfl (leafV hQ (by first | (rw [← htake_raw hj8, show prv j = 7 by unfold prv; rw [if_pos h5]]) | (rw [← htake_raw hj8, show prv j = j - 1 by unfold prv; rw [if_neg h5], show j - 1 + 1 = j by omega])))
  · refine ev_bipush dX0_takeBack_8 (v := nI 7) (by decide) ?_
    refine ev_goto (tgt := 19) dX0_takeBack_10 (by decide) ?_
    refine ev_putI dX0_takeBack_19 C_X0 L_X0_17 (by decide) (by decide) sh_64 rfl rfl rfl ?_
    refine ev_aload_n dX0_takeBack_22 rfl 0 rfl ?_
    refine ev_aload_n dX0_takeBack_23 rfl 0 rfl ?_
    refine ev_getI dX0_takeBack_24 C_X0 L_X0_21 (by decide) (by decide) sh_64 rfl ?_
    refine ev_top (v := σ 64 2) (by first | rfl | (simp only [av_set, cpS]; (repeat' split) <;> first | rfl | (exfalso; omega))) ?_
    refine ev_top (v := nI c) hc ?_
    refine ev_iconst dX0_takeBack_27 (v := nI 1) (by decide) ?_
    refine ev_isub dX0_takeBack_28 ?_
    refine ev_top (v := nI (c - 1)) (pk_sub (by omega)) ?_
    refine ev_iconst dX0_takeBack_29 (v := nI 0) (by decide) ?_
    refine ev_max (v := nI (c - 1)) dX0_takeBack_30 M_X0_35 (by decide) (Nat.le_of_ble_eq_true rfl) ((nI_max (by omega) (by omega)).trans (by rw [Nat.max_eq_left (by omega)])) ?_
    refine ev_putI dX0_takeBack_33 C_X0 L_X0_21 (by decide) (by decide) sh_64 rfl rfl rfl ?_
    refine ev_st (σ' := av_set σ 64 (upd (upd (σ 64) 1 (nI 7)) 2 (nI (c - 1)))) (by first | rfl | exact av_set_set _ _ _ _ | (funext a; unfold av_set; (repeat' split) <;> first | rfl | (exfalso; omega)) | (funext a; simp only [av_set, cpS]; (repeat' split) <;> first | rfl | (exfalso; omega))) ?_
    refine ev_aload_n dX0_takeBack_36 rfl 0 rfl ?_
    refine ev_getR dX0_takeBack_37 C_X0 L_X0_11 (by decide) (by decide) sh_64 rfl ?_
    refine ev_aload_n dX0_takeBack_40 rfl 0 rfl ?_
    refine ev_getI dX0_takeBack_41 C_X0 L_X0_17 (by decide) (by decide) sh_64 rfl ?_
    refine ev_top (v := nI 7) (by first | rfl | (simp only [av_set, cpS]; (repeat' split) <;> first | rfl | (exfalso; omega))) ?_
    refine ev_aald (e := 7) (r := 56) dX0_takeBack_44 (by decide) sh_65 (by decide) (by omega) (by decide) (by first | rfl | (show _ = _; omega)) ?_
    refine ev_astore_n (lv' := [(2, .ref 56), (0, .ref 64), (1, .ref 0)]) dX0_takeBack_45 rfl (by decide) rfl ?_
    refine ev_aload_n dX0_takeBack_46 rfl 0 rfl ?_
    refine ev_ifnull dX0_takeBack_47 ?_
    refine ev_aload_n dX0_takeBack_50 rfl 2 rfl ?_
    refine ev_aload_n dX0_takeBack_51 rfl 0 rfl ?_
    refine ev_callVv (σ' := cpS (av_set σ 64 (upd (upd (σ 64) 1 (nI 7)) 2 (nI (c - 1)))) 0 8) dX0_takeBack_52 M_X0_25 Y_X4_copyFrom [.ref 56] (c_X4_copyFrom 0 8 (by omega) (by omega) (by omega)) (by decide) (Nat.le_of_ble_eq_true rfl) (by decide) sh_0 rfl rfl rfl (Nat.le_of_ble_eq_true rfl) ?_
    exact ev_return dX0_takeBack_55 rfl (leafV hQ (by first | (rw [← htake_raw hj8, show prv j = 7 by unfold prv; rw [if_pos h5]]) | (rw [← htake_raw hj8, show prv j = j - 1 by unfold prv; rw [if_neg h5], show j - 1 + 1 = j by omega])))

