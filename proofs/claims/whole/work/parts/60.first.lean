/-! ===== the world that the law begins its loop with ===== -/
def adX (h : Nat) (u : Nat → Nat → Nat) (m : Nat) (b z : Nat → Nat) : Nat → Nat := fun k => [u 36 0, u 0 1, u 0 2, u 0 3, u 0 4, u 0 5, u 0 6, u 1 0, u 1 1, u 1 2, u 1 3, u 1 4, u 1 5, u 1 6, u 5 0, u 5 1, u 5 2, u 5 3, u 5 4, u 5 5, u 5 6, u 9 0, u 9 1, u 9 2, u 9 3, u 9 4, u 9 5, u 9 6, u 13 0, u 13 1, u 13 2, u 13 3, u 13 4, u 13 5, u 13 6, u 17 0, u 17 1, u 17 2, u 17 3, u 17 4, u 17 5, u 17 6, u 21 0, u 21 1, u 21 2, u 21 3, u 21 4, u 21 5, u 21 6, u 25 0, u 25 1, u 25 2, u 25 3, u 25 4, u 25 5, u 25 6, u 29 0, u 29 1, u 29 2, u 29 3, u 29 4, u 29 5, u 29 6, h, u 36 1, u 33 0, u 36 2, u 2 1, u 36 3, u 3 0, u 7 0, u 7 1, u 7 2, u 7 3, u 7 4, u 7 5, u 3 1, m, b 1, b 2, b 3, b 4, b 5, b 6, b 7, b 8, z 0, z 1, z 2].getD k 0
def sg0 : av_S := fun k => if k < 63 then (if k % 7 = 0 then upd (fun _ => 0) 0 1 else if k % 7 = 2 then fl (fun _ => 0) 60 (-1) else fun _ => 0) else if k = 68 then upd (upd (fun _ => 0) 2 (-9)) 3 (-9) else if k = 78 then mrs (fun _ => 0) 1 else fun _ => 0
theorem sg0_0 : sg0 0 = upd (fun _ => 0) 0 1 := rfl
theorem sg0_2 : sg0 2 = fl (fun _ => 0) 60 (-1) := rfl
theorem sg0_78 : sg0 78 = mrs (fun _ => 0) 1 := rfl
theorem Inv_sg0 : Inv sg0 := by
  refine ⟨⟨1, 0, RM_mk (by decide) ?_ (by decide) (by decide) (by decide) ?_ (by decide) ?_ ?_ (RB_new (fun i hi => by rfl) (fun i hi => ?_) (fun i hi => by rfl) (fun i hi => by rfl) (fun i h4 hi => ?_))⟩, ⟨0, 0, by decide, by decide, by decide, by decide, by decide, fun i hi => absurd hi (Nat.not_lt_zero i)⟩, ⟨0, fun _ => 0, by decide, by decide, by decide, fun i hi => absurd hi (Nat.not_lt_zero i)⟩⟩
  · rw [sg0_78, mrs_at (by omega), if_pos rfl]; decide
  · rw [sg0_78, mrs_at (by omega)]; decide
  · rw [sg0_78, mrs_at (by omega)]; decide
  · rw [sg0_78, mrs_at (by omega)]; decide
  · rw [sg0_2]; exact fl_at.trans (if_pos hi)
  · rw [sg0_78, mrs_at (by omega), if_neg (by omega)]
/-- where cell k stands in the world as it was made -/
def pi0 (k : Nat) : Nat := if k < 7 then k + 1 else if k < 63 then k + 3 else if k = 63 then 0 else if k = 64 then 8 else if k = 65 then 9 else k
theorem pi0_inj {i j : Nat} (hi : i < 86) (hj : j < 86) (h : pi0 i = pi0 j) : i = j := by
  unfold pi0 at h
  repeat' split at h
  all_goals omega
theorem arrV_cg {c : ClassId} {n : Nat} {f g : Nat → Value} (h : ∀ j, j < n → f j = g j) : arrV c n f = arrV c n g := by
  unfold arrV
  congr 2
  funext j
  exact h j.val j.isLt
section FirstWorld
variable {D : va_G} {k4 : Nat → ClassId} {h m : Nat} {u : Nat → Nat → Nat} {b z : Nat → Nat}
def wP (D : va_G) (k4 : Nat → ClassId) (h m : Nat) (u : Nat → Nat → Nat) (b z : Nat → Nat) (k : Nat) : Prop := ∃ e' : va_E, (netW k4 h u ++ moW k4 m b)[pi0 k]? = some (adX h u m b z k, e') ∧ ∀ H : Heap, va_at D vwCl (adX h u m b z k, e') H → va_at D vwCl (adX h u m b z k, av_e (D, adX h u m b z, k4) sg0 k) H
theorem wP.mk {k : Nat} (hk : (netW k4 h u ++ moW k4 m b)[pi0 k]? = some (adX h u m b z k, av_e (D, adX h u m b z, k4) sg0 k)) : wP D k4 h m u b z k := ⟨_, hk, fun _ h => h⟩
theorem wP.ext {n : Nat} (h0 : ∀ k, k < n → wP D k4 h m u b z k) (hn : wP D k4 h m u b z n) : ∀ k, k < n + 1 → wP D k4 h m u b z k := fun k hk => by
  rcases Nat.lt_succ_iff_lt_or_eq.mp hk with q | q
  · exact h0 k q
  · rw [q]; exact hn
theorem wP_0 : wP D k4 h m u b z 0 := wP.mk rfl
theorem wP_1 : wP D k4 h m u b z 1 := wP.mk rfl
theorem wP_2 : wP D k4 h m u b z 2 := wP.mk rfl
theorem wP_3 : wP D k4 h m u b z 3 := wP.mk rfl
theorem wP_4 : wP D k4 h m u b z 4 := wP.mk rfl
theorem wP_5 : wP D k4 h m u b z 5 := wP.mk rfl
theorem wP_6 : wP D k4 h m u b z 6 := wP.mk rfl
theorem wP_7 : wP D k4 h m u b z 7 := wP.mk rfl
theorem wP_8 : wP D k4 h m u b z 8 := wP.mk rfl
theorem wP_9 : wP D k4 h m u b z 9 := wP.mk rfl
theorem wP_10 : wP D k4 h m u b z 10 := wP.mk rfl
theorem wP_11 : wP D k4 h m u b z 11 := wP.mk rfl
theorem wP_12 : wP D k4 h m u b z 12 := wP.mk rfl
theorem wP_13 : wP D k4 h m u b z 13 := wP.mk rfl
theorem wP_14 : wP D k4 h m u b z 14 := wP.mk rfl
theorem wP_15 : wP D k4 h m u b z 15 := wP.mk rfl
theorem wP_16 : wP D k4 h m u b z 16 := wP.mk rfl
theorem wP_17 : wP D k4 h m u b z 17 := wP.mk rfl
theorem wP_18 : wP D k4 h m u b z 18 := wP.mk rfl
theorem wP_19 : wP D k4 h m u b z 19 := wP.mk rfl
theorem wP_20 : wP D k4 h m u b z 20 := wP.mk rfl
theorem wP_21 : wP D k4 h m u b z 21 := wP.mk rfl
theorem wP_22 : wP D k4 h m u b z 22 := wP.mk rfl
theorem wP_23 : wP D k4 h m u b z 23 := wP.mk rfl
theorem wP_24 : wP D k4 h m u b z 24 := wP.mk rfl
theorem wP_25 : wP D k4 h m u b z 25 := wP.mk rfl
theorem wP_26 : wP D k4 h m u b z 26 := wP.mk rfl
theorem wP_27 : wP D k4 h m u b z 27 := wP.mk rfl
theorem wP_28 : wP D k4 h m u b z 28 := wP.mk rfl
theorem wP_29 : wP D k4 h m u b z 29 := wP.mk rfl
theorem wP_30 : wP D k4 h m u b z 30 := wP.mk rfl
theorem wP_31 : wP D k4 h m u b z 31 := wP.mk rfl
theorem wP_32 : wP D k4 h m u b z 32 := wP.mk rfl
theorem wP_33 : wP D k4 h m u b z 33 := wP.mk rfl
theorem wP_34 : wP D k4 h m u b z 34 := wP.mk rfl
theorem wP_35 : wP D k4 h m u b z 35 := wP.mk rfl
theorem wP_36 : wP D k4 h m u b z 36 := wP.mk rfl
theorem wP_37 : wP D k4 h m u b z 37 := wP.mk rfl
theorem wP_38 : wP D k4 h m u b z 38 := wP.mk rfl
theorem wP_39 : wP D k4 h m u b z 39 := wP.mk rfl
theorem wP_40 : wP D k4 h m u b z 40 := wP.mk rfl
theorem wP_41 : wP D k4 h m u b z 41 := wP.mk rfl
theorem wP_42 : wP D k4 h m u b z 42 := wP.mk rfl
theorem wP_43 : wP D k4 h m u b z 43 := wP.mk rfl
theorem wP_44 : wP D k4 h m u b z 44 := wP.mk rfl
theorem wP_45 : wP D k4 h m u b z 45 := wP.mk rfl
theorem wP_46 : wP D k4 h m u b z 46 := wP.mk rfl
theorem wP_47 : wP D k4 h m u b z 47 := wP.mk rfl
theorem wP_48 : wP D k4 h m u b z 48 := wP.mk rfl
theorem wP_49 : wP D k4 h m u b z 49 := wP.mk rfl
theorem wP_50 : wP D k4 h m u b z 50 := wP.mk rfl
theorem wP_51 : wP D k4 h m u b z 51 := wP.mk rfl
theorem wP_52 : wP D k4 h m u b z 52 := wP.mk rfl
theorem wP_53 : wP D k4 h m u b z 53 := wP.mk rfl
theorem wP_54 : wP D k4 h m u b z 54 := wP.mk rfl
theorem wP_55 : wP D k4 h m u b z 55 := wP.mk rfl
theorem wP_56 : wP D k4 h m u b z 56 := wP.mk rfl
theorem wP_57 : wP D k4 h m u b z 57 := wP.mk rfl
theorem wP_58 : wP D k4 h m u b z 58 := wP.mk rfl
theorem wP_59 : wP D k4 h m u b z 59 := wP.mk rfl
theorem wP_60 : wP D k4 h m u b z 60 := wP.mk rfl
theorem wP_61 : wP D k4 h m u b z 61 := wP.mk rfl
theorem wP_62 : wP D k4 h m u b z 62 := wP.mk rfl
theorem wP_63 : wP D k4 h m u b z 63 := wP.mk rfl
theorem wP_64 : wP D k4 h m u b z 64 := wP.mk rfl
theorem wP_66 : wP D k4 h m u b z 66 := wP.mk rfl
theorem wP_67 : wP D k4 h m u b z 67 := wP.mk rfl
theorem wP_68 : wP D k4 h m u b z 68 := wP.mk rfl
theorem wP_70 : wP D k4 h m u b z 70 := wP.mk rfl
theorem wP_71 : wP D k4 h m u b z 71 := wP.mk rfl
theorem wP_72 : wP D k4 h m u b z 72 := wP.mk rfl
theorem wP_73 : wP D k4 h m u b z 73 := wP.mk rfl
theorem wP_74 : wP D k4 h m u b z 74 := wP.mk rfl
theorem wP_75 : wP D k4 h m u b z 75 := wP.mk rfl
theorem wP_76 : wP D k4 h m u b z 76 := wP.mk rfl
theorem wP_77 : wP D k4 h m u b z 77 := wP.mk rfl
theorem wP_78 : wP D k4 h m u b z 78 := wP.mk rfl
theorem wP_79 : wP D k4 h m u b z 79 := wP.mk rfl
theorem wP_80 : wP D k4 h m u b z 80 := wP.mk rfl
theorem wP_81 : wP D k4 h m u b z 81 := wP.mk rfl
theorem wP_82 : wP D k4 h m u b z 82 := wP.mk rfl
theorem wP_83 : wP D k4 h m u b z 83 := wP.mk rfl
theorem wP_84 : wP D k4 h m u b z 84 := wP.mk rfl
theorem wP_85 : wP D k4 h m u b z 85 := wP.mk rfl
theorem wP_65 : wP D k4 h m u b z 65 := by
  refine ⟨_, rfl, fun H hH => ?_⟩
  refine Eq.trans hH ?_
  show some (vp_cell (k4 2) (8, .inr (.inr (.inr (.inr (fun i => if i < 8 then some (u (4 * i + 1) 0) else none)))))) = some (vp_cell (k4 2) (8, .inr (.inr (.inr (.inr (fun i => some (adX h u m b z (7 * i + 7))))))))
  rw [vp_cell_q, vp_cell_q]
  refine congrArg some (arrV_cg (fun j hj => ?_))
  rw [if_pos hj]
  match j, hj with
  | 0, _ => rfl
  | 1, _ => rfl
  | 2, _ => rfl
  | 3, _ => rfl
  | 4, _ => rfl
  | 5, _ => rfl
  | 6, _ => rfl
  | 7, _ => rfl
  | j + 8, q => exact absurd q (by omega)
theorem wP_69 : wP D k4 h m u b z 69 := by
  refine ⟨_, rfl, fun H hH => ?_⟩
  refine Eq.trans hH ?_
  show some (vp_cell (k4 3) (6, .inr (.inr (.inr (.inr (fun i => if i < 6 then some (u (4 * 1 + 3) i) else none)))))) = some (vp_cell (k4 3) (6, .inr (.inr (.inr (.inr (fun i => some (adX h u m b z (70 + i))))))))
  rw [vp_cell_q, vp_cell_q]
  refine congrArg some (arrV_cg (fun j hj => ?_))
  rw [if_pos hj]
  match j, hj with
  | 0, _ => rfl
  | 1, _ => rfl
  | 2, _ => rfl
  | 3, _ => rfl
  | 4, _ => rfl
  | 5, _ => rfl
  | j + 6, q => exact absurd q (by omega)
theorem wPa_0 : ∀ k, k < 0 → wP D k4 h m u b z k := fun k hk => absurd hk (Nat.not_lt_zero k)
theorem wPa_10 : ∀ k, k < 10 → wP D k4 h m u b z k := (wP.ext (n := 9) (wP.ext (n := 8) (wP.ext (n := 7) (wP.ext (n := 6) (wP.ext (n := 5) (wP.ext (n := 4) (wP.ext (n := 3) (wP.ext (n := 2) (wP.ext (n := 1) (wP.ext (n := 0) wPa_0 wP_0) wP_1) wP_2) wP_3) wP_4) wP_5) wP_6) wP_7) wP_8) wP_9)
theorem wPa_20 : ∀ k, k < 20 → wP D k4 h m u b z k := (wP.ext (n := 19) (wP.ext (n := 18) (wP.ext (n := 17) (wP.ext (n := 16) (wP.ext (n := 15) (wP.ext (n := 14) (wP.ext (n := 13) (wP.ext (n := 12) (wP.ext (n := 11) (wP.ext (n := 10) wPa_10 wP_10) wP_11) wP_12) wP_13) wP_14) wP_15) wP_16) wP_17) wP_18) wP_19)
theorem wPa_30 : ∀ k, k < 30 → wP D k4 h m u b z k := (wP.ext (n := 29) (wP.ext (n := 28) (wP.ext (n := 27) (wP.ext (n := 26) (wP.ext (n := 25) (wP.ext (n := 24) (wP.ext (n := 23) (wP.ext (n := 22) (wP.ext (n := 21) (wP.ext (n := 20) wPa_20 wP_20) wP_21) wP_22) wP_23) wP_24) wP_25) wP_26) wP_27) wP_28) wP_29)
theorem wPa_40 : ∀ k, k < 40 → wP D k4 h m u b z k := (wP.ext (n := 39) (wP.ext (n := 38) (wP.ext (n := 37) (wP.ext (n := 36) (wP.ext (n := 35) (wP.ext (n := 34) (wP.ext (n := 33) (wP.ext (n := 32) (wP.ext (n := 31) (wP.ext (n := 30) wPa_30 wP_30) wP_31) wP_32) wP_33) wP_34) wP_35) wP_36) wP_37) wP_38) wP_39)
theorem wPa_50 : ∀ k, k < 50 → wP D k4 h m u b z k := (wP.ext (n := 49) (wP.ext (n := 48) (wP.ext (n := 47) (wP.ext (n := 46) (wP.ext (n := 45) (wP.ext (n := 44) (wP.ext (n := 43) (wP.ext (n := 42) (wP.ext (n := 41) (wP.ext (n := 40) wPa_40 wP_40) wP_41) wP_42) wP_43) wP_44) wP_45) wP_46) wP_47) wP_48) wP_49)
theorem wPa_60 : ∀ k, k < 60 → wP D k4 h m u b z k := (wP.ext (n := 59) (wP.ext (n := 58) (wP.ext (n := 57) (wP.ext (n := 56) (wP.ext (n := 55) (wP.ext (n := 54) (wP.ext (n := 53) (wP.ext (n := 52) (wP.ext (n := 51) (wP.ext (n := 50) wPa_50 wP_50) wP_51) wP_52) wP_53) wP_54) wP_55) wP_56) wP_57) wP_58) wP_59)
theorem wPa_70 : ∀ k, k < 70 → wP D k4 h m u b z k := (wP.ext (n := 69) (wP.ext (n := 68) (wP.ext (n := 67) (wP.ext (n := 66) (wP.ext (n := 65) (wP.ext (n := 64) (wP.ext (n := 63) (wP.ext (n := 62) (wP.ext (n := 61) (wP.ext (n := 60) wPa_60 wP_60) wP_61) wP_62) wP_63) wP_64) wP_65) wP_66) wP_67) wP_68) wP_69)
theorem wPa_80 : ∀ k, k < 80 → wP D k4 h m u b z k := (wP.ext (n := 79) (wP.ext (n := 78) (wP.ext (n := 77) (wP.ext (n := 76) (wP.ext (n := 75) (wP.ext (n := 74) (wP.ext (n := 73) (wP.ext (n := 72) (wP.ext (n := 71) (wP.ext (n := 70) wPa_70 wP_70) wP_71) wP_72) wP_73) wP_74) wP_75) wP_76) wP_77) wP_78) wP_79)
theorem wPa_86 : ∀ k, k < 86 → wP D k4 h m u b z k := (wP.ext (n := 85) (wP.ext (n := 84) (wP.ext (n := 83) (wP.ext (n := 82) (wP.ext (n := 81) (wP.ext (n := 80) wPa_80 wP_80) wP_81) wP_82) wP_83) wP_84) wP_85)
theorem w0_P {H : Heap} (hP : va_P D vwCl (netW k4 h u ++ moW k4 m b) H) : va_P D vwCl (av_w (D, adX h u m b z, k4) sg0) H := by
  intro k q hq
  have hk : k < 86 := by
    have := (List.getElem?_eq_some_iff.mp hq).1
    rwa [av_w_len] at this
  rw [av_w_at hk] at hq
  have hq := Option.some.inj hq
  subst hq
  obtain ⟨e', h1, h2⟩ := wPa_86 (D := D) (k4 := k4) (h := h) (m := m) (u := u) (b := b) (z := z) k hk
  exact h2 H (hP _ _ h1)
theorem w0_D {A : Nat → Prop} (hD : va_D A (netW k4 h u ++ moW k4 m b)) (σ : av_S) : va_D A (av_w (D, adX h u m b z, k4) σ) := by
  refine av_D_any (σ := sg0) ⟨fun i j x y hi hj hxy => ?_, fun k q hq => ?_⟩
  · have h1 : i < 86 := by
      have := (List.getElem?_eq_some_iff.mp hi).1
      rwa [av_w_len] at this
    have h2 : j < 86 := by
      have := (List.getElem?_eq_some_iff.mp hj).1
      rwa [av_w_len] at this
    rw [av_w_at h1] at hi
    rw [av_w_at h2] at hj
    have hi := Option.some.inj hi
    have hj := Option.some.inj hj
    subst hi
    subst hj
    obtain ⟨e1, g1, -⟩ := wPa_86 (D := D) (k4 := k4) (h := h) (m := m) (u := u) (b := b) (z := z) i h1
    obtain ⟨e2, g2, -⟩ := wPa_86 (D := D) (k4 := k4) (h := h) (m := m) (u := u) (b := b) (z := z) j h2
    exact pi0_inj h1 h2 (hD.1 _ _ _ _ g1 g2 hxy)
  · have h1 : k < 86 := by
      have := (List.getElem?_eq_some_iff.mp hq).1
      rwa [av_w_len] at this
    rw [av_w_at h1] at hq
    have hq := Option.some.inj hq
    subst hq
    obtain ⟨e1, g1, -⟩ := wPa_86 (D := D) (k4 := k4) (h := h) (m := m) (u := u) (b := b) (z := z) k h1
    exact hD.2 _ (_, e1) g1
end FirstWorld
