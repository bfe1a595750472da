/-! ===== numbers, bits, folds; rules over them ===== -/
def b2i (p : Bool) : Int32 := bif p then nI 1 else nI 0
theorem b2i_t : b2i true = nI 1 := rfl
theorem b2i_f : b2i false = nI 0 := rfl
theorem b2i_narrow (p : Bool) : narrow .boolean (.int (b2i p)) = .int (b2i p) := by cases p <;> rfl
theorem b2i_eq0 {p : Bool} : b2i p = 0 ↔ p = false := by cases p <;> decide
theorem b2i_of {p : Bool} {c : Prop} [Decidable c] (h : p = decide c) : b2i p = if c then nI 1 else nI 0 := by
  subst h
  by_cases hc : c <;> simp [b2i, hc]
/-- bit k of x -/
def tb (x : Int32) (k : Nat) : Bool := x.toBitVec.getLsbD k
/-- the set of k alone -/
def bt (k : Nat) : Int32 := nI 1 <<< (nI k &&& 31)
def fo {α : Type} (n : Nat) (f : Nat → α → α) (a : α) : α := match n with
  | 0 => a
  | n + 1 => f n (fo n f a)
theorem fo_0 {α : Type} (f : Nat → α → α) (a : α) : fo 0 f a = a := rfl
theorem fo_s {α : Type} (n : Nat) (f : Nat → α → α) (a : α) : fo (n + 1) f a = f n (fo n f a) := rfl
theorem nI_inc (e : Nat) : nI e + Int32.ofInt 1 = nI (e + 1) := nI_1 e
theorem nI_inck (e k : Nat) : nI e + Int32.ofInt (k : Int) = nI (e + k) := by
  rw [show Int32.ofInt (k : Int) = nI k from rfl, nI_add]
theorem nI_dec {e : Nat} (h : 1 ≤ e) : nI e + Int32.ofInt (-1) = nI (e - 1) := by
  obtain ⟨e, rfl⟩ : ∃ j, e = j + 1 := ⟨e - 1, by omega⟩
  rw [show Int32.ofInt (-1) = -1 from rfl, pk_m1, Nat.add_sub_cancel]
theorem loop_up (P : Nat → Prop) (n : Nat) (hn : P n) (hs : ∀ k, k < n → P (k + 1) → P k) : P 0 := by
  have key : ∀ j, j ≤ n → P (n - j) := by
    intro j
    induction j with
    | zero => intro _; exact hn
    | succ j ih =>
      intro hj
      refine hs (n - (j + 1)) (by omega) ?_
      rw [show n - (j + 1) + 1 = n - j by omega]
      exact ih (by omega)
  have := key n (Nat.le_refl n)
  rwa [Nat.sub_self] at this
theorem loop_from (P : Nat → Prop) (i n : Nat) (hi : i ≤ n) (hn : P n) (hs : ∀ k, i ≤ k → k < n → P (k + 1) → P k) : P i := by
  have key : ∀ j, j ≤ n - i → P (n - j) := by
    intro j
    induction j with
    | zero => intro _; exact hn
    | succ j ih =>
      intro hj
      refine hs (n - (j + 1)) (by omega) (by omega) ?_
      rw [show n - (j + 1) + 1 = n - j by omega]
      exact ih (by omega)
  have := key (n - i) (Nat.le_refl _)
  rwa [show n - (n - i) = i by omega] at this
theorem leafI {Q : Option Value → av_S → Prop} {a b : Int32} {s t : av_S} (hQ : Q (some (.int a)) s) (h1 : b = a) (h2 : t = s) : Q (some (.int b)) t := by
  rw [h1, h2]; exact hQ
theorem leafV {Q : Option Value → av_S → Prop} {s t : av_S} (hQ : Q none s) (h2 : t = s) : Q none t := by
  rw [h2]; exact hQ
theorem av_set_set (σ : av_S) (k : Nat) (f g : Nat → Int32) : av_set (av_set σ k f) k g = av_set σ k g := by
  funext a; unfold av_set; split <;> rfl
theorem av_set_comm (σ : av_S) {k j : Nat} (f g : Nat → Int32) (h : k ≠ j) : av_set (av_set σ k f) j g = av_set (av_set σ j g) k f := by
  funext a; unfold av_set; (repeat' split) <;> first | rfl | (exfalso; omega)
theorem av_set_eq (σ : av_S) (k : Nat) (f : Nat → Int32) : av_set σ k f k = f := if_pos rfl
theorem av_set_ne (σ : av_S) {k j : Nat} (f : Nat → Int32) (h : j ≠ k) : av_set σ k f j = σ j := if_neg h
theorem av_set_self (σ : av_S) (k : Nat) : av_set σ k (σ k) = σ := by
  funext a; unfold av_set; split
  · rename_i h; rw [h]
  · rfl
section AvUtil
variable {l : Launch} {own : String} {cc : ByteArray} {nL : Nat} {ret : Option FieldType} {E : av_Ex} {d pc : Nat} {lv lv' : List (Nat × Value)} {st : List Value} {σ σ' : av_S} {Q : Option Value → av_S → Prop}
theorem ev_top {x v : Int32} (h : x = v) (k : av_Ev l own cc nL ret E d pc lv (.int v :: st) σ Q) : av_Ev l own cc nL ret E d pc lv (.int x :: st) σ Q := by rw [h]; exact k
theorem ev_st (h : σ = σ') (k : av_Ev l own cc nL ret E d pc lv st σ' Q) : av_Ev l own cc nL ret E d pc lv st σ Q := by rw [h]; exact k
theorem ev_iald {k n e : Nat} {v : Int32} (hd : decode cc pc = .ok (.iaload, 1)) (hk : k < 86) (hs : av_sh k = .inr (.inl (0, n))) (he : e < n) (hn : n ≤ 2000) (hv : σ k e = v)
    (kk : av_Ev l own cc nL ret E d (pc + 1) lv (.int v :: st) σ Q) : av_Ev l own cc nL ret E d pc lv (.int (nI e) :: .ref k :: st) σ Q := by
  subst hv
  refine ev_iaload hd hk hs (vp_in_nI he (by omega)) ?_
  rw [nI_clamp (by omega)]
  exact kk
theorem ev_iast {k n e : Nat} {x : Int32} (hd : decode cc pc = .ok (.iastore, 1)) (hk : k < 86) (hs : av_sh k = .inr (.inl (0, n))) (he : e < n) (hn : n ≤ 2000)
    (kk : av_Ev l own cc nL ret E d (pc + 1) lv st (av_set σ k (upd (σ k) e x)) Q) : av_Ev l own cc nL ret E d pc lv (.int x :: .int (nI e) :: .ref k :: st) σ Q := by
  refine ev_iastore hd hk hs (vp_in_nI he (by omega)) ?_
  rw [nI_clamp (by omega)]
  exact kk
theorem ev_cald {k n e : Nat} {v : Int32} (hd : decode cc pc = .ok (.caload, 1)) (hk : k < 86) (hs : av_sh k = .inr (.inl (1, n))) (he : e < n) (hn : n ≤ 2000) (hv : σ k e = v)
    (kk : av_Ev l own cc nL ret E d (pc + 1) lv (.int v :: st) σ Q) : av_Ev l own cc nL ret E d pc lv (.int (nI e) :: .ref k :: st) σ Q := by
  subst hv
  refine ev_caload hd hk hs (vp_in_nI he (by omega)) ?_
  rw [nI_clamp (by omega)]
  exact kk
theorem ev_cast {k n e : Nat} {x : Int32} (hd : decode cc pc = .ok (.castore, 1)) (hk : k < 86) (hs : av_sh k = .inr (.inl (1, n))) (he : e < n) (hn : n ≤ 2000) (hx : vp_nar .char x = x)
    (kk : av_Ev l own cc nL ret E d (pc + 1) lv st (av_set σ k (upd (σ k) e x)) Q) : av_Ev l own cc nL ret E d pc lv (.int x :: .int (nI e) :: .ref k :: st) σ Q := by
  refine ev_castore hd hk hs (vp_in_nI he (by omega)) ?_
  rw [nI_clamp (by omega), hx]
  exact kk
theorem ev_aald {k kd n e r : Nat} {f : Nat → Nat} (hd : decode cc pc = .ok (.aaload, 1)) (hk : k < 86) (hs : av_sh k = .inr (.inr (kd, n, f))) (hkd : kd = 2 ∨ kd = 3) (he : e < n) (hn : n ≤ 2000) (hr : f e = r)
    (kk : av_Ev l own cc nL ret E d (pc + 1) lv (.ref r :: st) σ Q) : av_Ev l own cc nL ret E d pc lv (.int (nI e) :: .ref k :: st) σ Q := by
  subst hr
  refine ev_aaload hd hk hs hkd (vp_in_nI he (by omega)) ?_
  rw [nI_clamp (by omega)]
  exact kk
theorem ev_ifb_eq {p : Bool} {off : Int} {tgt : Nat} (hd : decode cc pc = .ok (.ifCond .eq off, 3)) (ht : (pc : Int) + off = (tgt : Int)) (kt : p = false → av_Ev l own cc nL ret E d tgt lv st σ Q) (kf : p = true → av_Ev l own cc nL ret E d (pc + 3) lv st σ Q) : av_Ev l own cc nL ret E d pc lv (.int (b2i p) :: st) σ Q :=
  ev_if_eq hd ht (fun h => kt (b2i_eq0.mp h)) (fun h => kf (by cases p <;> first | rfl | exact absurd rfl h))
theorem ev_ifb_ne {p : Bool} {off : Int} {tgt : Nat} (hd : decode cc pc = .ok (.ifCond .ne off, 3)) (ht : (pc : Int) + off = (tgt : Int)) (kt : p = true → av_Ev l own cc nL ret E d tgt lv st σ Q) (kf : p = false → av_Ev l own cc nL ret E d (pc + 3) lv st σ Q) : av_Ev l own cc nL ret E d pc lv (.int (b2i p) :: st) σ Q :=
  ev_if_ne hd ht (fun h => kt (by cases p <;> first | rfl | exact absurd rfl h)) (fun h => kf (b2i_eq0.mp h))
theorem ev_ncmp_eq {a b : Nat} {off : Int} {tgt : Nat} (hd : decode cc pc = .ok (.if_icmp .eq off, 3)) (ht : (pc : Int) + off = (tgt : Int)) (ha : a < 2 ^ 31) (hb : b < 2 ^ 31) (kt : a = b → av_Ev l own cc nL ret E d tgt lv st σ Q) (kf : ¬ a = b → av_Ev l own cc nL ret E d (pc + 3) lv st σ Q) : av_Ev l own cc nL ret E d pc lv (.int (nI b) :: .int (nI a) :: st) σ Q :=
  ev_icmp_eq hd ht (fun h => kt ((nI_eq ha hb).mp h)) (fun h => kf (fun q => h ((nI_eq ha hb).mpr q)))
theorem ev_ncmp_ne {a b : Nat} {off : Int} {tgt : Nat} (hd : decode cc pc = .ok (.if_icmp .ne off, 3)) (ht : (pc : Int) + off = (tgt : Int)) (ha : a < 2 ^ 31) (hb : b < 2 ^ 31) (kt : ¬ a = b → av_Ev l own cc nL ret E d tgt lv st σ Q) (kf : a = b → av_Ev l own cc nL ret E d (pc + 3) lv st σ Q) : av_Ev l own cc nL ret E d pc lv (.int (nI b) :: .int (nI a) :: st) σ Q :=
  ev_icmp_ne hd ht (fun h => kt (fun q => h ((nI_eq ha hb).mpr q))) (fun h => kf ((nI_eq ha hb).mp h))
theorem ev_ncmp_lt {a b : Nat} {off : Int} {tgt : Nat} (hd : decode cc pc = .ok (.if_icmp .lt off, 3)) (ht : (pc : Int) + off = (tgt : Int)) (ha : a < 2 ^ 31) (hb : b < 2 ^ 31) (kt : a < b → av_Ev l own cc nL ret E d tgt lv st σ Q) (kf : ¬ a < b → av_Ev l own cc nL ret E d (pc + 3) lv st σ Q) : av_Ev l own cc nL ret E d pc lv (.int (nI b) :: .int (nI a) :: st) σ Q :=
  ev_icmp_lt hd ht (fun h => kt ((nI_ltI ha hb).mp h)) (fun h => kf (fun q => h ((nI_ltI ha hb).mpr q)))
theorem ev_ncmp_ge {a b : Nat} {off : Int} {tgt : Nat} (hd : decode cc pc = .ok (.if_icmp .ge off, 3)) (ht : (pc : Int) + off = (tgt : Int)) (ha : a < 2 ^ 31) (hb : b < 2 ^ 31) (kt : b ≤ a → av_Ev l own cc nL ret E d tgt lv st σ Q) (kf : ¬ b ≤ a → av_Ev l own cc nL ret E d (pc + 3) lv st σ Q) : av_Ev l own cc nL ret E d pc lv (.int (nI b) :: .int (nI a) :: st) σ Q :=
  ev_icmp_ge hd ht (fun h => kt ((nI_leI hb ha).mp h)) (fun h => kf (fun q => h ((nI_leI hb ha).mpr q)))
theorem ev_ncmp_gt {a b : Nat} {off : Int} {tgt : Nat} (hd : decode cc pc = .ok (.if_icmp .gt off, 3)) (ht : (pc : Int) + off = (tgt : Int)) (ha : a < 2 ^ 31) (hb : b < 2 ^ 31) (kt : b < a → av_Ev l own cc nL ret E d tgt lv st σ Q) (kf : ¬ b < a → av_Ev l own cc nL ret E d (pc + 3) lv st σ Q) : av_Ev l own cc nL ret E d pc lv (.int (nI b) :: .int (nI a) :: st) σ Q :=
  ev_icmp_gt hd ht (fun h => kt ((nI_ltI hb ha).mp h)) (fun h => kf (fun q => h ((nI_ltI hb ha).mpr q)))
theorem ev_ncmp_le {a b : Nat} {off : Int} {tgt : Nat} (hd : decode cc pc = .ok (.if_icmp .le off, 3)) (ht : (pc : Int) + off = (tgt : Int)) (ha : a < 2 ^ 31) (hb : b < 2 ^ 31) (kt : a ≤ b → av_Ev l own cc nL ret E d tgt lv st σ Q) (kf : ¬ a ≤ b → av_Ev l own cc nL ret E d (pc + 3) lv st σ Q) : av_Ev l own cc nL ret E d pc lv (.int (nI b) :: .int (nI a) :: st) σ Q :=
  ev_icmp_le hd ht (fun h => kt ((nI_leI ha hb).mp h)) (fun h => kf (fun q => h ((nI_leI ha hb).mpr q)))
theorem ev_nif_eq {a : Nat} {off : Int} {tgt : Nat} (hd : decode cc pc = .ok (.ifCond .eq off, 3)) (ht : (pc : Int) + off = (tgt : Int)) (ha : a < 2 ^ 31) (kt : a = 0 → av_Ev l own cc nL ret E d tgt lv st σ Q) (kf : ¬ a = 0 → av_Ev l own cc nL ret E d (pc + 3) lv st σ Q) : av_Ev l own cc nL ret E d pc lv (.int (nI a) :: st) σ Q :=
  ev_if_eq hd ht (fun h => kt ((nI_eq ha (by omega)).mp (h.trans nI_0.symm))) (fun h => kf (fun q => h (by rw [q]; exact nI_0)))
theorem ev_nif_ne {a : Nat} {off : Int} {tgt : Nat} (hd : decode cc pc = .ok (.ifCond .ne off, 3)) (ht : (pc : Int) + off = (tgt : Int)) (ha : a < 2 ^ 31) (kt : ¬ a = 0 → av_Ev l own cc nL ret E d tgt lv st σ Q) (kf : a = 0 → av_Ev l own cc nL ret E d (pc + 3) lv st σ Q) : av_Ev l own cc nL ret E d pc lv (.int (nI a) :: st) σ Q :=
  ev_if_ne hd ht (fun h => kt (fun q => h (by rw [q]; exact nI_0))) (fun h => kf ((nI_eq ha (by omega)).mp (h.trans nI_0.symm)))
theorem ev_nif_le {a : Nat} {off : Int} {tgt : Nat} (hd : decode cc pc = .ok (.ifCond .le off, 3)) (ht : (pc : Int) + off = (tgt : Int)) (ha : a < 2 ^ 31) (kt : a = 0 → av_Ev l own cc nL ret E d tgt lv st σ Q) (kf : ¬ a = 0 → av_Ev l own cc nL ret E d (pc + 3) lv st σ Q) : av_Ev l own cc nL ret E d pc lv (.int (nI a) :: st) σ Q :=
  ev_if_le hd ht (fun h => kt (by have := (nI_leI ha (show 0 < 2 ^ 31 by omega)).mp h; omega)) (fun h => kf (fun q => h (by rw [q]; exact nI_leI (by omega) (show 0 < 2 ^ 31 by omega) |>.mpr (Nat.le_refl 0))))
theorem ev_nif_lt {a : Nat} {off : Int} {tgt : Nat} (hd : decode cc pc = .ok (.ifCond .lt off, 3)) (ht : (pc : Int) + off = (tgt : Int)) (ha : a < 2 ^ 31) (kf : av_Ev l own cc nL ret E d (pc + 3) lv st σ Q) : av_Ev l own cc nL ret E d pc lv (.int (nI a) :: st) σ Q :=
  ev_if_lt hd ht (fun h => absurd h (nI_pos ha)) (fun _ => kf)
theorem ev_nif_ge {a : Nat} {off : Int} {tgt : Nat} (hd : decode cc pc = .ok (.ifCond .ge off, 3)) (ht : (pc : Int) + off = (tgt : Int)) (ha : a < 2 ^ 31) (kt : av_Ev l own cc nL ret E d tgt lv st σ Q) : av_Ev l own cc nL ret E d pc lv (.int (nI a) :: st) σ Q :=
  ev_if_ge hd ht (fun _ => kt) (fun h => absurd (nI_pos' ha) h)
theorem ev_max {index : Nat} {x y v : Int32} (hd : decode cc pc = .ok (.invokestatic index, 3)) (hL : Cond.methodLink own index Lib.Math.max.name ∈ wG) (hd1 : 1 ≤ d) (hrm : (st.map fun v => v.category).sum ≤ 8) (hv : (if x < y then y else x) = v) (k : av_Ev l own cc nL ret E d (pc + 3) lv (.int v :: st) σ Q) : av_Ev l own cc nL ret E d pc lv (.int y :: .int x :: st) σ Q := by
  subst hv
  intro X p e R s m args below meth c A cells slots Z F H locs ls hP hS hl
  have hR := F.2.2.2.2.2.2.2.2.2.2.2.1
  have hc := F.2.2.2.2.2.2.2.2.2.2.2.2.1
  exact va_mmax F.1 F.2.1 (by rw [F.2.2.1]; exact hl.1.symm) F.2.2.2.1 (F.2.2.2.2.1 _ hL) (F.2.2.2.2.1 _ W_max.1) (F.2.2.2.2.1 _ W_max.2.1) (F.2.2.2.2.1 _ W_max.2.2) (by omega) (by rw [av_cats]; omega) hc.1 hc.2 hd (k X p e R s m args below meth c A cells slots Z F H locs ls hP hS hl)
theorem ev_min {index : Nat} {x y v : Int32} (hd : decode cc pc = .ok (.invokestatic index, 3)) (hL : Cond.methodLink own index Lib.Math.min.name ∈ wG) (hd1 : 1 ≤ d) (hrm : (st.map fun v => v.category).sum ≤ 8) (hv : (if y < x then y else x) = v) (k : av_Ev l own cc nL ret E d (pc + 3) lv (.int v :: st) σ Q) : av_Ev l own cc nL ret E d pc lv (.int y :: .int x :: st) σ Q := by
  subst hv
  intro X p e R s m args below meth c A cells slots Z F H locs ls hP hS hl
  have hR := F.2.2.2.2.2.2.2.2.2.2.2.1
  have hc := F.2.2.2.2.2.2.2.2.2.2.2.2.1
  exact va_mmin F.1 F.2.1 (by rw [F.2.2.1]; exact hl.1.symm) F.2.2.2.1 (F.2.2.2.2.1 _ hL) (F.2.2.2.2.1 _ W_min.1) (F.2.2.2.2.1 _ W_min.2.1) (F.2.2.2.2.1 _ W_min.2.2) (by omega) (by rw [av_cats]; omega) hc.1 hc.2 hd (k X p e R s m args below meth c A cells slots Z F H locs ls hP hS hl)
end AvUtil
