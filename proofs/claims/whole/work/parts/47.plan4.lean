/-! ===== plans: the reference's search ===== -/
def encR : Option Nat → Int32
  | none => -9
  | some t => nI t
def RGr (G : Nat → Int32) (v : Nat) (f : Nat → av_gr) (w : Nat) : Prop := ∀ x k, x < w → k < 10 → G (60 * v + 10 * x + k) = encR (f x k)
theorem mgK_enc {x y : Option Nat} (hx : ∀ t, x = some t → t ≤ 9999) (hy : ∀ t, y = some t → t ≤ 9999) : mgK (encR x) (encR y) = klO x y := by
  cases x with
  | none => exact mgK_1 rfl
  | some s =>
    have h1 := hx s rfl
    cases y with
    | none => exact mgK_2 (nI_neg (by omega) (by decide)) rfl
    | some t =>
      have h2 := hy t rfl
      show mgK (nI s) (nI t) = if s = t then 2 else 1
      by_cases e : s = t
      · rw [if_pos e]; exact mgK_3 (nI_neg (by omega) (by decide)) (nI_neg (by omega) (by decide)) (by rw [e])
      · rw [if_neg e]; exact mgK_4 (nI_neg (by omega) (by decide)) (nI_neg (by omega) (by decide)) (fun q => e ((nI_eq (by omega) (by omega)).mp q))
theorem mgS_enc {x y : Option Nat} (hx : ∀ t, x = some t → t ≤ 9999) (hy : ∀ t, y = some t → t ≤ 9999) : mgS (encR x) (encR y) = encR (mgO x y) := by
  cases x with
  | none =>
    have e : mgO none y = y := by cases y <;> rfl
    rw [e]; exact mgS_1 rfl
  | some s =>
    have h1 := hx s rfl
    cases y with
    | none => exact mgS_2 (nI_neg (by omega) (by decide)) rfl
    | some t =>
      have h2 := hy t rfl
      show mgS (nI s) (nI t) = encR (if s = t then none else some (min s t))
      by_cases e : s = t
      · rw [if_pos e]; exact mgS_3 (nI_neg (by omega) (by decide)) (nI_neg (by omega) (by decide)) (by rw [e])
      · rw [if_neg e]
        have hne : ¬ nI s = nI t := fun q => e ((nI_eq (by omega) (by omega)).mp q)
        by_cases hle : t ≤ s
        · rw [mgS_4 (nI_neg (by omega) (by decide)) (nI_neg (by omega) (by decide)) hne ((nI_leI (by omega) (by omega)).mpr hle), Nat.min_eq_right hle]; rfl
        · rw [mgS_5 (nI_neg (by omega) (by decide)) (nI_neg (by omega) (by decide)) hne (fun q => hle ((nI_leI (by omega) (by omega)).mp q)), Nat.min_eq_left (by omega)]; rfl
theorem dcG_at {G : Nat → Int32} {v i : Nat} : dcG G v i = if 60 * v + 60 ≤ i ∧ i < 60 * v + 120 then G (i - 60) else G i := by
  have key : ∀ m, m ≤ 60 → ∀ i, fo m (fun k G => upd G (60 * v + 60 + k) (G (60 * v + k))) G i = if 60 * v + 60 ≤ i ∧ i < 60 * v + 60 + m then G (i - 60) else G i := by
    intro m
    induction m with
    | zero => intro _ i; rw [if_neg (by omega)]; rfl
    | succ m ih =>
      intro hm i
      have ih := ih (by omega)
      rw [fo_s]
      by_cases e : i = 60 * v + 60 + m
      · rw [e, upd_eq, ih, if_neg (by omega), if_pos (by omega)]
        congr 1; omega
      · rw [upd_ne e, ih]
        by_cases q : 60 * v + 60 ≤ i ∧ i < 60 * v + 60 + m
        · rw [if_pos q, if_pos (by omega)]
        · rw [if_neg q, if_neg (by omega)]
  exact key 60 (Nat.le_refl _) i
theorem dcL_at {G : Nat → Int32} {v q w : Nat} (hq : q < w - 1) {i : Nat} : dcL G v q w i = if 60 * (v + 1) + 10 * q ≤ i ∧ i < 60 * (v + 1) + 10 * q + 10 then G (60 * (v + 1) + 10 * (w - 1) + (i - (60 * (v + 1) + 10 * q))) else G i := by
  have key : ∀ m, m ≤ 10 → ∀ i, fo m (fun n G => upd G (60 * (v + 1) + 10 * q + n) (G (60 * (v + 1) + 10 * (w - 1) + n))) G i = if 60 * (v + 1) + 10 * q ≤ i ∧ i < 60 * (v + 1) + 10 * q + m then G (60 * (v + 1) + 10 * (w - 1) + (i - (60 * (v + 1) + 10 * q))) else G i := by
    intro m
    induction m with
    | zero => intro _ i; rw [if_neg (by omega)]; rfl
    | succ m ih =>
      intro hm i
      have ih := ih (by omega)
      rw [fo_s]
      by_cases e : i = 60 * (v + 1) + 10 * q + m
      · rw [e, upd_eq, ih, if_neg (by omega), if_pos (by omega)]
        congr 1; omega
      · rw [upd_ne e, ih]
        by_cases h : 60 * (v + 1) + 10 * q ≤ i ∧ i < 60 * (v + 1) + 10 * q + m
        · rw [if_pos h, if_pos (by omega)]
        · rw [if_neg h, if_neg (by omega)]
  exact key 10 (Nat.le_refl _) i
theorem dcL_out {G : Nat → Int32} {v q w i : Nat} (h : ¬ (60 * (v + 1) + 10 * q ≤ i ∧ i < 60 * (v + 1) + 10 * q + 10)) : dcL G v q w i = G i := by
  have key : ∀ m, m ≤ 10 → fo m (fun n G => upd G (60 * (v + 1) + 10 * q + n) (G (60 * (v + 1) + 10 * (w - 1) + n))) G i = G i := by
    intro m
    induction m with
    | zero => intro _; rfl
    | succ m ih => intro hm; rw [fo_s, upd_ne (by omega)]; exact ih (by omega)
  exact key 10 (Nat.le_refl _)
def chR (f : Nat → av_gr) (p q w x : Nat) : av_gr := fun k => if x = p then mgO (f p k) (f q k) else f (if x = q then w - 1 else x) k
theorem dcA_low {G : Nat → Int32} {v p q w i : Nat} (hpq : p ≠ q) (hi : i < 60 * (v + 1)) : dcA G v p q w i = G i := by
  unfold dcA
  rw [dcL_out (by omega), (mgg_at hpq 10 (Nat.le_refl _)).2, if_neg (by omega), dcG_at, if_neg (by omega)]
theorem dcA_RG {G : Nat → Int32} {v p q w : Nat} {f : Nat → av_gr} (hpq : p < q) (hq : q < w) (hw : w ≤ 6) (hR : RGr G v f w) (hG : okG f w) : RGr (dcA G v p q w) (v + 1) (chR f p q w) (w - 1) := by
  intro x k hx hk
  have hm : ∀ y, y < w → (mgg (dcG G v) (v + 1) p q 10).2 (60 * (v + 1) + 10 * y + k) = encR (if y = p then mgO (f p k) (f q k) else f y k) := by
    intro y hy
    rw [(mgg_at (by omega) 10 (Nat.le_refl _)).2]
    have hd : ∀ z, z < w → dcG G v (60 * (v + 1) + 10 * z + k) = encR (f z k) := by
      intro z hz
      rw [dcG_at, if_pos (by omega), show 60 * (v + 1) + 10 * z + k - 60 = 60 * v + 10 * z + k by omega]
      exact hR z k hz hk
    by_cases e : y = p
    · rw [if_pos (by omega), if_pos e, e, hd p (by omega), show 60 * (v + 1) + 10 * p + k - (60 * (v + 1) + 10 * p) = k by omega, hd q hq]
      exact mgS_enc (fun t => hG p k t (by omega) hk) (fun t => hG q k t hq hk)
    · rw [if_neg (by omega), if_neg e]; exact hd y hy
  unfold dcA chR
  by_cases e : x = q
  · have hq1 : q < w - 1 := by omega
    rw [dcL_at hq1, if_pos (by omega), if_neg (by omega), if_pos e, e, show 60 * (v + 1) + 10 * (w - 1) + (60 * (v + 1) + 10 * q + k - (60 * (v + 1) + 10 * q)) = 60 * (v + 1) + 10 * (w - 1) + k by omega, hm (w - 1) (by omega), if_neg (by omega)]
  · rw [dcL_out (by omega), hm x (by omega), if_neg e]
theorem dcK_kl {G : Nat → Int32} {v p q w : Nat} {f : Nat → av_gr} (hpq : p < q) (hq : q < w) (hw : w ≤ 6) (hR : RGr G v f w) (hG : okG f w) : dcK G v p q = klG (f p) (f q) := by
  unfold dcK klG
  rw [(mgg_at (by omega) 10 (Nat.le_refl _)).1]
  apply sm_congr
  intro k hk
  rw [dcG_at, if_pos (by omega), dcG_at, if_pos (by omega), show 60 * (v + 1) + 10 * p + k - 60 = 60 * v + 10 * p + k by omega, show 60 * (v + 1) + 10 * q + k - 60 = 60 * v + 10 * q + k by omega, hR p k (by omega) hk, hR q k hq hk]
  exact mgK_enc (fun t => hG p k t (by omega) hk) (fun t => hG q k t hq hk)
theorem chR_ok {f : Nat → av_gr} {p q w : Nat} (hpq : p < q) (hq : q < w) (hG : okG f w) : okG (chR f p q w) (w - 1) := by
  intro x k t hx hk
  unfold chR
  by_cases e : x = p
  · rw [if_pos e]
    exact mgO_le (fun t => hG p k t (by omega) hk) (fun t => hG q k t hq hk) t
  · rw [if_neg e]
    exact hG _ k t (by split <;> omega) hk
theorem chR_perm {f : Nat → av_gr} {p q w : Nat} (hw : w < 7) (hpq : p < q) (hq : q < w) : List.Perm ((List.range (w - 1)).map (chR f p q w)) (mgG (f p) (f q) :: (rI w p q).map f) :=
  child_perm (f := f) (f' := chR f p q w) (rI_3 w hw q hq p hpq) (fun x hx => by
    funext k
    unfold chR
    by_cases e : x = p
    · have e2 : (if x = q then w - 1 else x) = p := by rw [if_neg (by omega)]; exact e
      rw [if_pos e, if_pos e2]; rfl
    · have e2 : ¬ (if x = q then w - 1 else x) = p := by split <;> omega
      rw [if_neg e, if_neg e2])
def sL : List av_gr → Nat
  | [] => 0
  | g :: l => szG g + sL l
theorem sL_perm {l l' : List av_gr} (h : List.Perm l l') : sL l = sL l' := by
  induction h with
  | nil => rfl
  | cons x _ ih => show szG x + _ = szG x + _; rw [ih]
  | swap x y l => show szG y + (szG x + sL l) = szG x + (szG y + sL l); omega
  | trans _ _ h1 h2 => exact h1.trans h2
theorem sL_child {f : Nat → av_gr} {p q w : Nat} (hw : w < 7) (hpq : p < q) (hq : q < w) : klG (f p) (f q) + sL ((List.range (w - 1)).map (chR f p q w)) = sL ((List.range w).map f) := by
  have e1 := sL_perm (chR_perm (f := f) hw hpq hq)
  have e2 := sL_perm ((rI_1 w hw q hq p hpq).map f)
  have e3 : sL (mgG (f p) (f q) :: (rI w p q).map f) = szG (mgG (f p) (f q)) + sL ((rI w p q).map f) := rfl
  have e4 : sL ((p :: q :: rI w p q).map f) = szG (f p) + (szG (f q) + sL ((rI w p q).map f)) := rfl
  have e5 := mgG_sz (f p) (f q)
  omega
def rE (T : Nat) (s : av_S) (o : Option Nat) (F : Int32) : Prop := (s 77 11 = match o with
  | none => nI 1000
  | some v => nI (T - v)) ∧ s 77 12 = F ∧ ∀ v, o = some v → v ≤ T
theorem itr_ind {B : Nat → Nat → av_S → av_S} {v w : Nat} (hw : 2 ≤ w) (hw6 : w ≤ 6) (P : Nat → Nat → av_S → Prop) (hs : ∀ a b t, a < b → b < w → P a b t → P a (b + 1) (B a b t)) (hn : ∀ a b t p q, P a b t → P a b (nps t v p q w)) (hr : ∀ a t, a < w → P a w t → P (a + 1) (a + 1 + 1) t) : ∀ (f p q : Nat) (s : av_S), npmu p q < f → okp w p q → P p (q + 1) s → ∃ A Z, w ≤ A + 1 ∧ P A Z (itr B v w f p q s)
  | 0, p, q, s, h, _, _ => absurd h (Nat.not_lt_zero _)
  | f + 1, p, q, s, hf, hok, hP => by
    have hnext : P (npP p q w) (npQ p q w) s := by
      unfold npP npQ
      by_cases e : q + 1 = w
      · rw [if_pos e, if_pos e]
        rw [e] at hP
        exact hr p s (by unfold okp at hok; omega) hP
      · rw [if_neg e, if_neg e]; exact hP
    unfold itr
    by_cases hx : npQ p q w < w
    · rw [if_pos hx]
      obtain ⟨g1, g2, g3, g4⟩ := np_ok hw hw6 hok hx
      exact itr_ind hw hw6 P hs hn hr f _ _ _ (by omega) g1 (hs _ _ _ g4 hx (hn _ _ _ p q hnext))
    · rw [if_neg hx]
      refine ⟨npP p q w, npQ p q w, ?_, hn _ _ _ p q hnext⟩
      unfold npQ at hx
      unfold npP
      by_cases e : q + 1 = w
      · rw [if_pos e] at hx
        rw [if_pos e]; omega
      · rw [if_neg e] at hx
        unfold okp at hok; omega
/-- what a level does, as its callers see it -/
def dfsOk (T w v : Nat) (R : Nat → Nat → Nat → av_S → av_S) : Prop := ∀ (K P Q : Nat) (s : av_S) (f : Nat → av_gr) (o : Option Nat) (F : Int32), rE T s o F → RGr (s 81) v f w → okG f w → K + sL ((List.range w).map f) = T → ∃ o' F', rE T (R K P Q s) o' F' ∧ Post (Ach (w - 1) ((List.range w).map f)) (nI 10 * s 82 P + s 82 Q) o F o' F' ∧ (∀ i, i < 60 * (v + 1) → R K P Q s 81 i = s 81 i) ∧ R K P Q s 82 = s 82
theorem dfsB_ok {T w v K p0 q0 a b : Nat} {R : Nat → Nat → Nat → av_S → av_S} {t : av_S} {f : Nat → av_gr} {o : Option Nat} {F : Int32} (hT : T ≤ 60) (h2 : 2 ≤ w) (h6 : w ≤ 6) (hRk : 2 < w → dfsOk T (w - 1) (v + 1) R) (hab : a < b) (hb : b < w) (hE : rE T t o F) (hR : RGr (t 81) v f w) (hG : okG f w) (hK : K + sL ((List.range w).map f) = T) : ∃ o' F', rE T (dfsB R w v K p0 q0 a b t) o' F' ∧ Post (Sab w f a b) (nI 10 * t 82 (if v = 0 then a else p0) + t 82 (if v = 0 then b else q0)) o F o' F' ∧ (∀ i, i < 60 * (v + 1) → dfsB R w v K p0 q0 a b t 81 i = t 81 i) ∧ dfsB R w v K p0 q0 a b t 82 = t 82 := by
  have hdk : dcK (t 81) v a b = klG (f a) (f b) := dcK_kl hab hb h6 hR hG
  have hsl := sL_child (f := f) (show w < 7 by omega) hab hb
  have hlow : ∀ i, i < 60 * (v + 1) → dcA (t 81) v a b w i = t 81 i := fun i hi => dcA_low (by omega) hi
  have hEd : rE T (dsc t v a b w K) o F := hE
  unfold dfsB
  by_cases e2 : w = 2
  · rw [if_pos e2, hdk]
    subst e2
    have ea : a = 0 := by omega
    have eb : b = 1 := by omega
    have hS : ∀ v, Sab 2 f a b v ↔ v = szG (mgG (f a) (f b)) := by
      intro v
      have er : rI 2 a b = [] := by rw [ea, eb]; decide
      unfold Sab
      rw [er]
      constructor
      · rintro ⟨g, g1, g2⟩
        have : mgG (f a) (f b) = g := by
          have h3 := g1.mem_iff.mp (List.mem_cons.mpr (Or.inl rfl))
          rcases List.mem_cons.mp h3 with q | q
          · exact q
          · cases q
        rw [this]; exact g2
      · intro h; exact ⟨_, List.Perm.refl _, h⟩
    have hv : K + klG (f a) (f b) = T - szG (mgG (f a) (f b)) ∧ szG (mgG (f a) (f b)) ≤ T := by
      have e3 := sL_perm (chR_perm (f := f) (show 2 < 7 by omega) hab hb)
      have er : rI 2 a b = [] := by rw [ea, eb]; decide
      rw [er] at e3
      have e4 : sL (mgG (f a) (f b) :: ([] : List Nat).map f) = szG (mgG (f a) (f b)) + 0 := rfl
      omega
    have keep : ∀ K' P Q, (∀ i, i < 60 * (v + 1) → upb (dsc t v a b 2 K) K' P Q 81 i = t 81 i) ∧ upb (dsc t v a b 2 K) K' P Q 82 = t 82 := by
      intro K' P Q
      rw [upb_ne (by decide), upb_ne (by decide)]
      exact ⟨hlow, rfl⟩
    by_cases hx : t 77 11 ≤ nI (K + klG (f a) (f b))
    · refine ⟨o, F, ?_, Or.inl ⟨rfl, rfl, fun v hv' => ?_⟩, (keep _ _ _).1, (keep _ _ _).2⟩
      · rw [upb_t (show dsc t v a b 2 K 77 11 ≤ _ from hx)]; exact hEd
      · rw [hE.1] at hx
        cases ho : o with
        | none =>
          rw [ho] at hx
          have : 1000 ≤ K + klG (f a) (f b) := (nI_leI (by omega) (by omega)).mp hx
          omega
        | some u =>
          rw [ho] at hx
          have h3 : T - u ≤ K + klG (f a) (f b) := (nI_leI (by omega) (by omega)).mp hx
          have h4 := hE.2.2 u ho
          refine ⟨u, rfl, ?_⟩
          rw [(hS v).mp hv']; omega
    · refine ⟨some (szG (mgG (f a) (f b))), _, ⟨?_, ?_, fun v h => ?_⟩, Or.inr ⟨szG (mgG (f a) (f b)), (hS _).mpr rfl, fun u hu => ?_, fun x hx' => ?_, rfl, rfl⟩, (keep _ _ _).1, (keep _ _ _).2⟩
      · rw [upb_f (show ¬ dsc t v a b 2 K 77 11 ≤ _ from hx)]
        show nI (K + klG (f a) (f b)) = nI (T - szG (mgG (f a) (f b)))
        rw [hv.1]
      · rw [upb_f (show ¬ dsc t v a b 2 K 77 11 ≤ _ from hx)]; rfl
      · injection h with h; omega
      · rw [hE.1, hu] at hx
        have h3 : ¬ T - u ≤ K + klG (f a) (f b) := fun q => hx ((nI_leI (by omega) (by omega)).mpr q)
        have h4 := hE.2.2 u hu
        omega
      · rw [(hS x).mp hx']; exact Nat.le_refl _
  · rw [if_neg e2, hdk]
    obtain ⟨o', F', r1, r2, r3, r4⟩ := hRk (by omega) (K + klG (f a) (f b)) (if v = 0 then a else p0) (if v = 0 then b else q0) (dsc t v a b w K) (chR f a b w) o F hEd (dcA_RG hab hb h6 hR hG) (chR_ok hab hb hG) (by omega)
    refine ⟨o', F', r1, Post_congr (fun x => ?_) r2, fun i hi => ?_, r4⟩
    · rw [show w - 1 - 1 = w - 2 by omega]
      exact ⟨fun h => Ach_perm (chR_perm (by omega) hab hb) h, fun h => Ach_perm (chR_perm (by omega) hab hb).symm h⟩
    · rw [r3 i (by omega)]; exact hlow i hi
theorem RGr_congr {G G' : Nat → Int32} {v w : Nat} {f : Nat → av_gr} (hw : w ≤ 6) (e : ∀ i, i < 60 * (v + 1) → G' i = G i) (h : RGr G v f w) : RGr G' v f w := fun x k hx hk => by
  rw [e _ (by omega)]; exact h x k hx hk
theorem dfs_ok {T : Nat} (hT : T ≤ 60) : ∀ (w v : Nat), 2 ≤ w → v + w ≤ 6 → 1 ≤ v → dfsOk T w v (dfs w v)
  | 0, v, h, _, _ => absurd h (by omega)
  | w + 1, v, h2, h6, hv => by
    intro K P Q s f o F hE hR hG hK
    have ih : 2 < w + 1 → dfsOk T (w + 1 - 1) (v + 1) (dfs w (v + 1)) := fun h => dfs_ok hT w (v + 1) (by omega) (by omega) (by omega)
    unfold dfs
    have := itr_ind (B := dfsB (dfs w (v + 1)) (w + 1) v K P Q) (v := v) (w := w + 1) h2 (by omega) (fun A Z t => (∀ i, i < 60 * (v + 1) → t 81 i = s 81 i) ∧ t 82 = s 82 ∧ ∃ o' F', rE T t o' F' ∧ Post (fun x => ∃ a b, pr (w + 1) A Z a b ∧ Sab (w + 1) f a b x) (nI 10 * s 82 P + s 82 Q) o F o' F') (fun a b t hab hb hP => ?_) (fun a b t p q hP => ?_) (fun a t ha hP => ?_) 60 0 0 s (by decide) (Or.inl ⟨rfl, rfl⟩) ⟨fun _ _ => rfl, rfl, o, F, hE, Post_none (fun x => by rintro ⟨a, b, q, -⟩; exact pr_0 q)⟩
    · obtain ⟨A, Z, hA, q1, q2, o', F', q3, q4⟩ := this
      refine ⟨o', F', q3, Post_congr (fun x => ?_) q4, q1, q2⟩
      rw [Ach_pairs (by omega) h2]
      constructor
      · rintro ⟨a, b, g1, g2⟩; exact ⟨a, b, g1.1, g1.2.1, g2⟩
      · rintro ⟨a, b, g1, g2, g3⟩; exact ⟨a, b, pr_all hA g1 g2, g3⟩
    · obtain ⟨q1, q2, o', F', q3, q4⟩ := hP
      obtain ⟨o2, F2, r1, r2, r3, r4⟩ := dfsB_ok (p0 := P) (q0 := Q) hT h2 (by omega) ih hab hb q3 (RGr_congr (by omega) q1 hR) hG hK
      rw [if_neg (by omega), if_neg (by omega), q2] at r2
      refine ⟨fun i hi => (r3 i hi).trans (q1 i hi), r4.trans q2, o2, F2, r1, Post_congr (fun x => ?_) (Post_comp q4 r2)⟩
      constructor
      · rintro (⟨a', b', g1, g2⟩ | g)
        · exact ⟨a', b', (pr_s hab hb).mpr (Or.inl g1), g2⟩
        · exact ⟨a, b, (pr_s hab hb).mpr (Or.inr ⟨rfl, rfl⟩), g⟩
      · rintro ⟨a', b', g1, g2⟩
        rcases (pr_s hab hb).mp g1 with g | ⟨g3, g4⟩
        · exact Or.inl ⟨a', b', g, g2⟩
        · rw [g3, g4] at g2; exact Or.inr g2
    · exact hP
    · obtain ⟨q1, q2, o', F', q3, q4⟩ := hP
      refine ⟨q1, q2, o', F', q3, Post_congr (fun x => ?_) q4⟩
      constructor
      · rintro ⟨a', b', g1, g2⟩; exact ⟨a', b', pr_row.mp g1, g2⟩
      · rintro ⟨a', b', g1, g2⟩; exact ⟨a', b', pr_row.mpr g1, g2⟩
theorem dfs_top {T W : Nat} {s : av_S} {f : Nat → av_gr} (hT : T ≤ 60) (h2 : 2 ≤ W) (h6 : W ≤ 6) (h0 : s 77 11 = nI 1000) (hR : RGr (s 81) 0 f W) (hG : okG f W) (hK : sL ((List.range W).map f) = T) : ∃ x, dfs W 0 0 0 0 s 77 11 = nI (T - x) ∧ x ≤ T ∧ Fin2 W (Sab W f) (fun a b => nI 10 * s 82 a + s 82 b) x (dfs W 0 0 0 0 s 77 12) := by
  obtain ⟨w, rfl⟩ : ∃ w, W = w + 1 := ⟨W - 1, by omega⟩
  have ih : 2 < w + 1 → dfsOk T (w + 1 - 1) (0 + 1) (dfs w (0 + 1)) := fun h => dfs_ok hT w 1 (by omega) (by omega) (by omega)
  unfold dfs
  have := itr_ind (B := dfsB (dfs w (0 + 1)) (w + 1) 0 0 0 0) (v := 0) (w := w + 1) h2 (by omega) (fun A Z t => (∀ i, i < 60 * (0 + 1) → t 81 i = s 81 i) ∧ t 82 = s 82 ∧ ∃ o' F', rE T t o' F' ∧ Top (w + 1) (Sab (w + 1) f) (fun a b => nI 10 * s 82 a + s 82 b) A Z o' F') (fun a b t hab hb hP => ?_) (fun a b t p q hP => ?_) (fun a t ha hP => ?_) 60 0 0 s (by decide) (Or.inl ⟨rfl, rfl⟩) ⟨fun _ _ => rfl, rfl, none, s 77 12, ⟨h0, rfl, fun v h => by cases h⟩, Or.inl ⟨rfl, fun a b => pr_0⟩⟩
  · obtain ⟨A, Z, hA, -, -, o, F, q1, q2⟩ := this
    obtain ⟨x, h7, h8⟩ := Top_fin h2 hA q2
    refine ⟨x, ?_, q1.2.2 x h7, ?_⟩
    · rw [q1.1, h7]
    · rw [q1.2.1]; exact h8
  · obtain ⟨q1, q2, o', F', q3, q4⟩ := hP
    obtain ⟨o2, F2, r1, r2, r3, r4⟩ := dfsB_ok (v := 0) (p0 := 0) (q0 := 0) (K := 0) hT h2 (by omega) ih hab hb q3 (RGr_congr (by omega) q1 hR) hG (by omega)
    rw [if_pos rfl, if_pos rfl, q2] at r2
    exact ⟨fun i hi => (r3 i hi).trans (q1 i hi), r4.trans q2, o2, F2, r1, Top_step hab hb (Sab_some (by omega) hab hb) q4 r2⟩
  · exact hP
  · obtain ⟨q1, q2, o', F', q3, q4⟩ := hP
    exact ⟨q1, q2, o', F', q3, Top_row q4⟩
