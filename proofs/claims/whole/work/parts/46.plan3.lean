/-! ===== plans: the class's search ===== -/
theorem mr1_at {r g : Nat → Int32} {b : Nat} : ∀ k, ((mr1 r g b k).1 = if b < k then k - 1 else k) ∧ ∀ w i, w < (mr1 r g b k).1 → i < 10 → (mr1 r g b k).2 (w * 10 + i) = r ((if w < b then w else w + 1) * 10 + i) := by
  intro k
  induction k with
  | zero => exact ⟨rfl, fun w i h => absurd h (Nat.not_lt_zero _)⟩
  | succ k ih =>
    obtain ⟨h1, h2⟩ := ih
    have e : mr1 r g b (k + 1) = mr1F r b k (mr1 r g b k) := rfl
    rw [e]
    unfold mr1F
    by_cases hb : k = b
    · rw [if_pos hb]
      refine ⟨?_, h2⟩
      rw [h1, if_neg (by omega), if_pos (by omega)]; omega
    · rw [if_neg hb]
      refine ⟨?_, fun w i hw hi => ?_⟩
      · show (mr1 r g b k).1 + 1 = _
        rw [h1]
        by_cases q : b < k
        · rw [if_pos q, if_pos (by omega)]; omega
        · rw [if_neg q, if_neg (by omega)]
      · show va_cpy r (mr1 r g b k).2 (k * 10) ((mr1 r g b k).1 * 10) 10 (w * 10 + i) = _
        unfold va_cpy
        by_cases q : w = (mr1 r g b k).1
        · rw [if_pos (by omega)]
          congr 1
          have : (if w < b then w else w + 1) = k := by
            rw [q, h1]
            by_cases q2 : b < k
            · rw [if_pos q2, if_neg (by omega)]; omega
            · rw [if_neg q2, if_pos (by omega)]
          rw [this]
          omega
        · have hw : w < (mr1 r g b k).1 + 1 := hw
          rw [if_neg (by omega)]
          exact h2 w i (by omega) hi
/-- the rows behind a merge -/
def chC (f : Nat → av_gr) (a b w : Nat) : av_gr := fun k => if w = a then mgO (f a k) (f b k) else f (if w < b then w else w + 1) k
theorem mrg_RG {r g : Nat → Int32} {f : Nat → av_gr} {N a b : Nat} (hab : a < b) (hb : b < N) (hR : RG r f N) (hG : okG f N) : RG (mrg r g N a b) (chC f a b) (N - 1) := by
  intro w k hw hk
  obtain ⟨h1, h2⟩ := mr1_at (r := r) (g := g) (b := b) N
  rw [if_pos hb] at h1
  have key : ∀ m, m ≤ 10 → fo m (fun n G => upd G (a * 10 + n) (srv (r (a * 10 + n)) (r (b * 10 + n)))) (mr1 r g b N).2 (w * 10 + k) = if w = a ∧ k < m then srv (r (a * 10 + k)) (r (b * 10 + k)) else (mr1 r g b N).2 (w * 10 + k) := by
    intro m
    induction m with
    | zero => intro _; rw [if_neg (by omega)]; rfl
    | succ m ih =>
      intro hm
      rw [fo_s]
      by_cases e : w = a ∧ k = m
      · rw [e.1, e.2, upd_eq, if_pos (by omega)]
      · rw [upd_ne (by omega), ih (by omega)]
        by_cases q : w = a ∧ k < m
        · rw [if_pos q, if_pos (by omega)]
        · rw [if_neg q, if_neg (by omega)]
  unfold mrg
  rw [key 10 (Nat.le_refl _)]
  unfold chC
  by_cases e : w = a
  · rw [if_pos ⟨e, hk⟩, if_pos e, hR a k (by omega) hk, hR b k hb hk]
    exact srv_enc (fun t => hG a k t (by omega) hk) (fun t => hG b k t hb hk)
  · rw [if_neg (fun q => e q.1), if_neg e, h2 w k (by omega) hk]
    exact hR _ k (by split <;> omega) hk
theorem chC_ok {f : Nat → av_gr} {N a b : Nat} (hab : a < b) (hb : b < N) (hG : okG f N) : okG (chC f a b) (N - 1) := by
  intro w k t hw hk
  unfold chC
  by_cases e : w = a
  · rw [if_pos e]
    exact mgO_le (fun t => hG a k t (by omega) hk) (fun t => hG b k t hb hk) t
  · rw [if_neg e]
    exact hG _ k t (by split <;> omega) hk
theorem chC_Sab {f : Nat → av_gr} {N a b v : Nat} (hN : N < 7) (hab : a < b) (hb : b < N) : Ach (N - 2) ((List.range (N - 1)).map (chC f a b)) v ↔ Sab N f a b v := by
  have p := child_perm (f := f) (f' := chC f a b) (rI_2 N hN b hb a hab) (fun w hw => by
    funext k
    unfold chC
    by_cases e : w = a
    · have e2 : (if w < b then w else w + 1) = a := by rw [if_pos (by omega)]; exact e
      rw [if_pos e, if_pos e2]; rfl
    · have e2 : ¬ (if w < b then w else w + 1) = a := by split <;> omega
      rw [if_neg e, if_neg e2])
  exact ⟨fun h => Ach_perm p h, fun h => Ach_perm p.symm h⟩
theorem srch_low {k : Nat} (h68 : k ≠ 68) : ∀ (m p N : Nat) (s : av_S), p + m = 6 → (k ≤ 70 + p ∨ 76 ≤ k) → srch m p N s k = s k
  | 0, _, _, _, _, _ => rfl
  | m + 1, p, N, s, hp, hk => by
    unfold srch
    split
    case isFalse => rfl
    case isTrue =>
      split
      · exact av_set_ne _ _ h68
      · refine fo_keep (fun t : av_S => t k) _ (fun a t => ?_) _ _
        refine fo_keep (fun t : av_S => t k) _ (fun j t => ?_) _ _
        have hop : opn p a (a + 1 + j) t k = t k := by
          unfold opn
          split
          · exact av_set_ne _ _ h68
          · rfl
        show stpF _ p N a (a + 1 + j) t k = t k
        unfold stpF
        split
        · rw [srch_low h68 m (p + 1) (N - 1) _ (by omega) (by omega)]
          unfold mgd
          rw [av_set_ne _ _ (by omega)]
          exact hop
        · exact hop
theorem lnks_ind {R : av_S → av_S} {p N : Nat} {s : av_S} (P : Nat → Nat → av_S → Prop) (h0 : P 0 1 s) (hs : ∀ a b t, a < b → b < N → P a b t → P a (b + 1) (stpF R p N a b t)) (hr : ∀ a t, a < N → P a N t → P (a + 1) (a + 1 + 1) t) : P N (N + 1) (lnks R p N s) := by
  have key : ∀ A, A ≤ N → P A (A + 1) (fo A (fun a s => lnkF R p N a s) s) := by
    intro A
    induction A with
    | zero => intro _; exact h0
    | succ A ih =>
      intro hA
      rw [fo_s]
      apply hr A _ (by omega)
      have inner : ∀ j, j ≤ N - (A + 1) → P A (A + 1 + j) (fo j (fun j s => stpF R p N A (A + 1 + j) s) (fo A (fun a s => lnkF R p N a s) s)) := by
        intro j
        induction j with
        | zero => intro _; exact ih (by omega)
        | succ j jh => intro hj; rw [fo_s]; exact hs A (A + 1 + j) _ (by omega) (by omega) (jh (by omega))
      have := inner (N - (A + 1)) (Nat.le_refl _)
      rw [show A + 1 + (N - (A + 1)) = N by omega] at this
      exact this
  exact key N (Nat.le_refl _)
def cE (s : av_S) (o : Option Nat) (F : Int32) : Prop := s 68 4 = encC o ∧ s 68 3 = F ∧ ∀ v, o = some v → v ≤ 10
theorem srch_post : ∀ (m p N : Nat) (s : av_S) (f : Nat → av_gr) (o : Option Nat) (F op : Int32), p + m = 6 → 1 ≤ p → 1 ≤ N → N + p ≤ 6 → cE s o F → s 68 2 = op → RG (s (70 + p)) f N → okG f N → ∃ o' F', cE (srch m p N s) o' F' ∧ srch m p N s 68 2 = op ∧ Post (Ach (N - 1) ((List.range N).map f)) op o F o' F'
  | 0, p, N, s, f, o, F, op, h1, h2, h3, h4, _, _, _, _ => by omega
  | m + 1, p, N, s, f, o, F, op, h1, h2, h3, h4, hE, hop, hR, hG => by
    have hN7 : N < 7 := by omega
    have hch := chp_le (s (70 + p)) N
    unfold srch
    by_cases hope : s 68 4 < nI (chp (s (70 + p)) N)
    · rw [if_pos hope]
      have hlt : ∀ u, o = some u → u < chp (s (70 + p)) N := by
        intro u hu
        rw [hE.1, hu] at hope
        have := hE.2.2 u hu
        exact (nI_ltI (by omega) (by omega)).mp hope
      by_cases hN1 : N ≤ 1
      · rw [if_pos hN1]
        have eN : N = 1 := by omega
        subst eN
        have hsz := chp_1 hR hG
        refine ⟨some (chp (s (70 + p)) 1), op, ⟨rfl, ?_, fun v hv => ?_⟩, hop, Or.inr ⟨chp (s (70 + p)) 1, ⟨f 0, List.Perm.refl _, hsz⟩, hlt, fun w hw => chp_ge hN7 hR hG hw, rfl, rfl⟩⟩
        · show s 68 2 = op
          exact hop
        · injection hv with hv; omega
      · rw [if_neg hN1]
        have := lnks_ind (R := srch m (p + 1) (N - 1)) (p := p) (N := N) (s := s) (fun A B t => t 68 2 = op ∧ t (70 + p) = s (70 + p) ∧ ∃ o' F', cE t o' F' ∧ Post (fun v => ∃ a b, pr N A B a b ∧ Sab N f a b v) op o F o' F') ⟨hop, rfl, o, F, hE, Post_none (fun v => by rintro ⟨a, b, q, -⟩; exact pr_0 q)⟩ (fun a b t hab hb hP => ?_) (fun a t ha hP => ?_)
        · obtain ⟨q1, q2, o', F', q3, q4⟩ := this
          refine ⟨o', F', q3, q1, Post_congr (fun v => ?_) q4⟩
          rw [Ach_pairs hN7 (by omega)]
          constructor
          · rintro ⟨a, b, g1, g2⟩; exact ⟨a, b, g1.1, g1.2.1, g2⟩
          · rintro ⟨a, b, g1, g2, g3⟩; exact ⟨a, b, pr_all (by omega) g1 g2, g3⟩
        · obtain ⟨q1, q2, o', F', q3, q4⟩ := hP
          rw [stpF_t (by omega), opn_f (by omega)]
          have hR' : RG (mgd p N a b t (70 + (p + 1))) (chC f a b) (N - 1) := by
            unfold mgd
            rw [av_set_eq, q2]
            exact mrg_RG hab hb hR hG
          have hE' : cE (mgd p N a b t) o' F' := by
            unfold cE mgd
            rw [av_set_ne _ _ (by omega)]
            exact q3
          obtain ⟨o2, F2, r1, r2, r3⟩ := srch_post m (p + 1) (N - 1) (mgd p N a b t) (chC f a b) o' F' op (by omega) (by omega) (by omega) (by omega) hE' (by unfold mgd; rw [av_set_ne _ _ (by omega)]; exact q1) hR' (chC_ok hab hb hG)
          refine ⟨r2, ?_, o2, F2, r1, Post_congr (fun v => ?_) (Post_comp q4 r3)⟩
          · rw [srch_low (by omega) m (p + 1) (N - 1) _ (by omega) (by omega)]
            unfold mgd
            rw [av_set_ne _ _ (by omega)]; exact q2
          · rw [show N - 1 - 1 = N - 2 by omega, chC_Sab hN7 hab hb]
            constructor
            · rintro (⟨a', b', g1, g2⟩ | g)
              · exact ⟨a', b', (pr_s hab hb).mpr (Or.inl g1), g2⟩
              · exact ⟨a, b, (pr_s hab hb).mpr (Or.inr ⟨rfl, rfl⟩), g⟩
            · rintro ⟨a', b', g1, g2⟩
              rcases (pr_s hab hb).mp g1 with g | ⟨g3, g4⟩
              · exact Or.inl ⟨a', b', g, g2⟩
              · rw [g3, g4] at g2; exact Or.inr g2
        · obtain ⟨q1, q2, o', F', q3, q4⟩ := hP
          refine ⟨q1, q2, o', F', q3, Post_congr (fun v => ?_) q4⟩
          constructor
          · rintro ⟨a', b', g1, g2⟩; exact ⟨a', b', pr_row.mp g1, g2⟩
          · rintro ⟨a', b', g1, g2⟩; exact ⟨a', b', pr_row.mpr g1, g2⟩
    · rw [if_neg hope]
      refine ⟨o, F, hE, hop, Or.inl ⟨rfl, rfl, fun v hv => ?_⟩⟩
      cases ho : o with
      | none =>
        exfalso
        apply hope
        rw [hE.1, ho]
        exact Int32.lt_of_lt_of_le (by decide : (-1 : Int32) < 0) (Int32.not_lt.mp (nI_pos (by omega)))
      | some u =>
        refine ⟨u, rfl, ?_⟩
        have h5 := chp_ge hN7 hR hG hv
        rw [hE.1, ho] at hope
        have h6 := hE.2.2 u ho
        have : ¬ u < chp (s (70 + p)) N := fun q => hope ((nI_ltI (by omega) (by omega)).mpr q)
        omega
/-- the search from the top: the best, and the first pair that leads to it -/
theorem srch_top {N : Nat} {s : av_S} {f : Nat → av_gr} (h2 : 2 ≤ N) (h6 : N ≤ 6) (hb : s 68 4 = -1) (hR : RG (s 70) f N) (hG : okG f N) : ∃ v, srch 6 0 N s 68 4 = nI v ∧ v ≤ 10 ∧ Fin2 N (Sab N f) (fun a b => nI 10 * s 76 a + s 76 b) v (srch 6 0 N s 68 3) := by
  have hch := chp_le (s (70 + 0)) N
  have hope : s 68 4 < nI (chp (s (70 + 0)) N) := by
    rw [hb]
    exact Int32.lt_of_lt_of_le (by decide : (-1 : Int32) < 0) (Int32.not_lt.mp (nI_pos (by omega)))
  have e : srch 6 0 N s = lnks (srch 5 1 (N - 1)) 0 N s := by
    show (if s 68 4 < nI (chp (s (70 + 0)) N) then _ else _) = _
    rw [if_pos hope, if_neg (by omega)]
  rw [e]
  have := lnks_ind (R := srch 5 1 (N - 1)) (p := 0) (N := N) (s := s) (fun A B t => t 70 = s 70 ∧ t 76 = s 76 ∧ ∃ o F, cE t o F ∧ Top N (Sab N f) (fun a b => nI 10 * s 76 a + s 76 b) A B o F) ⟨rfl, rfl, none, s 68 3, ⟨hb, rfl, fun v h => by cases h⟩, Or.inl ⟨rfl, fun a b => pr_0⟩⟩ (fun a b t hab hbN hP => ?_) (fun a t ha hP => ?_)
  · obtain ⟨-, -, o, F, q1, q2⟩ := this
    obtain ⟨v, h7, h8⟩ := Top_fin h2 (by omega) q2
    refine ⟨v, ?_, q1.2.2 v h7, ?_⟩
    · rw [q1.1, h7]; rfl
    · rw [q1.2.1]; exact h8
  · obtain ⟨q1, q2, o, F, q3, q4⟩ := hP
    rw [stpF_t (by omega), opn_t rfl, mgd_68]
    have hR' : RG ((av_set (av_set t 68 (upd (t 68) 2 (nI 10 * t 76 a + t 76 b))) (70 + (0 + 1)) (mrg (t (70 + 0)) (t (70 + (0 + 1))) N a b)) (70 + 1)) (chC f a b) (N - 1) := by
      rw [show 70 + 1 = 70 + (0 + 1) from rfl, av_set_eq, show 70 + 0 = 70 from rfl, q1]
      exact mrg_RG hab hbN hR hG
    obtain ⟨o2, F2, r1, -, r3⟩ := srch_post 5 1 (N - 1) (av_set (av_set t 68 (upd (t 68) 2 (nI 10 * t 76 a + t 76 b))) (70 + (0 + 1)) (mrg (t (70 + 0)) (t (70 + (0 + 1))) N a b)) (chC f a b) o F (nI 10 * t 76 a + t 76 b) (by omega) (by omega) (by omega) (by omega) q3 rfl hR' (chC_ok hab hbN hG)
    refine ⟨?_, ?_, o2, F2, r1, Top_step hab hbN (Sab_some (by omega) hab hbN) q4 ?_⟩
    · rw [srch_low (by omega) 5 1 (N - 1) _ (by omega) (by omega)]; exact q1
    · rw [srch_low (by omega) 5 1 (N - 1) _ (by omega) (by omega)]; exact q2
    · rw [← q2]
      refine Post_congr (fun v => ?_) r3
      rw [show N - 1 - 1 = N - 2 by omega]
      exact chC_Sab (by omega) hab hbN
  · obtain ⟨q1, q2, o, F, q3, q4⟩ := hP
    exact ⟨q1, q2, o, F, q3, Top_row q4⟩
