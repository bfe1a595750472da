/-! ===== the reference: what its greater steps do to now ===== -/
def mcu (N : Nat → Int32) : Nat := fo 60 (fun k c => if N (10 + k) = -9 then c + 0 else c + 1) 0
def mscF (S : Int32) (ch : Nat) (v w : Int32) (s : Nat) (N : Nat → Int32) : Nat → Int32 := bif tb S s then upd (upd N (190 + 4 * s + ch) v) (214 + 4 * s + ch) w else N
def msc (N : Nat → Int32) (c : Nat) (S : Int32) (ch : Nat) (v w : Int32) : Nat → Int32 := fo c (fun s N => mscF S ch v w s N) N
theorem mscF_t {S : Int32} {ch s : Nat} {v w : Int32} {N : Nat → Int32} (h : tb S s = true) : mscF S ch v w s N = upd (upd N (190 + 4 * s + ch) v) (214 + 4 * s + ch) w := by unfold mscF; rw [h]; rfl
theorem mscF_f {S : Int32} {ch s : Nat} {v w : Int32} {N : Nat → Int32} (h : tb S s = false) : mscF S ch v w s N = N := by unfold mscF; rw [h]; rfl
theorem mscF_lo {S : Int32} {ch : Nat} {v w : Int32} {s i : Nat} {N : Nat → Int32} (h : i < 190) : mscF S ch v w s N i = N i := by
  unfold mscF
  cases tb S s
  · rfl
  · show upd _ _ _ i = _
    rw [upd_ne (by omega), upd_ne (by omega)]
theorem msck_lo {S : Int32} {ch : Nat} {v w : Int32} {i : Nat} {N : Nat → Int32} (k : Nat) (h : i < 190) : fo k (fun s N => mscF S ch v w s N) N i = N i :=
  fo_keep (fun M : Nat → Int32 => M i) _ (fun _ _ => mscF_lo h) k N
theorem msc_lo {S : Int32} {ch c : Nat} {v w : Int32} {i : Nat} {N : Nat → Int32} (h : i < 190) : msc N c S ch v w i = N i := msck_lo c h
theorem mrm_lo {N : Nat → Int32} {h n i : Nat} (hi : i < 10) : mrm N h n i = N i := by
  unfold mrm; rw [upd_ne (by omega), upd_ne (by omega), upd_ne (by omega)]
abbrev av_K2 : Type := Nat × (Nat → Int32)
def mk2 (n a b : Nat) (S : av_K2) : av_K2 :=
  let sa := S.2 (10 + (10 * a + n))
  let sb := S.2 (10 + (10 * b + n))
  let S1 : av_K2 := if sa < sb then S else (S.1 + 1, mrm S.2 a n)
  if sb < sa then S1 else (S1.1 + 1, mrm S1.2 b n)
def mkF (c : Nat) (S1 S2 : Int32) (n : Nat) (S : av_K2) : av_K2 := match mhm S.2 c S1 n, mhm S.2 c S2 n with
  | some a, some b => mk2 n a b S
  | _, _ => S
def mkn (N : Nat → Int32) (c : Nat) (S1 S2 : Int32) (k : Nat) : av_K2 := fo k (fun n S => mkF c S1 S2 n S) (0, N)
theorem mkF_ss {c : Nat} {S1 S2 : Int32} {n a b : Nat} {S : av_K2} (h1 : mhm S.2 c S1 n = some a) (h2 : mhm S.2 c S2 n = some b) : mkF c S1 S2 n S = mk2 n a b S := by unfold mkF; rw [h1, h2]
theorem mkF_n1 {c : Nat} {S1 S2 : Int32} {n : Nat} {S : av_K2} (h1 : mhm S.2 c S1 n = none) : mkF c S1 S2 n S = S := by unfold mkF; rw [h1]
theorem mkF_n2 {c : Nat} {S1 S2 : Int32} {n : Nat} {S : av_K2} (h2 : mhm S.2 c S2 n = none) : mkF c S1 S2 n S = S := by
  unfold mkF; rw [h2]; cases mhm S.2 c S1 n <;> rfl
theorem mk2_lo {n a b i : Nat} {S : av_K2} (hi : i < 10) : (mk2 n a b S).2 i = S.2 i := by
  unfold mk2
  dsimp only
  split <;> split <;> first | rfl | exact mrm_lo hi | (show mrm _ _ _ i = _; rw [mrm_lo hi]; try exact mrm_lo hi)
theorem mkF_lo {c : Nat} {S1 S2 : Int32} {n i : Nat} {S : av_K2} (hi : i < 10) : (mkF c S1 S2 n S).2 i = S.2 i := by
  unfold mkF
  split
  · exact mk2_lo hi
  · rfl
theorem mkn_lo {N : Nat → Int32} {c : Nat} {S1 S2 : Int32} {i : Nat} (k : Nat) (hi : i < 10) : (mkn N c S1 S2 k).2 i = N i :=
  fo_keep (fun S : av_K2 => S.2 i) _ (fun _ _ => mkF_lo hi) k (0, N)
def dpF (S : Int32) (ch h n : Nat) (N : Nat → Int32) : Nat → Int32 := upd N (130 + (10 * h + n)) (N (130 + (10 * h + n)) &&& (bif tb S h then bt ch ^^^ (-1) else -1))
theorem dpF_t {S : Int32} {ch h n : Nat} {N : Nat → Int32} (q : tb S h = true) : dpF S ch h n N = upd N (130 + (10 * h + n)) (N (130 + (10 * h + n)) &&& (bt ch ^^^ (-1))) := by unfold dpF; rw [q]; rfl
theorem dpF_f {S : Int32} {ch h n : Nat} {N : Nat → Int32} (q : tb S h = false) : dpF S ch h n N = upd N (130 + (10 * h + n)) (N (130 + (10 * h + n)) &&& (-1)) := by unfold dpF; rw [q]; rfl
def dp0 (N : Nat → Int32) (c : Nat) (S : Int32) (ch : Nat) : Nat → Int32 := upd N 2 (N 2 + nI (cb 10 (mni (mj N 130 ch) c S)))
def dpr (N : Nat → Int32) (c : Nat) (S : Int32) (ch : Nat) : Nat → Int32 := fo c (fun h N => fo 10 (fun n N => dpF S ch h n N) N) (dp0 N c S ch)
theorem dpF_lo {S : Int32} {ch h n i : Nat} {N : Nat → Int32} (hi : i < 130) : dpF S ch h n N i = N i := by
  unfold dpF; rw [upd_ne (by omega)]
theorem dpi_lo {S : Int32} {ch h i : Nat} {N : Nat → Int32} (k : Nat) (hi : i < 130) : fo k (fun n N => dpF S ch h n N) N i = N i :=
  fo_keep (fun M : Nat → Int32 => M i) _ (fun _ _ => dpF_lo hi) k N
theorem dpk_lo {S : Int32} {ch i : Nat} {N : Nat → Int32} (k : Nat) (hi : i < 130) : fo k (fun h N => fo 10 (fun n N => dpF S ch h n N) N) N i = N i :=
  fo_keep (fun M : Nat → Int32 => M i) _ (fun _ _ => dpi_lo 10 hi) k N
theorem dp0_ne {N : Nat → Int32} {c ch i : Nat} {S : Int32} (hi : i ≠ 2) : dp0 N c S ch i = N i := upd_ne hi
theorem dpr_lo {N : Nat → Int32} {c ch i : Nat} {S : Int32} (hi : i < 130) (h2 : i ≠ 2) : dpr N c S ch i = N i := (dpk_lo c hi).trans (dp0_ne h2)
def drp (N : Nat → Int32) (x : Int32) : Nat → Int32 := upd N 3 (N 3 + nI (cb 10 x))
def mmc (N : Nat → Int32) (c a b ch : Nat) : Nat → Int32 :=
  let one := mnet N c a
  let two := mnet N c b
  let s1 := N (190 + 4 * a + ch)
  let s2 := N (190 + 4 * b + ch)
  let m1 := N (214 + 4 * a + ch)
  let m2 := N (214 + 4 * b + ch)
  if mni (mj N 70 ch) c one = 0 then
    (if mni (mj N 70 ch) c two = 0 then N else msc N c (one ||| two) ch s2 m2)
  else if mni (mj N 70 ch) c two = 0 then msc N c (one ||| two) ch s1 m1
  else if s1 = s2 then msc N c (one ||| two) ch s1 (m1 ||| m2)
  else if s2 ≤ s1 then drp (dpr (msc N c (one ||| two) ch s2 m2) c one ch) m1
  else drp (dpr (msc N c (one ||| two) ch s1 m1) c two ch) m2
theorem drp_ne {N : Nat → Int32} {x : Int32} {i : Nat} (h : i ≠ 3) : drp N x i = N i := upd_ne h
theorem mmc_lo {N : Nat → Int32} {c a b ch i : Nat} (hi : i < 2) : mmc N c a b ch i = N i := by
  unfold mmc
  (repeat' split) <;> first | rfl | exact msc_lo (by omega) | (rw [drp_ne (by omega), dpr_lo (by omega) (by omega)]; exact msc_lo (by omega))
theorem mmck_lo {N : Nat → Int32} {c a b i : Nat} (k : Nat) (hi : i < 2) : fo k (fun ch N => mmc N c a b ch) N i = N i :=
  fo_keep (fun M : Nat → Int32 => M i) _ (fun _ _ => mmc_lo hi) k N
def mc0 (N : Nat → Int32) : Nat → Int32 := upd (upd N 2 (nI 0)) 3 (nI 0)
theorem mc0_lo {N : Nat → Int32} {i : Nat} (hi : i < 2) : mc0 N i = N i := by unfold mc0; rw [upd_ne (by omega), upd_ne (by omega)]
def mcnK (N : Nat → Int32) (c a b : Nat) : av_K2 := mkn (mc0 N) c (mnet (mc0 N) c a) (mnet (mc0 N) c b) 10
def mcn (N : Nat → Int32) (c a b : Nat) : Nat → Int32 := mlk (fo 4 (fun ch N => mmc N c a b ch) (mcnK N c a b).2) a b true
/-- one step of the reference's walk of hops -/
def mwn (N : Nat → Int32) (c : Nat) (S : Int32) : Int32 := fo c (fun k x => x ||| (bif tb S k then N (4 + k) else nI 0)) S
def mrc (N : Nat → Int32) (c a k : Nat) : Int32 := fo k (fun _ S => mwn N c S) (bt a)
def mjo (N : Nat → Int32) (i ch : Nat) : Nat → Int32 := upd N i (N i ||| bt ch)
def mlv (N : Nat → Int32) (i ch : Nat) : Nat → Int32 := upd N i (N i &&& (bt ch ^^^ (-1)))
def mle (N : Nat → Int32) (s n ch : Nat) : Nat → Int32 := mlv (mlv N (70 + (10 * s + n)) ch) (130 + (10 * s + n)) ch
theorem mle_lo {N : Nat → Int32} {s n ch i : Nat} (hi : i < 70) : mle N s n ch i = N i := by
  unfold mle mlv; rw [upd_ne (by omega), upd_ne (by omega)]
def mso (N : Nat → Int32) (h n ch : Nat) (p : Bool) : Nat → Int32 := upd N (130 + (10 * h + n)) (ml1 (N (130 + (10 * h + n))) ch p)
theorem mso_lo {N : Nat → Int32} {h n ch i : Nat} {p : Bool} (hi : i < 130) : mso N h n ch p i = N i := upd_ne (by omega)
def mcm (N : Nat → Int32) (c s ch : Nat) : Nat := cb 10 (mni (mj N 70 ch) c (mnet N c s))
def mch (N : Nat → Int32) (s q n : Nat) : Nat → Int32 := mrm (upd (upd (upd N (10 + (10 * s + q)) (N 1)) (70 + (10 * s + q)) (upd N (10 + (10 * s + q)) (N 1) (70 + (10 * s + n)))) (130 + (10 * s + q)) (upd (upd N (10 + (10 * s + q)) (N 1)) (70 + (10 * s + q)) (upd N (10 + (10 * s + q)) (N 1) (70 + (10 * s + n))) (130 + (10 * s + n)))) s n
theorem ev_tabOut {l : Launch} {own : String} {cc : ByteArray} {nL : Nat} {ret : Option FieldType} {E : av_Ex} {d pc : Nat} {lv : List (Nat × Value)} {st : List Value} {σ : av_S} {Q : Option Value → av_S → Prop} {dflt lo hi : Int} {offs : Array Int} {len x tgt : Nat} (hd : decode cc pc = .ok (.tableswitch dflt lo hi offs, len)) (hx : x < 2 ^ 31) (h : (x : Int) < lo ∨ hi < (x : Int)) (ht : (pc : Int) + dflt = (tgt : Int)) (k : av_Ev l own cc nL ret E d tgt lv st σ Q) : av_Ev l own cc nL ret E d pc lv (.int (nI x) :: st) σ Q :=
  fun X p e R s m args below meth c A cells slots Z F H locs ls hP hS hl => lv_tableOut F.1 F.2.1 hd (by rw [nI_toInt hx]; exact h) ht (k X p e R s m args below meth c A cells slots Z F H locs ls hP hS hl)
theorem ev_tabIn {l : Launch} {own : String} {cc : ByteArray} {nL : Nat} {ret : Option FieldType} {E : av_Ex} {d pc : Nat} {lv : List (Nat × Value)} {st : List Value} {σ : av_S} {Q : Option Value → av_S → Prop} {dflt lo hi : Int} {offs : Array Int} {len x tgt : Nat} {off : Int} (hd : decode cc pc = .ok (.tableswitch dflt lo hi offs, len)) (hx : x < 2 ^ 31) (h1 : ¬ (x : Int) < lo) (h2 : ¬ hi < (x : Int)) (ho : offs[((x : Int) - lo).toNat]? = some off) (ht : (pc : Int) + off = (tgt : Int)) (k : av_Ev l own cc nL ret E d tgt lv st σ Q) : av_Ev l own cc nL ret E d pc lv (.int (nI x) :: st) σ Q :=
  fun X p e R s m args below meth c A cells slots Z F H locs ls hP hS hl => lv_tableIn F.1 F.2.1 hd (by rw [nI_toInt hx]; exact h1) (by rw [nI_toInt hx]; exact h2) (by rw [nI_toInt hx]; exact ho) ht (k X p e R s m args below meth c A cells slots Z F H locs ls hP hS hl)
