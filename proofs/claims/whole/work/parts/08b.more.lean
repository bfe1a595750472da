/-! ===== constants, and rules for them ===== -/
theorem K_J6_265 : Cond.constant RJ6 265 1431655765 ∈ wG := wG_of 320 (by decide +kernel) rfl
theorem K_J6_266 : Cond.constant RJ6 266 858993459 ∈ wG := wG_of 321 (by decide +kernel) rfl
theorem K_J6_267 : Cond.constant RJ6 267 252645135 ∈ wG := wG_of 322 (by decide +kernel) rfl
theorem K_J2_227 : Cond.constant RJ2 227 65536 ∈ wG := wG_of 542 (by decide +kernel) rfl
theorem K_J11_110 : Cond.constant RJ11 110 55232 ∈ wG := wG_of 581 (by decide +kernel) rfl
theorem K_J11_76 : Cond.constant RJ11 76 56320 ∈ wG := wG_of 585 (by decide +kernel) rfl
theorem ev_ldcw {l : Launch} {own : String} {cc : ByteArray} {nL : Nat} {ret : Option FieldType} {E : av_Ex} {d pc : Nat} {lv : List (Nat × Value)} {st : List Value} {σ : av_S} {Q : Option Value → av_S → Prop} {index : Nat} {v : Int32} (hd : decode cc pc = .ok (.ldc_w index, 3)) (hc : Cond.constant own index v ∈ wG) (k : av_Ev l own cc nL ret E d (pc + 3) lv (.int v :: st) σ Q) : av_Ev l own cc nL ret E d pc lv st σ Q :=
  fun X p e R s m args below meth c A cells slots Z F H locs ls hP hS hl => lv_ldcw F.1 F.2.1 F.2.2.2.1 (F.2.2.2.2.1 _ hc) hd (k X p e R s m args below meth c A cells slots Z F H locs ls hP hS hl)
theorem nI_min {a b : Nat} (ha : a < 2 ^ 31) (hb : b < 2 ^ 31) : (if nI b < nI a then nI b else nI a) = nI (min a b) := by
  by_cases h : b < a
  · rw [if_pos ((nI_ltI hb ha).mpr h), Nat.min_eq_right (by omega)]
  · rw [if_neg (fun q => h ((nI_ltI hb ha).mp q)), Nat.min_eq_left (by omega)]
theorem nI_max {a b : Nat} (ha : a < 2 ^ 31) (hb : b < 2 ^ 31) : (if nI a < nI b then nI b else nI a) = nI (max a b) := by
  by_cases h : a < b
  · rw [if_pos ((nI_ltI ha hb).mpr h), Nat.max_eq_right (by omega)]
  · rw [if_neg (fun q => h ((nI_ltI ha hb).mp q)), Nat.max_eq_left (by omega)]
def imax (x y : Int32) : Int32 := if x < y then y else x
def imin (x y : Int32) : Int32 := if y < x then y else x
theorem K_value : Cond.fieldLink RJ0 9 "java/lang/String" "value" "[B" ∈ wG := wG_of 1029 (by decide +kernel) rfl
theorem K_coder : Cond.fieldLink RJ0 15 "java/lang/String" "coder" "B" ∈ wG := wG_of 1028 (by decide +kernel) rfl
theorem K_compact : Cond.fieldLink RJ0 38 "java/lang/String" "COMPACT_STRINGS" "Z" ∈ wG := wG_of 516 (by decide +kernel) rfl
/-! ===== the one String constant: reference 87, its bytes 88 ===== -/
def mb (i : Nat) : Int32 := [105, 109, 110, 112, 115, 116].getD i 0
section AvStr
variable {l : Launch} {cc : ByteArray} {nL : Nat} {ret : Option FieldType} {E : av_Ex} {d pc : Nat} {lv : List (Nat × Value)} {st : List Value} {σ σ' : av_S} {Q : Option Value → av_S → Prop}
theorem ev_ldcS (hd : decode cc pc = .ok (.ldc 38, 2)) (k : av_Ev l RX2 cc nL ret E d (pc + 2) lv (.ref 87 :: st) σ Q) : av_Ev l RX2 cc nL ret E d pc lv st σ Q :=
  fun X p e R s m args below meth c A cells slots Z F H locs ls hP hS hl => va_ldcS F.1 F.2.1 F.2.2.2.1 F.2.2.2.2.2.2.1.1 hd (k X p e R s m args below meth c A cells slots Z F H locs ls hP hS hl)
theorem ev_strval (hd : decode cc pc = .ok (.getfield 9, 3)) (k : av_Ev l RJ0 cc nL ret E d (pc + 3) lv (.ref 88 :: st) σ Q) : av_Ev l RJ0 cc nL ret E d pc lv (.ref 87 :: st) σ Q :=
  fun X p e R s m args below meth c A cells slots Z F H locs ls hP hS hl => vk_getf F.1 F.2.1 (F.2.2.2.2.2.2.1.2.1.1 0 (by decide)).2.2.1 hS F.2.2.2.1 (F.2.2.2.2.1 _ K_value) (fun _ h => h) hd (k X p e R s m args below meth c A cells slots Z F H locs ls hP hS hl)
theorem ev_strcod (hd : decode cc pc = .ok (.getfield 15, 3)) (k : av_Ev l RJ0 cc nL ret E d (pc + 3) lv (.int (nI 0) :: st) σ Q) : av_Ev l RJ0 cc nL ret E d pc lv (.ref 87 :: st) σ Q :=
  fun X p e R s m args below meth c A cells slots Z F H locs ls hP hS hl => vk_getf F.1 F.2.1 (F.2.2.2.2.2.2.1.2.1.1 0 (by decide)).2.1 hS F.2.2.2.1 (F.2.2.2.2.1 _ K_coder) (fun _ h => h) hd (k X p e R s m args below meth c A cells slots Z F H locs ls hP hS hl)
theorem ev_compact (hd : decode cc pc = .ok (.getstatic 38, 3)) (k : av_Ev l RJ0 cc nL ret E d (pc + 3) lv (.int (nI 1) :: st) σ Q) : av_Ev l RJ0 cc nL ret E d pc lv st σ Q :=
  fun X p e R s m args below meth c A cells slots Z F H locs ls hP hS hl => va_gets F.1 F.2.1 F.2.2.2.2.2.2.1.2.2 hS F.2.2.2.1 (F.2.2.2.2.1 _ K_compact) (fun _ h => h) hd (k X p e R s m args below meth c A cells slots Z F H locs ls hP hS hl)
theorem ev_strlen {own : String} (hd : decode cc pc = .ok (.arraylength, 1)) (k : av_Ev l own cc nL ret E d (pc + 1) lv (.int (nI 6) :: st) σ Q) : av_Ev l own cc nL ret E d pc lv (.ref 88 :: st) σ Q :=
  fun X p e R s m args below meth c A cells slots Z F H locs ls hP hS hl => va_tlen F.1 F.2.1 (F.2.2.2.2.2.2.1.2.1.1 0 (by decide)).2.2.2 hS rfl hd (k X p e R s m args below meth c A cells slots Z F H locs ls hP hS hl)
theorem ev_strbyte {own : String} {e : Nat} (hd : decode cc pc = .ok (.baload, 1)) (he : e < 6) (k : av_Ev l own cc nL ret E d (pc + 1) lv (.int (mb e) :: st) σ Q) : av_Ev l own cc nL ret E d pc lv (.int (nI e) :: .ref 88 :: st) σ Q :=
  fun X p e1 R s m args below meth c A cells slots Z F H locs ls hP hS hl => va_tb F.1 F.2.1 (F.2.2.2.2.2.2.1.2.1.1 0 (by decide)).2.2.2 hS (vp_in_nI (N := 6) he (by decide)) (v := .int (mb e)) (by rw [nI_clamp (by omega)]; rfl) hd (k X p e1 R s m args below meth c A cells slots Z F H locs ls hP hS hl)
theorem ev_callT {own : String} {y : MethodName} {cy : ByteArray} {nY n d' index : Nat} {rY : Option FieldType} {stk : List Value} {x : Int32} (hd : decode cc pc = .ok (.invokevirtual index, 3)) (hL : av_ml own index y) (hY : av_Yv y cy nY rY n) (hyc : y.cls = "java/lang/String") (vs : List Value) (hM : av_M l y.cls cy nY rY d' (.ref 87 :: vs) σ (some (.int x)) σ') (hdd : d' + 1 ≤ d) (hvl : (lg_sl (.ref 87 :: vs)).length ≤ nY) (hn : vs.length = n) (hst : stk = vs.reverse ++ .ref 87 :: st) (hrm : (st.map fun v => v.category).sum ≤ 8)
    (kk : av_Ev l own cc nL ret E d (pc + 3) lv (.int x :: st) σ' Q) : av_Ev l own cc nL ret E d pc lv stk σ Q := by
  intro X p e R s m args below meth c A cells slots Z F H locs ls hP hS hl
  subst hst
  have hMet := av_met hY.1.2.2.2.1 rfl hvl (hM (fun v τ => v = some (.int x) ∧ τ = σ') ⟨rfl, rfl⟩) X H.size
  have hR := av_rooms F hdd hY.1.2.2.2.2
  have hrec : ∃ cell : Cell, H[X.2.1 87]? = some cell ∧ cell.vm.isStatics = false ∧ s.vm.findClass y.cls = some cell.cls := by
    rw [hyc]
    exact vk_recv (i := 0) F.2.2.2.2.2.2.1.2.1 (by decide) hS
  have hpre : PreV s H y.cls (X.2.1 87) (va_Pc ((Value.ref 87 :: vs).map (av_t X)) (av_B X σ H.size)) (vs.map (av_t X)) := ⟨av_blind, hrec, av_pre F hP hS _⟩
  have hstk : (F0 m pc ls ((vs.reverse ++ .ref 87 :: st).map (av_t X))).stack = (vs.map (av_t X)).reverse ++ .ref (X.2.1 87) :: st.map (av_t X) := by
    show (vs.reverse ++ .ref 87 :: st).map (av_t X) = _
    rw [List.map_append, List.map_reverse]
    rfl
  have hcells : cells + 0 ≤ R.cells ∧ slots + 0 ≤ R.slots := F.2.2.2.2.2.2.2.2.2.2.2.2.1
  refine av_callW (va_runV (As := vs.map (av_t X)) (rest := st.map (av_t X)) (n := n) (C := y.cls) (bytes := cy) (maxL := nY) (ret := rY) (nL := nL) (own := own) (index := index) (Ts := wG) ⟨F.1, F.2.1, F.2.2.1, F.2.2.2.1, F.2.2.2.2.1⟩ hMet ⟨callB_of n F.2.2.2.2.1 (av_Y_good hY.1) rfl rfl rfl (F.2.2.2.2.1 _ hY.1.2.1) (F.2.2.2.2.1 _ hL) hY.1.2.2.1 hR, F.2.2.2.2.1 _ hY.2.1, F.2.2.2.2.1 _ hY.2.2⟩ hpre rfl (by rw [List.length_map]; exact hn) hl.1 hstk (by rw [av_cats]; show 2 * 0 + _ ≤ 8; omega) hd hcells) hS (av_free (F.2.2.2.2.2.2.2.2.2.2.1 σ) hS F.2.2.2.2.2.2.2.2.2.1) (fun v τ H1 locs1 hq h1 h2 => ?_)
  obtain ⟨rfl, rfl⟩ := hq
  exact kk X p e R s m args below meth c A cells slots Z F H1 locs1 ls h1 h2 hl
end AvStr
