/-! ===== constants, and rules for them ===== -/
theorem K_J6_265 : Cond.constant RJ6 265 1431655765 ∈ wG := wG_of 320 (by decide +kernel) rfl
theorem K_J6_266 : Cond.constant RJ6 266 858993459 ∈ wG := wG_of 321 (by decide +kernel) rfl
theorem K_J6_267 : Cond.constant RJ6 267 252645135 ∈ wG := wG_of 322 (by decide +kernel) rfl
theorem K_J2_227 : Cond.constant RJ2 227 65536 ∈ wG := wG_of 542 (by decide +kernel) rfl
theorem K_J11_110 : Cond.constant RJ11 110 55232 ∈ wG := wG_of 581 (by decide +kernel) rfl
theorem K_J11_76 : Cond.constant RJ11 76 56320 ∈ wG := wG_of 585 (by decide +kernel) rfl
theorem ev_ldcw {l : Launch} {own : String} {cc : ByteArray} {nL : Nat} {ret : Option FieldType} {E : av_Ex} {d pc : Nat} {lv : List (Nat × Value)} {st : List Value} {σ : av_S} {Q : Option Value → av_S → Prop} {index : Nat} {v : Int32} (hd : decode cc pc = .ok (.ldc_w index, 3)) (hc : Cond.constant own index v ∈ wG) (k : av_Ev l own cc nL ret E d (pc + 3) lv (.int v :: st) σ Q) : av_Ev l own cc nL ret E d pc lv st σ Q :=
  fun X p e R s m args below meth c A cells slots Z F H locs ls hP hS hl => lv_ldcw F.1 F.2.1 F.2.2.2.1 (F.2.2.2.2.1 _ hc) hd (k X p e R s m args below meth c A cells slots Z F H locs ls hP hS hl)
theorem nI_min {a b : Nat} (ha : a < 2 ^ 31) (hb : b < 2 ^ 31) : (if nI b < nI a then nI b else nI a) = nI (min a b) := by
  by_cases h : b < a
  · rw [if_pos ((nI_ltI hb ha).mpr h), Nat.min_eq_right (by omega)]
  · rw [if_neg (fun q => h ((nI_ltI hb ha).mp q)), Nat.min_eq_left (by omega)]
theorem nI_max {a b : Nat} (ha : a < 2 ^ 31) (hb : b < 2 ^ 31) : (if nI a < nI b then nI b else nI a) = nI (max a b) := by
  by_cases h : a < b
  · rw [if_pos ((nI_ltI ha hb).mpr h), Nat.max_eq_right (by omega)]
  · rw [if_neg (fun q => h ((nI_ltI ha hb).mp q)), Nat.max_eq_left (by omega)]
def imax (x y : Int32) : Int32 := if x < y then y else x
def imin (x y : Int32) : Int32 := if y < x then y else x
