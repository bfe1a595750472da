/-! ===== fields, arrays, calls ===== -/
section AvHeap
variable {l : Launch} {own : String} {cc : ByteArray} {nL : Nat} {ret : Option FieldType} {E : av_Ex} {d pc : Nat} {lv lv' : List (Nat × Value)} {st : List Value} {σ : av_S} {Q : Option Value → av_S → Prop}
theorem av_sh_in {k ci : Nat} {fl : List (Option Nat)} {X : av_X} {σ : av_S} (hk : k < 86) (h : av_sh k = .inl (ci, fl)) : (av_w X σ)[k]? = some (X.2.1 k, .inr (ci, fl.mapIdx (av_f X σ k))) := by
  rw [av_w_at hk, av_e_obj h]
theorem av_arr_in {k kd n : Nat} {X : av_X} {σ : av_S} (hk : k < 86) (h : av_sh k = .inr (.inl (kd, n))) : (av_w X σ)[k]? = some (X.2.1 k, .inl (X.2.2 kd, n, .inl (σ k))) := by
  rw [av_w_at hk, av_e_arr h]
theorem av_ref_in {k kd n : Nat} {f : Nat → Nat} {X : av_X} {σ : av_S} (hk : k < 86) (h : av_sh k = .inr (.inr (kd, n, f))) : (av_w X σ)[k]? = some (X.2.1 k, .inl (X.2.2 kd, n, .inr (.inr (.inr (.inr (fun i => some (X.2.1 (f i)))))))) := by
  rw [av_w_at hk, av_e_ref h]
theorem av_fget {k i : Nat} {fl : List (Option Nat)} {g : Option Nat} {X : av_X} {σ : av_S} (h : fl[i]? = some g) : (fl.mapIdx (av_f X σ k))[i]? = some (av_f X σ k i g) := by
  rw [List.getElem?_mapIdx, h]; rfl
/-- the words of a class' fields, and that its types and names are right -/
def av_Cl (ci : Nat) (C : String) (T : u_T) (N : Nat) (ty0 : Nat → FieldType) : Prop := vwCl[ci]? = some (C, T, N) ∧ (∀ w ∈ u_ws C T N, w ∈ wG) ∧ (∀ k, k < N → parseFieldDescriptor (T k).2.2.1 = some (ty0 k)) ∧ (∀ a, a < N → ∀ b, b < N → a ≠ b → (T a).2.1 ≠ (T b).2.1)
/-- the link of a field's word: own's pool number index is the field k of the class -/
def av_lk (own : String) (index : Nat) (T : u_T) (k : Nat) : Prop := Cond.fieldLink own index (T k).1 (T k).2.1 (T k).2.2.1 ∈ wG ∨ ∃ host, Cond.fieldLinkNest own index (T k).1 (T k).2.1 (T k).2.2.1 host ∈ wN
def av_g (σ : av_S) (k i : Nat) : Option Nat → Value
  | none => .int (σ k i)
  | some r => .ref r
theorem ev_getfield {C : String} {T : u_T} {N ci index k i : Nat} {ty0 : Nat → FieldType} {fl : List (Option Nat)} {g : Option Nat} (hd : decode cc pc = .ok (.getfield index, 3)) (hC : av_Cl ci C T N ty0) (hL : av_lk own index T i) (hi : i < N) (hk : k < 86) (hs : av_sh k = .inl (ci, fl)) (hg : fl[i]? = some g)
    (kk : av_Ev l own cc nL ret E d (pc + 3) lv (av_g σ k i g :: st) σ Q) : av_Ev l own cc nL ret E d pc lv (.ref k :: st) σ Q := by
  intro X p e R s m args below meth c A cells slots Z F H locs ls hP hS hl
  have hv := av_fget (X := X) (σ := σ) (k := k) hg
  have K := kk X p e R s m args below meth c A cells slots Z F H locs ls hP hS hl
  have e1 : av_t X (av_g σ k i g) = av_f X σ k i g := by cases g <;> rfl
  rw [List.map_cons, e1] at K
  rcases hL with hL | ⟨host, hL⟩
  · exact va_get (D := X.1) (C := C) (T := T) (N := N) (own := own) (ref := (T i).1) F.1 F.2.1 F.2.2.2.2.1 hC.2.1 F.2.2.2.1 F.2.2.2.2.2.2.2.2.1 hP k (av_sh_in hk hs) hC.1 i hi (F.2.2.2.2.1 _ hL) (fun _ h9 => h9) hv hd K
  · exact va_getN (D := X.1) (C := C) (T := T) (N := N) (own := own) (ref := (T i).1) (host := host) F.1 F.2.1 F.2.2.2.2.1 hC.2.1 F.2.2.2.1 F.2.2.2.2.2.2.2.2.1 hP k (av_sh_in hk hs) hC.1 i hi (va_Nw.use rfl (F.2.2.2.2.2.1 _ hL)) (fun _ h9 => h9) hv hd K
theorem ev_getI {C : String} {T : u_T} {N ci index k i : Nat} {ty0 : Nat → FieldType} {fl : List (Option Nat)} (hd : decode cc pc = .ok (.getfield index, 3)) (hC : av_Cl ci C T N ty0) (hL : av_lk own index T i) (hi : i < N) (hk : k < 86) (hs : av_sh k = .inl (ci, fl)) (hg : fl[i]? = some none)
    (kk : av_Ev l own cc nL ret E d (pc + 3) lv (.int (σ k i) :: st) σ Q) : av_Ev l own cc nL ret E d pc lv (.ref k :: st) σ Q := ev_getfield hd hC hL hi hk hs hg kk
theorem ev_getR {C : String} {T : u_T} {N ci index k i r : Nat} {ty0 : Nat → FieldType} {fl : List (Option Nat)} (hd : decode cc pc = .ok (.getfield index, 3)) (hC : av_Cl ci C T N ty0) (hL : av_lk own index T i) (hi : i < N) (hk : k < 86) (hs : av_sh k = .inl (ci, fl)) (hg : fl[i]? = some (some r))
    (kk : av_Ev l own cc nL ret E d (pc + 3) lv (.ref r :: st) σ Q) : av_Ev l own cc nL ret E d pc lv (.ref k :: st) σ Q := ev_getfield hd hC hL hi hk hs hg kk
theorem ev_putI {C : String} {T : u_T} {N ci index k i : Nat} {ty0 : Nat → FieldType} {fl : List (Option Nat)} {v : Int32} (hd : decode cc pc = .ok (.putfield index, 3)) (hC : av_Cl ci C T N ty0) (hL : av_lk own index T i) (hi : i < N) (hk : k < 86) (hs : av_sh k = .inl (ci, fl)) (hg : fl[i]? = some none) (hfin : (T i).2.2.2 = false) (hty : ty0 i = .int)
    (kk : av_Ev l own cc nL ret E d (pc + 3) lv st (av_set σ k (upd (σ k) i v)) Q) : av_Ev l own cc nL ret E d pc lv (.int v :: .ref k :: st) σ Q := by
  intro X p e R s m args below meth c A cells slots Z F H locs ls hP hS hl
  have hil : i < fl.length := (List.getElem?_eq_some_iff.mp hg).1
  have hpd : parseFieldDescriptor (T i).2.2.1 = some .int := by rw [hC.2.2.1 i hi, hty]
  have e1 : ∀ H1 : Heap, va_P X.1 vwCl ((av_w X σ).set k (X.2.1 k, .inr (ci, (fl.mapIdx (av_f X σ k)).set i (.int v)))) H1 → va_P X.1 vwCl (av_w X (av_set σ k (upd (σ k) i v))) H1 := fun H1 h => by
    rw [← av_e_put hs hg, av_w_set hk] at h
    exact h
  rcases hL with hL | ⟨host, hL⟩
  · exact va_put (D := X.1) (C := C) (T := T) (N := N) (own := own) (ref := (T i).1) (v := .int v) (ty := .int) F.1 F.2.1 F.2.2.2.2.1 hC.2.1 ty0 hC.2.2.1 hC.2.2.2 F.2.2.2.1 F.2.2.2.2.2.2.2.2.1 hP (F.2.2.2.2.2.2.2.2.2.2.1 σ) hS k (av_sh_in hk hs) hC.1 i hi (F.2.2.2.2.1 _ hL) (fun _ h9 => h9) hfin hpd rfl rfl (by rw [List.length_mapIdx]; exact hil) hd (fun H1 locs1 h1 _ h3 => kk X p e R s m args below meth c A cells slots Z F H1 locs1 ls (e1 H1 h1) h3 hl)
  · exact va_putN (D := X.1) (C := C) (T := T) (N := N) (own := own) (ref := (T i).1) (host := host) (v := .int v) (ty := .int) F.1 F.2.1 F.2.2.2.2.1 hC.2.1 ty0 hC.2.2.1 hC.2.2.2 F.2.2.2.1 F.2.2.2.2.2.2.2.2.1 hP (F.2.2.2.2.2.2.2.2.2.2.1 σ) hS k (av_sh_in hk hs) hC.1 i hi (va_Nw.use rfl (F.2.2.2.2.2.1 _ hL)) (fun _ h9 => h9) hfin hpd rfl rfl (by rw [List.length_mapIdx]; exact hil) hd (fun H1 locs1 h1 _ h3 => kk X p e R s m args below meth c A cells slots Z F H1 locs1 ls (e1 H1 h1) h3 hl)
theorem ev_iaload {k n : Nat} {i : Int32} (hd : decode cc pc = .ok (.iaload, 1)) (hk : k < 86) (hs : av_sh k = .inr (.inl (0, n))) (hin : vp_in i n)
    (kk : av_Ev l own cc nL ret E d (pc + 1) lv (.int (σ k i.toNatClampNeg) :: st) σ Q) : av_Ev l own cc nL ret E d pc lv (.int i :: .ref k :: st) σ Q := by
  intro X p e R s m args below meth c A cells slots Z F H locs ls hP hS hl
  exact va_iald F.1 F.2.1 F.2.2.2.2.2.2.2.2.1 hP k 0 (av_arr_in hk hs) rfl hin hd (kk X p e R s m args below meth c A cells slots Z F H locs ls hP hS hl)
theorem ev_iastore {k n : Nat} {i x : Int32} (hd : decode cc pc = .ok (.iastore, 1)) (hk : k < 86) (hs : av_sh k = .inr (.inl (0, n))) (hin : vp_in i n)
    (kk : av_Ev l own cc nL ret E d (pc + 1) lv st (av_set σ k (upd (σ k) i.toNatClampNeg x)) Q) : av_Ev l own cc nL ret E d pc lv (.int x :: .int i :: .ref k :: st) σ Q := by
  intro X p e R s m args below meth c A cells slots Z F H locs ls hP hS hl
  exact va_iast F.1 F.2.1 F.2.2.2.2.2.2.2.2.1 hP (F.2.2.2.2.2.2.2.2.2.2.1 σ) hS k 0 (av_arr_in hk hs) rfl hin hd (fun H1 locs1 h1 _ h3 => by
    rw [← av_e_aset (σ := σ) hs, av_w_set hk] at h1
    exact kk X p e R s m args below meth c A cells slots Z F H1 locs1 ls h1 h3 hl)
theorem ev_caload {k n : Nat} {i : Int32} (hd : decode cc pc = .ok (.caload, 1)) (hk : k < 86) (hs : av_sh k = .inr (.inl (1, n))) (hin : vp_in i n)
    (kk : av_Ev l own cc nL ret E d (pc + 1) lv (.int (σ k i.toNatClampNeg) :: st) σ Q) : av_Ev l own cc nL ret E d pc lv (.int i :: .ref k :: st) σ Q := by
  intro X p e R s m args below meth c A cells slots Z F H locs ls hP hS hl
  exact va_cald F.1 F.2.1 F.2.2.2.2.2.2.2.2.1 hP k 1 (av_arr_in hk hs) rfl hin hd (kk X p e R s m args below meth c A cells slots Z F H locs ls hP hS hl)
theorem ev_castore {k n : Nat} {i x : Int32} (hd : decode cc pc = .ok (.castore, 1)) (hk : k < 86) (hs : av_sh k = .inr (.inl (1, n))) (hin : vp_in i n)
    (kk : av_Ev l own cc nL ret E d (pc + 1) lv st (av_set σ k (upd (σ k) i.toNatClampNeg (vp_nar .char x))) Q) : av_Ev l own cc nL ret E d pc lv (.int x :: .int i :: .ref k :: st) σ Q := by
  intro X p e R s m args below meth c A cells slots Z F H locs ls hP hS hl
  exact va_cast F.1 F.2.1 F.2.2.2.2.2.2.2.2.1 hP (F.2.2.2.2.2.2.2.2.2.2.1 σ) hS k 1 (av_arr_in hk hs) rfl hin hd (fun H1 locs1 h1 _ h3 => by
    rw [← av_e_aset (σ := σ) hs, av_w_set hk] at h1
    exact kk X p e R s m args below meth c A cells slots Z F H1 locs1 ls h1 h3 hl)
theorem ev_alen {k kd n : Nat} {v : Int32} (hd : decode cc pc = .ok (.arraylength, 1)) (hk : k < 86) (hs : av_sh k = .inr (.inl (kd, n))) (hkd : kd < 2) (hv : Int32.ofNat n = v)
    (kk : av_Ev l own cc nL ret E d (pc + 1) lv (.int v :: st) σ Q) : av_Ev l own cc nL ret E d pc lv (.ref k :: st) σ Q := by
  intro X p e R s m args below meth c A cells slots Z F H locs ls hP hS hl
  have hcase : kd = 0 ∨ kd = 1 := by omega
  rcases hcase with rfl | rfl
  · exact va_alen F.1 F.2.1 F.2.2.2.2.2.2.2.2.1 hP k 0 (av_arr_in hk hs) (ty := .int) rfl hv hd (kk X p e R s m args below meth c A cells slots Z F H locs ls hP hS hl)
  · exact va_alen F.1 F.2.1 F.2.2.2.2.2.2.2.2.1 hP k 1 (av_arr_in hk hs) (ty := .char) rfl hv hd (kk X p e R s m args below meth c A cells slots Z F H locs ls hP hS hl)
theorem ev_aaload {k kd n : Nat} {f : Nat → Nat} {i : Int32} (hd : decode cc pc = .ok (.aaload, 1)) (hk : k < 86) (hs : av_sh k = .inr (.inr (kd, n, f))) (hkd : kd = 2 ∨ kd = 3) (hin : vp_in i n)
    (kk : av_Ev l own cc nL ret E d (pc + 1) lv (.ref (f i.toNatClampNeg) :: st) σ Q) : av_Ev l own cc nL ret E d pc lv (.int i :: .ref k :: st) σ Q := by
  intro X p e R s m args below meth c A cells slots Z F H locs ls hP hS hl
  have hlt : i.toNatClampNeg < n := Nat.not_le.mp fun q => hin (Or.inr q)
  have K := kk X p e R s m args below meth c A cells slots Z F H locs ls hP hS hl
  rcases hkd with rfl | rfl
  · exact va_aldq (f := fun i => some (X.2.1 (f i))) F.1 F.2.1 F.2.2.2.2.2.2.2.2.1 hP k 2 (av_ref_in hk hs) rfl hin hd K
  · have ht : (av_tys X)[3]? = some (X.2.2 3, .array .int) := rfl
    exact W.aald (v := .ref (X.2.1 (f i.toNatClampNeg))) (ty := .array .int) F.1 F.2.1 (hP k _ (av_ref_in hk hs)) ((F.2.2.2.2.2.2.2.2.1.2 3 _ ht).1 n (fun j => va_rf (some (X.2.1 (f j))))) rfl (fun q => by cases q) (by show ¬ (i < 0 ∨ (arrV _ _ _).slots.size ≤ _); rw [arrV_size]; exact hin) (by show (arrV _ _ _).slots[_]? = _; rw [arrV_read _ _ hlt]; rfl) rfl rfl hd K
theorem ev_arraycopy {index k0 k1 n0 n1 : Nat} {sp dp n : Int32} (hd : decode cc pc = .ok (.invokestatic index, 3)) (hL : Cond.methodLink own index arraycopyName ∈ wG) (hw : Cond.native arraycopyName ∈ wG ∧ Cond.static arraycopyName ∈ wG ∧ Cond.initialized "java/lang/System" ∈ wG) (hd1 : 1 ≤ d) (hst : (st.map fun v => v.category).sum ≤ 8) (hk0 : k0 < 86) (hk1 : k1 < 86) (hs0 : av_sh k0 = .inr (.inl (0, n0))) (hs1 : av_sh k1 = .inr (.inl (0, n1)))
    (h1 : ¬ sp < 0) (h2 : ¬ dp < 0) (h3 : ¬ n < 0) (h4 : sp.toNatClampNeg + n.toNatClampNeg ≤ n0) (h5 : dp.toNatClampNeg + n.toNatClampNeg ≤ n1)
    (kk : av_Ev l own cc nL ret E d (pc + 3) lv st (av_set σ k1 (va_cpy (σ k0) (σ k1) sp.toNatClampNeg dp.toNatClampNeg n.toNatClampNeg)) Q) : av_Ev l own cc nL ret E d pc lv (.int n :: .int dp :: .ref k1 :: .int sp :: .ref k0 :: st) σ Q := by
  intro X p e R s m args below meth c A cells slots Z F H locs ls hP hS hl
  have hR := F.2.2.2.2.2.2.2.2.2.2.2.1
  exact va_copyi F.1 F.2.1 (by rw [F.2.2.1]; exact hl.1.symm) F.2.2.2.1 (F.2.2.2.2.1 _ hL) (F.2.2.2.2.1 _ hw.1) (F.2.2.2.2.1 _ hw.2.1) (F.2.2.2.2.1 _ hw.2.2) F.2.2.2.2.2.2.2.2.1 hP (F.2.2.2.2.2.2.2.2.2.2.1 σ) hS k0 k1 0 0 (av_arr_in hk0 hs0) (av_arr_in hk1 hs1) (ty := .int) rfl rfl rfl h1 h2 h3 h4 h5 (fun _ _ => rfl) (by omega) (by
      rw [av_cats]
      have : nativeFrameWords "java/lang/System" "arraycopy" 5 + 11 ≤ 32 := by decide
      omega) hd (fun H1 locs1 g1 _ g3 => by
    rw [← av_e_aset (σ := σ) hs1, av_w_set hk1] at g1
    exact kk X p e R s m args below meth c A cells slots Z F H1 locs1 ls g1 g3 hl)
end AvHeap
