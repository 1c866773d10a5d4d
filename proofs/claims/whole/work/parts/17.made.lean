/-! the steps that make cells, copy, and ask the texts -/
section MADE
variable {l : Launch} {D : va_G} {B b L : Nat} {xs : Nat → Int32} {k0 k1 : Nat} {O : State → Prop}
theorem mjK_new (h : mjS) (kd n w : Nat) : mK (pN h kd n w) (mX h) = kd := by
  show (if mX h = mX h then kd else _) = kd
  rw [if_pos rfl]
theorem mjN_new (h : mjS) (kd n w : Nat) : mN (pN h kd n w) (mX h) = n := by
  show (if mX h = mX h then n else _) = n
  rw [if_pos rfl]
theorem mjI_new (h : mjS) (kd n w : Nat) : mI (pN h kd n w) (mX h) = fun _ => 0 := by
  funext k
  show (if mX h = mX h then 0 else _) = 0
  rw [if_pos rfl]
theorem mjL_new (h : mjS) (kd n w : Nat) : mL (pN h kd n w) (mX h) = fun _ => 0 := by
  funext k
  show (if mX h = mX h then 0 else _) = 0
  rw [if_pos rfl]
theorem mjR_new (h : mjS) (kd n w : Nat) : mR (pN h kd n w) (mX h) = fun _ => 0 := by
  funext k
  show (if mX h = mX h then 0 else _) = 0
  rw [if_pos rfl]
theorem mjFv_new (f : Nat → Nat) (h : mjS) (kd n w t k : Nat) : mjFv f (pN h kd n w) (mX h) t k = mjFv (fun _ => 0) (pN h kd n w) (mX h) t k := by
  unfold mjFv
  rw [mjR_new]
  rfl
theorem mjFs_new (f : Nat → Nat) (h : mjS) (kd n w : Nat) (tg : List Nat) : mjFs f (pN h kd n w) (mX h) tg 0 = mjFs (fun _ => 0) (pN h kd n w) (mX h) tg 0 := by
  apply List.ext_getElem?
  intro j
  rw [mjFs_get, mjFs_get]
  congr 1
  funext t
  exact mjFv_new f h kd n w t _
theorem mj_default {ty : FieldType} (ht : mjTag ty ≤ 3) (h : mjS) (kd n w k : Nat) : defaultValue ty = mjFv (fun _ => 0) (pN h kd n w) (mX h) (mjTag ty) k := by
  unfold mjFv
  rw [mjR_new, mjI_new, mjL_new]
  cases ty <;> first | rfl | (exfalso; simp [mjTag] at ht)
theorem mjNewO {c lv pc r1 r2 idx ht : Nat} {ls st : List Value} {h : mjS} {v : Value} {h' : mjS} (hw : mjSnd l D B b L xs k0 k1 O c lv (pc + 3) ls (.ref (mX h) :: st) (pN h r1 0 r2) v h') {CC : String} {T : u_T} {M : Nat} (hcl : mjCl[r1 - 1]? = some (CC, T, M)) (hr : 1 ≤ r1 ∧ r1 ≤ 13 ∧ r2 = M) (hlk : lw_tbl[ht]? = some (.classLink (mjY c).cls idx CC)) (hd : decode (mjBy c) pc = .ok (.new idx, 3)) : mjSnd l D B b L xs k0 k1 O c lv pc ls st h v h' := by
  refine mjNew hw (fun _ hv => hv) (by omega) ?_
  intro p e R s m args below meth cd f cA tys A H locs cells slots Q ls0 C o hA hrel hc hz kk
  obtain ⟨hK, hP, hD, hS, ok⟩ := hrel
  obtain ⟨k1', ⟨ty0, hty, htag⟩, hnm, hlen, hins, hini⟩ := mj_cls _ _ _ _ hcl
  obtain ⟨q1, q2, rfl⟩ := hr
  rw [Nat.sub_add_cancel q1] at htag hlen
  have hfs : ∀ j, j < r2 → defaultValue (ty0 j) = vp_V (mjFs (fun _ => 0) (pN h r1 0 r2) (mX h) (mjFt r1) 0) j := by
    intro j hj
    unfold vp_V
    rw [List.getD_eq_getElem?_getD, mjFs_get, (htag j hj).1, Nat.zero_add]
    exact mj_default (htag j hj).2 h r1 0 r2 j
  refine va_new (ci := r1 - 1) (fs := mjFs (fun _ => 0) (pN h r1 0 r2) (mX h) (mjFt r1) 0) C.1 C.2.1 C.2.2.2.2.2.1 (mj_lays k1') ty0 hty C.2.2.2.2.1 (C.word hlk rfl) (C.mem hins rfl) (C.mem hini rfl) hK hP hD hS hA hcl hfs hc hz hd (fun q H1 hP1 hD1 hS1 => ?_)
  have he : mjE (va_up f (mX h) q) (va_up cA (mX h) (cA 0)) (pN h r1 0 r2) (mX h) = .inr (r1 - 1, mjFs (fun _ => 0) (pN h r1 0 r2) (mX h) (mjFt r1) 0) := by
    rw [mjE_obj (mjK_new h r1 0 r2) (by omega), mjFs_new]
  exact kk q (cA 0) tys H1 hK (fun _ h => h) (fun h => by omega) (by rw [he]; exact hP1) (by rw [he]; exact hD1) hS1
theorem mj_nn {n : Int32} (h : 0 ≤ n) : ¬ n < 0 := by
  rw [Int32.le_iff_toInt_le] at h
  rw [Int32.lt_iff_toInt_lt]
  omega
theorem mjNewA {c lv pc r1 : Nat} {ls r : List Value} {h : mjS} {v : Value} {h' : mjS} {n : Int32} {at_ : ArrayType} (hw : mjSnd l D B b L xs k0 k1 O c lv (pc + 2) ls (.ref (mX h) :: r) (pN h r1 n.toNatClampNeg n.toNatClampNeg) v h') (hr : 20 ≤ r1 ∧ r1 ≤ 23 ∧ newarray.typeOf at_ = mjAty r1) (hn : 0 ≤ n ∧ n.toNatClampNeg ≤ 65536) (hd : decode (mjBy c) pc = .ok (.newarray at_, 2)) : mjSnd l D B b L xs k0 k1 O c lv pc ls (.int n :: r) h v h' := by
  refine mjNew hw (fun _ hv => hv.tail) (by omega) ?_
  intro p e R s m args below meth cd f cA tys A H locs cells slots Q ls0 C o hA hrel hc hz kk
  obtain ⟨hK, hP, hD, hS, ok⟩ := hrel
  obtain ⟨q1, q2, q3⟩ := hr
  have harr : (Cond.arrayClass (newarray.typeOf at_)).before args s = true := by
    rw [q3]
    rcases (show r1 = 20 ∨ r1 = 21 ∨ r1 = 22 ∨ r1 = 23 by omega) with rfl | rfl | rfl | rfl
    · exact C.mem mj_arrI rfl
    · exact C.mem mj_arrB rfl
    · exact C.mem mj_arrZ rfl
    · exact C.mem mj_arrJ rfl
  have hb8 : n.toNatClampNeg * componentBytes (mjAty r1) ≤ 536870912 := by
    have : componentBytes (mjAty r1) ≤ 8 := by
      rcases (show r1 = 20 ∨ r1 = 21 ∨ r1 = 22 ∨ r1 = 23 by omega) with rfl | rfl | rfl | rfl <;> decide
    calc n.toNatClampNeg * componentBytes (mjAty r1) ≤ 65536 * 8 := Nat.mul_le_mul hn.2 this
      _ ≤ 536870912 := by decide
  have go : ∀ (a0 : vp_A), (∀ cA : ClassId, vp_cell cA a0 = arrV cA n.toNatClampNeg (fun _ => defaultValue (mjAty r1))) → (∀ (q : Nat) (c0 : ClassId), mjE (va_up f (mX h) q) (va_up cA (mX h) c0) (pN h r1 n.toNatClampNeg n.toNatClampNeg) (mX h) = .inl (c0, a0)) →
      W p l e R s m args below meth cd H locs cells slots Q (F0 m pc ls0 (.int n :: r.map (mjTr f))) := by
    intro a0 ha he
    refine va_newa C.1 C.2.1 harr q3 hK hP hD hS hA ha (mj_nn hn.1) rfl hb8 hc hz hd (fun q c0 H1 hK1 hP1 hD1 hS1 => ?_)
    exact kk q c0 (tys ++ [(c0, mjAty r1)]) H1 hK1 (fun _ h => List.mem_append_left _ h) (fun _ => List.mem_append_right _ List.mem_cons_self) (by rw [he]; exact hP1) (by rw [he]; exact hD1) hS1
  have hcA : ∀ c0 : ClassId, va_up cA (mX h) c0 (mX h) = c0 := fun c0 => by unfold va_up; rw [if_pos rfl]
  by_cases h23 : r1 = 23
  · subst h23
    refine go (n.toNatClampNeg, .inr (.inl fun _ => 0)) (fun _ => rfl) (fun q c0 => ?_)
    rw [mjE_long (mjK_new h _ _ _), mjN_new, mjL_new, hcA]
  · refine go (n.toNatClampNeg, .inl fun _ => 0) (fun cA => ?_) (fun q c0 => ?_)
    · rcases (show r1 = 20 ∨ r1 = 21 ∨ r1 = 22 by omega) with rfl | rfl | rfl <;> rfl
    · rw [mjE_int (by rw [mjK_new h]; omega), mjN_new, mjI_new, hcA]
theorem mjNewR {c lv pc r1 idx ht : Nat} {ls r : List Value} {h : mjS} {v : Value} {h' : mjS} {n : Int32} {CC : String} (env : mjEnv l B b L xs k0 k1 O) (hw : mjSnd l D B b L xs k0 k1 O c lv (pc + 3) ls (.ref (mX h) :: r) (pN h r1 n.toNatClampNeg n.toNatClampNeg) v h') (hr : 24 ≤ r1 ∧ r1 ≤ 26) (hC : mjAty r1 = .object CC) (hlk : lw_tbl[ht]? = some (.classLink (mjY c).cls idx CC)) (hn : 0 ≤ n ∧ n.toNatClampNeg ≤ 65536) (hd : decode (mjBy c) pc = .ok (.anewarray idx, 3)) : mjSnd l D B b L xs k0 k1 O c lv pc ls (.int n :: r) h v h' := by
  refine mjNew hw (fun _ hv => hv.tail) (by omega) ?_
  intro p e R s m args below meth cd f cA tys A H locs cells slots Q ls0 C o hA hrel hc hz kk
  obtain ⟨hK, hP, hD, hS, ok⟩ := hrel
  have hover : va_AO CC s := by
    obtain ⟨e1, e2, e3⟩ := env.2.2.1 s o
    rcases (show r1 = 24 ∨ r1 = 25 ∨ r1 = 26 by omega) with rfl | rfl | rfl
    · cases hC; exact e1
    · cases hC; exact e2
    · cases hC; exact e3
  refine va_newq C.1 C.2.1 C.2.2.2.2.1 (C.word hlk rfl) hover hK hP hD hS hA (mj_nn hn.1) rfl (Nat.le_trans (Nat.mul_le_mul_right 4 hn.2) (by decide)) hc hz hd (fun q c0 H1 hK1 hP1 hD1 hS1 => ?_)
  have hcA : va_up cA (mX h) c0 (mX h) = c0 := by unfold va_up; rw [if_pos rfl]
  have he : mjE (va_up f (mX h) q) (va_up cA (mX h) c0) (pN h r1 n.toNatClampNeg n.toNatClampNeg) (mX h) = .inl (c0, n.toNatClampNeg, .inr (.inr (.inr (.inr fun _ => none)))) := by
    rw [mjE_ref (by rw [mjK_new h]; omega), mjN_new, mjR_new, hcA]; rfl
  exact kk q c0 (tys ++ [(c0, .object CC)]) H1 hK1 (fun _ h => List.mem_append_left _ h) (fun _ => by rw [hC]; exact List.mem_append_right _ List.mem_cons_self) (by rw [he]; exact hP1) (by rw [he]; exact hD1) hS1
theorem mI_pC_ne {h : mjS} {a i t j n b : Nat} (hb : b ≠ t) : mI (pC h a i t j n) b = mI h b := by
  funext y
  show (if b = t ∧ _ then _ else _) = _
  rw [if_neg (fun q => hb q.1)]; rfl
theorem mI_pC_at {h : mjS} {a i t j n : Nat} : mI (pC h a i t j n) t = va_cpy (mI h a) (mI h t) i j n := by
  funext y
  show (if t = t ∧ (j ≤ y ∧ y < j + n) then h.1 a (i + (y - j)) else h.1 t y) = if j ≤ y ∧ y < j + n then _ else _
  by_cases hy : j ≤ y ∧ y < j + n
  · rw [if_pos ⟨rfl, hy⟩, if_pos hy]; rfl
  · rw [if_neg (fun q => hy q.2), if_neg hy]; rfl
theorem mjCpy {c lv pc a t idx ht : Nat} {ls r : List Value} {h : mjS} {v : Value} {h' : mjS} {i j n : Int32} (hw : mjSnd l D B b L xs k0 k1 O c lv (pc + 3) ls r (pC h a i.toNatClampNeg t j.toNatClampNeg n.toNatClampNeg) v h') (hk : mK h a = 20 ∧ mK h t = 20) (hb : (0 ≤ i ∧ 0 ≤ j ∧ 0 ≤ n) ∧ (i.toNatClampNeg + n.toNatClampNeg ≤ mN h a ∧ j.toNatClampNeg + n.toNatClampNeg ≤ mN h t)) (hcat : mjCat r ≤ 8) (hlk : lw_tbl[ht]? = some (.methodLink (mjY c).cls idx arraycopyName)) (hd : decode (mjBy c) pc = .ok (.invokestatic idx, 3)) : mjSnd l D B b L xs k0 k1 O c lv pc ls (.int n :: .int j :: .ref t :: .int i :: .ref a :: r) h v h' := by
  refine ⟨hw.1, fun p e R s m args below meth cd f cA tys A H locs cells slots ls0 C o hAB hA hrel hls hvl hvs hc hz => ?_⟩
  obtain ⟨hK, hP, hD, hS, ok⟩ := hrel
  obtain ⟨h4, hx⟩ := ok.cell hk.1 (by decide) (by decide)
  obtain ⟨g4, gx⟩ := ok.cell hk.2 (by decide) (by decide)
  obtain ⟨t0, ht0⟩ := List.getElem?_of_mem (ok.2.2.1 a h4 hx (by rw [hk.1]; decide))
  obtain ⟨t1, ht1⟩ := List.getElem?_of_mem (ok.2.2.1 t g4 gx (by rw [hk.2]; decide))
  have he := mjWs_at f cA h h4 hx
  rw [mjE_int (Or.inl hk.1)] at he
  have hg := mjWs_at f cA h g4 gx
  rw [mjE_int (Or.inl hk.2)] at hg
  show W _ _ _ _ _ _ _ _ _ _ _ _ _ _ _ (F0 m pc ls0 (.int n :: .int j :: mjTr f (.ref t) :: .int i :: mjTr f (.ref a) :: r.map (mjTr f)))
  rw [mjTr_ref f (by omega), mjTr_ref f (by omega)]
  obtain ⟨c1, c2, c3, c4, c5, c6, c7, c8, c9, c10, c11, c12⟩ := C
  have C' : mjCtx c lv p R s m args meth cd := ⟨c1, c2, c3, c4, c5, c6, c7, c8, c9, c10, c11, c12⟩
  have hnf : nativeFrameWords "java/lang/System" "arraycopy" 5 ≤ 200 := by decide
  have hloc : ((r.map (mjTr f)).map fun v => v.category).sum + (nativeFrameWords "java/lang/System" "arraycopy" 5 + 11) ≤ R.locals := by
    rw [mjCat_eq]; omega
  refine va_copyi (ty := .int) c1 c2 (c4.trans hls.2.1.symm) c5 (C'.word hlk rfl) (C'.mem mj_acN rfl) (C'.mem mj_acS rfl) (C'.mem mj_acI rfl) hK hP hD hS (a - 4) (t - 4) t0 t1 he hg (by rw [ht0, hk.1]; rfl) (by rw [ht1, hk.2]; rfl) rfl (mj_nn hb.1.1) (mj_nn hb.1.2.1) (mj_nn hb.1.2.2) hb.2.1 hb.2.2 (fun _ _ => rfl) (by omega) hloc hd (fun H1 locs1 hP1 hD1 hS1 => ?_)
  have hset : (mjWs f cA h).set (t - 4) (f t, .inl (cA t, mN h t, .inl (va_cpy (mI h a) (mI h t) i.toNatClampNeg j.toNatClampNeg n.toNatClampNeg))) = mjWs f cA (pC h a i.toNatClampNeg t j.toNatClampNeg n.toNatClampNeg) := by
    refine mjWs_set g4 rfl ?_ (fun b hb => mjE_congr rfl rfl (mI_pC_ne hb) rfl rfl)
    unfold mjE
    rw [if_pos (show mK (pC h a i.toNatClampNeg t j.toNatClampNeg n.toNatClampNeg) t = 20 ∨ _ from Or.inl hk.2), mI_pC_at]; rfl
  rw [hset] at hP1 hD1
  obtain ⟨o1, o2, o3, o4, o5, o6, o7, o8, o9, o10⟩ := ok
  exact hw.2 p e R s m args below meth cd f cA tys A H1 locs1 cells slots ls0 C' o hAB hA ⟨hK, hP1, hD1, hS1, ⟨o1, o2, o3, o4, o5, o6, o7, o8, o9, fun y => by rw [mI_pC_ne (by omega)]; exact o10 y⟩⟩ hls hvl hvs.tail.tail.tail.tail.tail hc hz
theorem mjObj {c lv pc a idx ht : Nat} {ls r : List Value} {h : mjS} {v : Value} {h' : mjS} (hw : mjSnd l D B b L xs k0 k1 O c lv (pc + 3) ls r h v h') (ha : a ≠ 0) (hcat : mjCat r ≤ 8) (hlk : lw_tbl[ht]? = some (.methodLink (mjY c).cls idx Lib.objectInit)) (hd : decode (mjBy c) pc = .ok (.invokespecial idx, 3)) : mjSnd l D B b L xs k0 k1 O c lv pc ls (.ref a :: r) h v h' := by
  refine mjPure hw (fun _ _ _ hv => hv.tail) ?_
  intro p e R s m args below meth cd f H locs cells slots Q ls0 C hl k
  show W _ _ _ _ _ _ _ _ _ _ _ _ _ _ _ (F0 m pc ls0 (mjTr f (.ref a) :: r.map (mjTr f)))
  rw [mjTr_ref f ha]
  obtain ⟨c1, c2, c3, c4, c5, c6, c7, c8, c9, c10, c11, c12⟩ := id C
  exact W.objInit c1 c2 c5 (C.word hlk rfl) (C.mem mj_oiI rfl) (C.mem mj_oiC rfl) rfl (hl.2.1.trans c4.symm) rfl hd (by omega) (by
    show 2 * 0 + ((r.map (mjTr f)).map fun v => v.category).sum + 12 ≤ R.locals
    rw [mjCat_eq]; omega) k
theorem mjPrim {c lv pc idx ht : Nat} {ls as r : List Value} {h : mjS} {v : Value} {h' : mjS} {y : MethodName} {x : Int32} (hw : mjSnd l D B b L xs k0 k1 O c lv (pc + 3) ls (.int x :: r) h v h') (hp : ∀ f : Nat → Nat, f 2 = k0 → f 3 = k1 → mjP l O B y (as.map (mjTr f)) x) (hcat : mjCat r ≤ 8) (hlk : lw_tbl[ht]? = some (.methodLink (mjY c).cls idx y)) (hd : decode (mjBy c) pc = .ok (.invokevirtual idx, 3)) : mjSnd l D B b L xs k0 k1 O c lv pc ls (as.reverse ++ r) h v h' := by
  refine ⟨hw.1, fun p e R s m args below meth cd f cA tys A H locs cells slots ls0 C o hAB hA hrel hls hvl hvs hc hz => ?_⟩
  have hvr : mjVs (mX h) r := fun w hw => hvs w (List.mem_append_right _ hw)
  have K := hw.2 p e R s m args below meth cd f cA tys A H locs cells slots ls0 C o hAB hA hrel hls hvl (mjVs.cons trivial hvr) hc hz
  obtain ⟨hK, hP, hD, hS, ok⟩ := hrel
  obtain ⟨c1, c2, c3, c4, c5, c6, c7, c8, c9, c10, c11, c12⟩ := id C
  have := hp f ok.2.2.2.2.2.2.1 ok.2.2.2.2.2.2.2.1 p e R s m args below meth cd H locs cells slots _ (mjBy c) pc idx ls0 (r.map (mjTr f)) A (mjY c).cls o c1 c2 (c4.trans hls.2.1.symm) c5 c6 hS hAB (by omega) (by omega) (C.word hlk rfl) (by rw [mjCat_eq]; exact hcat) hd (by omega) (by omega) K
  rw [List.map_append, List.map_reverse]
  exact this
theorem mjLdcS {c lv pc idx i : Nat} {ls st : List Value} {h : mjS} {v : Value} {h' : mjS} (env : mjEnv l B b L xs k0 k1 O) (hw : mjSnd l D B b L xs k0 k1 O c lv (pc + 2) ls (.ref i :: st) h v h') (hi : (mjY c).cls = "GladSpider$Tape" ∧ ((i = 2 ∧ idx = 70) ∨ (i = 3 ∧ idx = 63))) (hd : decode (mjBy c) pc = .ok (.ldc idx, 2)) : mjSnd l D B b L xs k0 k1 O c lv pc ls st h v h' := by
  refine ⟨hw.1, fun p e R s m args below meth cd f cA tys A H locs cells slots ls0 C o hAB hA hrel hls hvl hvs hc hz => ?_⟩
  have K := hw.2 p e R s m args below meth cd f cA tys A H locs cells slots ls0 C o hAB hA hrel hls hvl (mjVs.cons (show i < mX h by have := hrel.2.2.2.2.1; omega) hvs) hc hz
  obtain ⟨hK, hP, hD, hS, ok⟩ := hrel
  obtain ⟨z1, z2⟩ := env.2.2.2.1 s o
  have K : W p l e R s m args below meth cd H locs cells slots _ (F0 m (pc + 2) ls0 (mjTr f (.ref i) :: st.map (mjTr f))) := K
  obtain ⟨hcl, hi⟩ := hi
  have hown := C.2.2.2.2.1
  rw [hcl] at hown
  rcases hi with ⟨rfl, rfl⟩ | ⟨rfl, rfl⟩
  · rw [mjTr_ref f (by decide), ok.2.2.2.2.2.2.1] at K
    exact va_ldcS C.1 C.2.1 hown z1 hd K
  · rw [mjTr_ref f (by decide), ok.2.2.2.2.2.2.2.1] at K
    exact va_ldcS C.1 C.2.1 hown z2 hd K
theorem mjM_max {c lv pc idx ht : Nat} {ls r : List Value} {h : mjS} {v : Value} {h' : mjS} {x y : Int32} (hw : mjSnd l D B b L xs k0 k1 O c lv (pc + 3) ls (.int (if x < y then y else x) :: r) h v h') (hcat : mjCat r ≤ 8) (hlk : lw_tbl[ht]? = some (.methodLink (mjY c).cls idx Lib.Math.max.name)) (hd : decode (mjBy c) pc = .ok (.invokestatic idx, 3)) : mjSnd l D B b L xs k0 k1 O c lv pc ls (.int y :: .int x :: r) h v h' := by
  refine ⟨hw.1, fun p e R s m args below meth cd f cA tys A H locs cells slots ls0 C o hAB hA hrel hls hvl hvs hc hz => ?_⟩
  have K := hw.2 p e R s m args below meth cd f cA tys A H locs cells slots ls0 C o hAB hA hrel hls hvl (mjVs.cons trivial hvs.tail.tail) hc hz
  obtain ⟨c1, c2, c3, c4, c5, c6, c7, c8, c9, c10, c11, c12⟩ := id C
  exact va_mmax c1 c2 (c4.trans hls.2.1.symm) c5 (C.word hlk rfl) (C.mem mj_maxS rfl) (C.mem mj_mathI rfl) (C.mem mj_maxC rfl) (by omega) (by rw [mjCat_eq]; omega) (by omega) (by omega) hd K
theorem mjM_min {c lv pc idx ht : Nat} {ls r : List Value} {h : mjS} {v : Value} {h' : mjS} {x y : Int32} (hw : mjSnd l D B b L xs k0 k1 O c lv (pc + 3) ls (.int (if y < x then y else x) :: r) h v h') (hcat : mjCat r ≤ 8) (hlk : lw_tbl[ht]? = some (.methodLink (mjY c).cls idx Lib.Math.min.name)) (hd : decode (mjBy c) pc = .ok (.invokestatic idx, 3)) : mjSnd l D B b L xs k0 k1 O c lv pc ls (.int y :: .int x :: r) h v h' := by
  refine ⟨hw.1, fun p e R s m args below meth cd f cA tys A H locs cells slots ls0 C o hAB hA hrel hls hvl hvs hc hz => ?_⟩
  have K := hw.2 p e R s m args below meth cd f cA tys A H locs cells slots ls0 C o hAB hA hrel hls hvl (mjVs.cons trivial hvs.tail.tail) hc hz
  obtain ⟨c1, c2, c3, c4, c5, c6, c7, c8, c9, c10, c11, c12⟩ := id C
  exact va_mmin c1 c2 (c4.trans hls.2.1.symm) c5 (C.word hlk rfl) (C.mem mj_minS rfl) (C.mem mj_mathI rfl) (C.mem mj_minC rfl) (by omega) (by rw [mjCat_eq]; omega) (by omega) (by omega) hd K
theorem mjM_abs {c lv pc idx ht : Nat} {ls r : List Value} {h : mjS} {v : Value} {h' : mjS} {x : Int32} (hw : mjSnd l D B b L xs k0 k1 O c lv (pc + 3) ls (.int (if 0 ≤ x then x else 0 - x) :: r) h v h') (hcat : mjCat r ≤ 8) (hlk : lw_tbl[ht]? = some (.methodLink (mjY c).cls idx Lib.Math.abs.name)) (hd : decode (mjBy c) pc = .ok (.invokestatic idx, 3)) : mjSnd l D B b L xs k0 k1 O c lv pc ls (.int x :: r) h v h' := by
  refine ⟨hw.1, fun p e R s m args below meth cd f cA tys A H locs cells slots ls0 C o hAB hA hrel hls hvl hvs hc hz => ?_⟩
  have K := hw.2 p e R s m args below meth cd f cA tys A H locs cells slots ls0 C o hAB hA hrel hls hvl (mjVs.cons trivial hvs.tail) hc hz
  obtain ⟨c1, c2, c3, c4, c5, c6, c7, c8, c9, c10, c11, c12⟩ := id C
  exact va_mabs c1 c2 (c4.trans hls.2.1.symm) c5 (C.word hlk rfl) (C.mem mj_absS rfl) (C.mem mj_mathI rfl) (C.mem mj_absC rfl) (by omega) (by rw [mjCat_eq]; omega) (by omega) (by omega) hd K
end MADE
