/-! the steps that read and write cells -/
section CELLS
variable {l : Launch} {D : va_G} {B b L : Nat} {xs : Nat → Int32} {k0 k1 : Nat} {O : State → Prop}
theorem vp_of_in {i : Int32} {n : Nat} (h : mjIn i n) : vp_in i n := by
  intro q
  rcases q with q | q
  · exact absurd h.1 (fun z => by rw [Int32.le_iff_toInt_le] at z; rw [Int32.lt_iff_toInt_lt] at q; omega)
  · have := h.2; omega
theorem mjIald {c lv pc a : Nat} {ls r : List Value} {h : mjS} {v : Value} {h' : mjS} {i : Int32} (hw : mjSnd l D B b L xs k0 k1 O c lv (pc + 1) ls (.int (mI h a i.toNatClampNeg) :: r) h v h') (hk : mK h a = 20) (hi : mjIn i (mN h a)) (hd : decode (mjBy c) pc = .ok (.iaload, 1)) : mjSnd l D B b L xs k0 k1 O c lv pc ls (.int i :: .ref a :: r) h v h' := by
  refine ⟨hw.1, fun p e R s m args below meth cd f cA tys A H locs cells slots ls0 C o hAB hA hrel hls hvl hvs hc hz => ?_⟩
  have K := hw.2 p e R s m args below meth cd f cA tys A H locs cells slots ls0 C o hAB hA hrel hls hvl (mjVs.cons trivial hvs.tail.tail) hc hz
  obtain ⟨hK, hP, hD, hS, ok⟩ := hrel
  obtain ⟨h4, hx⟩ := ok.cell hk (by decide) (by decide)
  obtain ⟨t0, ht0⟩ := List.getElem?_of_mem (ok.2.2.1 a h4 hx (by rw [hk]; decide))
  have he := mjWs_at f cA h h4 hx
  rw [mjE_int (Or.inl hk)] at he
  show W _ _ _ _ _ _ _ _ _ _ _ _ _ _ _ (F0 m pc ls0 (.int i :: mjTr f (.ref a) :: r.map (mjTr f)))
  rw [mjTr_ref f (by omega)]
  exact va_iald C.1 C.2.1 hK hP (a - 4) t0 he (by rw [ht0, hk]; rfl) (vp_of_in hi) hd K
theorem mjSald {c lv pc a : Nat} {ls r : List Value} {h : mjS} {v : Value} {h' : mjS} {i : Int32} (env : mjEnv l B b L xs k0 k1 O) (hw : mjSnd l D B b L xs k0 k1 O c lv (pc + 1) ls (.int (mI h a i.toNatClampNeg) :: r) h v h') (hk : mK h a = 30) (hi : mjIn i (mN h a)) (hd : decode (mjBy c) pc = .ok (.iaload, 1)) : mjSnd l D B b L xs k0 k1 O c lv pc ls (.int i :: .ref a :: r) h v h' := by
  refine ⟨hw.1, fun p e R s m args below meth cd f cA tys A H locs cells slots ls0 C o hAB hA hrel hls hvl hvs hc hz => ?_⟩
  have K := hw.2 p e R s m args below meth cd f cA tys A H locs cells slots ls0 C o hAB hA hrel hls hvl (mjVs.cons trivial hvs.tail.tail) hc hz
  obtain ⟨hK, hP, hD, hS, ok⟩ := hrel
  obtain rfl := ok.script hk
  obtain ⟨e1, e2, e3⟩ := env.1 s o
  obtain ⟨o1, o2, o3, o4, o5, o6, o7, o8, o9, o10⟩ := ok
  show W _ _ _ _ _ _ _ _ _ _ _ _ _ _ _ (F0 m pc ls0 (.int i :: mjTr f (.ref 1) :: r.map (mjTr f)))
  rw [mjTr_ref f (by decide), o6]
  rw [o9] at hi
  have K2 : W p l e R s m args below meth cd H locs cells slots (MQ below (mjQ D B b L xs k0 k1 f (mX h) v h' c A) args s (cells + (mX h' - mX h)) (slots + (mZ h' - mZ h)) A) (F0 m (pc + 1) ls0 (.int (xs i.toNatClampNeg) :: r.map (mjTr f))) := by
    rw [← o10]; exact K
  exact va_sld C.1 C.2.1 e1 (Nat.lt_of_lt_of_le e2 e3) (fun z => by have := hAB b z; omega) hS (vp_of_in hi) hd K2
theorem mjBald {c lv pc a r1 : Nat} {ls r : List Value} {h : mjS} {v : Value} {h' : mjS} {i : Int32} (hw : mjSnd l D B b L xs k0 k1 O c lv (pc + 1) ls (.int (mI h a i.toNatClampNeg) :: r) h v h') (hr : r1 = 21 ∨ r1 = 22) (hk : mK h a = r1) (hi : mjIn i (mN h a)) (hd : decode (mjBy c) pc = .ok (.baload, 1)) : mjSnd l D B b L xs k0 k1 O c lv pc ls (.int i :: .ref a :: r) h v h' := by
  refine ⟨hw.1, fun p e R s m args below meth cd f cA tys A H locs cells slots ls0 C o hAB hA hrel hls hvl hvs hc hz => ?_⟩
  have K := hw.2 p e R s m args below meth cd f cA tys A H locs cells slots ls0 C o hAB hA hrel hls hvl (mjVs.cons trivial hvs.tail.tail) hc hz
  obtain ⟨hK, hP, hD, hS, ok⟩ := hrel
  obtain ⟨h4, hx⟩ := ok.cell hk (by omega) (by omega)
  obtain ⟨t0, ht0⟩ := List.getElem?_of_mem (ok.2.2.1 a h4 hx (by rw [hk]; omega))
  have he := mjWs_at f cA h h4 hx
  rw [mjE_int (by omega)] at he
  show W _ _ _ _ _ _ _ _ _ _ _ _ _ _ _ (F0 m pc ls0 (.int i :: mjTr f (.ref a) :: r.map (mjTr f)))
  rw [mjTr_ref f (by omega)]
  rcases hr with rfl | rfl
  · exact va_bald C.1 C.2.1 hK hP (a - 4) t0 he (by rw [ht0, hk]; rfl) (vp_of_in hi) hd K
  · exact va_zald C.1 C.2.1 hK hP (a - 4) t0 he (by rw [ht0, hk]; rfl) (vp_of_in hi) hd K
theorem mjLald {c lv pc a : Nat} {ls r : List Value} {h : mjS} {v : Value} {h' : mjS} {i : Int32} (hw : mjSnd l D B b L xs k0 k1 O c lv (pc + 1) ls (.long (mL h a i.toNatClampNeg) :: r) h v h') (hk : mK h a = 23) (hi : mjIn i (mN h a)) (hd : decode (mjBy c) pc = .ok (.laload, 1)) : mjSnd l D B b L xs k0 k1 O c lv pc ls (.int i :: .ref a :: r) h v h' := by
  refine ⟨hw.1, fun p e R s m args below meth cd f cA tys A H locs cells slots ls0 C o hAB hA hrel hls hvl hvs hc hz => ?_⟩
  have K := hw.2 p e R s m args below meth cd f cA tys A H locs cells slots ls0 C o hAB hA hrel hls hvl (mjVs.cons trivial hvs.tail.tail) hc hz
  obtain ⟨hK, hP, hD, hS, ok⟩ := hrel
  obtain ⟨h4, hx⟩ := ok.cell hk (by decide) (by decide)
  obtain ⟨t0, ht0⟩ := List.getElem?_of_mem (ok.2.2.1 a h4 hx (by rw [hk]; decide))
  have he := mjWs_at f cA h h4 hx
  rw [mjE_long hk] at he
  show W _ _ _ _ _ _ _ _ _ _ _ _ _ _ _ (F0 m pc ls0 (.int i :: mjTr f (.ref a) :: r.map (mjTr f)))
  rw [mjTr_ref f (by omega)]
  exact va_lald C.1 C.2.1 hK hP (a - 4) t0 he (by rw [ht0, hk]; rfl) (vp_of_in hi) hd K
theorem mjAald {c lv pc a r1 : Nat} {ls r : List Value} {h : mjS} {v : Value} {h' : mjS} {i : Int32} (hw : mjSnd l D B b L xs k0 k1 O c lv (pc + 1) ls (.ref (mR h a i.toNatClampNeg) :: r) h v h') (hr : r1 = 24 ∨ r1 = 25 ∨ r1 = 26) (hk : mK h a = r1) (hi : mjIn i (mN h a)) (hd : decode (mjBy c) pc = .ok (.aaload, 1)) : mjSnd l D B b L xs k0 k1 O c lv pc ls (.int i :: .ref a :: r) h v h' := by
  refine ⟨hw.1, fun p e R s m args below meth cd f cA tys A H locs cells slots ls0 C o hAB hA hrel hls hvl hvs hc hz => ?_⟩
  have K := hw.2 p e R s m args below meth cd f cA tys A H locs cells slots ls0 C o hAB hA hrel hls hvl (mjVs.cons (hrel.2.2.2.2.2.2.2.2.1 a _) hvs.tail.tail) hc hz
  obtain ⟨hK, hP, hD, hS, ok⟩ := hrel
  obtain ⟨h4, hx⟩ := ok.cell hk (by omega) (by omega)
  obtain ⟨t0, ht0⟩ := List.getElem?_of_mem (ok.2.2.1 a h4 hx (by rw [hk]; omega))
  have he := mjWs_at f cA h h4 hx
  rw [mjE_ref (by omega)] at he
  show W _ _ _ _ _ _ _ _ _ _ _ _ _ _ _ (F0 m pc ls0 (.int i :: mjTr f (.ref a) :: r.map (mjTr f)))
  rw [mjTr_ref f (by omega)]
  rcases hr with rfl | rfl | rfl
  · exact va_aldq (C := RX6) C.1 C.2.1 hK hP (a - 4) t0 he (by rw [ht0, hk]; rfl) (vp_of_in hi) hd K
  · exact va_aldq (C := RX4) C.1 C.2.1 hK hP (a - 4) t0 he (by rw [ht0, hk]; rfl) (vp_of_in hi) hd K
  · exact va_aldq (C := RX9) C.1 C.2.1 hK hP (a - 4) t0 he (by rw [ht0, hk]; rfl) (vp_of_in hi) hd K
theorem mjAlen {c lv pc a r1 : Nat} {ls r : List Value} {h : mjS} {v : Value} {h' : mjS} (env : mjEnv l B b L xs k0 k1 O) (hw : mjSnd l D B b L xs k0 k1 O c lv (pc + 1) ls (.int (Int32.ofNat (mN h a)) :: r) h v h') (hr : (20 ≤ r1 ∧ r1 ≤ 26) ∨ r1 = 30) (hk : mK h a = r1) (hd : decode (mjBy c) pc = .ok (.arraylength, 1)) : mjSnd l D B b L xs k0 k1 O c lv pc ls (.ref a :: r) h v h' := by
  refine ⟨hw.1, fun p e R s m args below meth cd f cA tys A H locs cells slots ls0 C o hAB hA hrel hls hvl hvs hc hz => ?_⟩
  have K := hw.2 p e R s m args below meth cd f cA tys A H locs cells slots ls0 C o hAB hA hrel hls hvl (mjVs.cons trivial hvs.tail) hc hz
  obtain ⟨hK, hP, hD, hS, ok⟩ := hrel
  show W _ _ _ _ _ _ _ _ _ _ _ _ _ _ _ (F0 m pc ls0 (mjTr f (.ref a) :: r.map (mjTr f)))
  rcases hr with hr | rfl
  · obtain ⟨h4, hx⟩ := ok.cell hk (by omega) (by omega)
    obtain ⟨t0, ht0⟩ := List.getElem?_of_mem (ok.2.2.1 a h4 hx (by rw [hk]; omega))
    have he := mjWs_at f cA h h4 hx
    rw [mjTr_ref f (by omega)]
    by_cases q1 : mK h a = 20 ∨ mK h a = 21 ∨ mK h a = 22
    · rw [mjE_int q1] at he
      exact va_alen C.1 C.2.1 hK hP (a - 4) t0 he ht0 rfl hd K
    · by_cases q2 : mK h a = 23
      · rw [mjE_long q2] at he
        exact va_alen C.1 C.2.1 hK hP (a - 4) t0 he ht0 rfl hd K
      · rw [mjE_ref (by omega)] at he
        exact va_alen C.1 C.2.1 hK hP (a - 4) t0 he ht0 rfl hd K
  · obtain rfl := ok.script hk
    obtain ⟨e1, e2, e3⟩ := env.1 s o
    obtain ⟨o1, o2, o3, o4, o5, o6, o7, o8, o9, o10⟩ := ok
    rw [mjTr_ref f (by decide), o6]
    rw [o9] at K
    exact va_slen C.1 C.2.1 e1 (Nat.lt_of_lt_of_le e2 e3) (fun z => by have := hAB b z; omega) hS hd K
theorem mjIast {c lv pc a : Nat} {ls r : List Value} {h : mjS} {v : Value} {h' : mjS} {i x : Int32} (hw : mjSnd l D B b L xs k0 k1 O c lv (pc + 1) ls r (pI h a i.toNatClampNeg x) v h') (hk : mK h a = 20) (hi : mjIn i (mN h a)) (hd : decode (mjBy c) pc = .ok (.iastore, 1)) : mjSnd l D B b L xs k0 k1 O c lv pc ls (.int x :: .int i :: .ref a :: r) h v h' := by
  refine ⟨hw.1, fun p e R s m args below meth cd f cA tys A H locs cells slots ls0 C o hAB hA hrel hls hvl hvs hc hz => ?_⟩
  obtain ⟨hK, hP, hD, hS, ok⟩ := hrel
  obtain ⟨h4, hx⟩ := ok.cell hk (by decide) (by decide)
  obtain ⟨t0, ht0⟩ := List.getElem?_of_mem (ok.2.2.1 a h4 hx (by rw [hk]; decide))
  have he := mjWs_at f cA h h4 hx
  rw [mjE_int (Or.inl hk)] at he
  show W _ _ _ _ _ _ _ _ _ _ _ _ _ _ _ (F0 m pc ls0 (.int x :: .int i :: mjTr f (.ref a) :: r.map (mjTr f)))
  rw [mjTr_ref f (by omega)]
  refine va_iast C.1 C.2.1 hK hP hD hS (a - 4) t0 he (by rw [ht0, hk]; rfl) (vp_of_in hi) hd (fun H1 locs1 hP1 hD1 hS1 => ?_)
  rw [mjWs_I h4 (Or.inl hk)] at hP1 hD1
  exact hw.2 p e R s m args below meth cd f cA tys A H1 locs1 cells slots ls0 C o hAB hA ⟨hK, hP1, hD1, hS1, ok.pI h4⟩ hls hvl hvs.tail.tail.tail hc hz
theorem mj_nar_b (x : Int32) : vp_nar .byte x = mjB x := rfl
theorem mj_nar_z {x : Int32} (h : x = 0 ∨ x = 1) : vp_nar .boolean x = x := by
  rcases h with rfl | rfl <;> decide
theorem mjBast {c lv pc a r1 : Nat} {ls r : List Value} {h : mjS} {v : Value} {h' : mjS} {i x y : Int32} (hw : mjSnd l D B b L xs k0 k1 O c lv (pc + 1) ls r (pI h a i.toNatClampNeg y) v h') (hr : (r1 = 21 ∧ y = mjB x) ∨ (r1 = 22 ∧ y = x ∧ (x = 0 ∨ x = 1))) (hk : mK h a = r1) (hi : mjIn i (mN h a)) (hd : decode (mjBy c) pc = .ok (.bastore, 1)) : mjSnd l D B b L xs k0 k1 O c lv pc ls (.int x :: .int i :: .ref a :: r) h v h' := by
  refine ⟨hw.1, fun p e R s m args below meth cd f cA tys A H locs cells slots ls0 C o hAB hA hrel hls hvl hvs hc hz => ?_⟩
  obtain ⟨hK, hP, hD, hS, ok⟩ := hrel
  obtain ⟨h4, hx⟩ := ok.cell hk (by omega) (by omega)
  obtain ⟨t0, ht0⟩ := List.getElem?_of_mem (ok.2.2.1 a h4 hx (by rw [hk]; omega))
  have he := mjWs_at f cA h h4 hx
  have hk3 : mK h a = 20 ∨ mK h a = 21 ∨ mK h a = 22 := by omega
  rw [mjE_int hk3] at he
  show W _ _ _ _ _ _ _ _ _ _ _ _ _ _ _ (F0 m pc ls0 (.int x :: .int i :: mjTr f (.ref a) :: r.map (mjTr f)))
  rw [mjTr_ref f (by omega)]
  rcases hr with ⟨rfl, rfl⟩ | ⟨rfl, rfl, hx01⟩
  · refine va_bast C.1 C.2.1 hK hP hD hS (a - 4) t0 he (by rw [ht0, hk]; rfl) (vp_of_in hi) hd (fun H1 locs1 hP1 hD1 hS1 => ?_)
    rw [mj_nar_b, mjWs_I h4 hk3] at hP1 hD1
    exact hw.2 p e R s m args below meth cd f cA tys A H1 locs1 cells slots ls0 C o hAB hA ⟨hK, hP1, hD1, hS1, ok.pI h4⟩ hls hvl hvs.tail.tail.tail hc hz
  · refine va_zast C.1 C.2.1 hK hP hD hS (a - 4) t0 he (by rw [ht0, hk]; rfl) (vp_of_in hi) hd (fun H1 locs1 hP1 hD1 hS1 => ?_)
    rw [mj_nar_z hx01, mjWs_I h4 hk3] at hP1 hD1
    exact hw.2 p e R s m args below meth cd f cA tys A H1 locs1 cells slots ls0 C o hAB hA ⟨hK, hP1, hD1, hS1, ok.pI h4⟩ hls hvl hvs.tail.tail.tail hc hz
theorem mjLast {c lv pc a : Nat} {ls r : List Value} {h : mjS} {v : Value} {h' : mjS} {i : Int32} {x : Int64} (hw : mjSnd l D B b L xs k0 k1 O c lv (pc + 1) ls r (pL h a i.toNatClampNeg x) v h') (hk : mK h a = 23) (hi : mjIn i (mN h a)) (hd : decode (mjBy c) pc = .ok (.lastore, 1)) : mjSnd l D B b L xs k0 k1 O c lv pc ls (.long x :: .int i :: .ref a :: r) h v h' := by
  refine ⟨hw.1, fun p e R s m args below meth cd f cA tys A H locs cells slots ls0 C o hAB hA hrel hls hvl hvs hc hz => ?_⟩
  obtain ⟨hK, hP, hD, hS, ok⟩ := hrel
  obtain ⟨h4, hx⟩ := ok.cell hk (by decide) (by decide)
  obtain ⟨t0, ht0⟩ := List.getElem?_of_mem (ok.2.2.1 a h4 hx (by rw [hk]; decide))
  have he := mjWs_at f cA h h4 hx
  rw [mjE_long hk] at he
  show W _ _ _ _ _ _ _ _ _ _ _ _ _ _ _ (F0 m pc ls0 (.long x :: .int i :: mjTr f (.ref a) :: r.map (mjTr f)))
  rw [mjTr_ref f (by omega)]
  refine va_last C.1 C.2.1 hK hP hD hS (a - 4) t0 he (by rw [ht0, hk]; rfl) (vp_of_in hi) hd (fun H1 locs1 hP1 hD1 hS1 => ?_)
  rw [mjWs_L h4 hk] at hP1 hD1
  exact hw.2 p e R s m args below meth cd f cA tys A H1 locs1 cells slots ls0 C o hAB hA ⟨hK, hP1, hD1, hS1, ok.pL⟩ hls hvl hvs.tail.tail.tail hc hz
theorem mjAast {c lv pc a x r1 r2 : Nat} {ls r : List Value} {h : mjS} {v : Value} {h' : mjS} {i : Int32} (hw : mjSnd l D B b L xs k0 k1 O c lv (pc + 1) ls r (pR h a i.toNatClampNeg x) v h') (hr : (r1 = 24 ∧ r2 = 7) ∨ (r1 = 25 ∧ r2 = 5) ∨ (r1 = 26 ∧ r2 = 10)) (hk : mK h a = r1) (hi : mjIn i (mN h a)) (hk2 : mK h x = r2) (hd : decode (mjBy c) pc = .ok (.aastore, 1)) : mjSnd l D B b L xs k0 k1 O c lv pc ls (.ref x :: .int i :: .ref a :: r) h v h' := by
  refine ⟨hw.1, fun p e R s m args below meth cd f cA tys A H locs cells slots ls0 C o hAB hA hrel hls hvl hvs hc hz => ?_⟩
  obtain ⟨hK, hP, hD, hS, ok⟩ := hrel
  obtain ⟨h4, hx⟩ := ok.cell hk (by omega) (by omega)
  obtain ⟨g4, gx⟩ := ok.cell hk2 (by omega) (by omega)
  obtain ⟨t0, ht0⟩ := List.getElem?_of_mem (ok.2.2.1 a h4 hx (by rw [hk]; omega))
  have he := mjWs_at f cA h h4 hx
  have hk3 : mK h a = 24 ∨ mK h a = 25 ∨ mK h a = 26 := by omega
  rw [mjE_ref hk3] at he
  have hg := mjWs_at f cA h g4 gx
  rw [mjE_obj hk2 (by omega)] at hg
  show W _ _ _ _ _ _ _ _ _ _ _ _ _ _ _ (F0 m pc ls0 (mjTr f (.ref x) :: .int i :: mjTr f (.ref a) :: r.map (mjTr f)))
  rw [mjTr_ref f (by omega), mjTr_ref f (by omega)]
  rcases hr with ⟨rfl, rfl⟩ | ⟨rfl, rfl⟩ | ⟨rfl, rfl⟩
  · refine va_astq (r := (RX6, TX6, 2)) C.1 C.2.1 hK hP hD hS (a - 4) t0 (x - 4) 6 he (by rw [ht0, hk]; rfl) hg rfl (vp_of_in hi) hd (fun H1 locs1 hP1 hD1 hS1 => ?_)
    rw [mjWs_R h4 hk3 (by omega)] at hP1 hD1
    exact hw.2 p e R s m args below meth cd f cA tys A H1 locs1 cells slots ls0 C o hAB hA ⟨hK, hP1, hD1, hS1, ok.pR gx⟩ hls hvl hvs.tail.tail.tail hc hz
  · refine va_astq (r := (RX4, TX4, 5)) C.1 C.2.1 hK hP hD hS (a - 4) t0 (x - 4) 4 he (by rw [ht0, hk]; rfl) hg rfl (vp_of_in hi) hd (fun H1 locs1 hP1 hD1 hS1 => ?_)
    rw [mjWs_R h4 hk3 (by omega)] at hP1 hD1
    exact hw.2 p e R s m args below meth cd f cA tys A H1 locs1 cells slots ls0 C o hAB hA ⟨hK, hP1, hD1, hS1, ok.pR gx⟩ hls hvl hvs.tail.tail.tail hc hz
  · refine va_astq (r := (RX9, TX9, 10)) C.1 C.2.1 hK hP hD hS (a - 4) t0 (x - 4) 9 he (by rw [ht0, hk]; rfl) hg rfl (vp_of_in hi) hd (fun H1 locs1 hP1 hD1 hS1 => ?_)
    rw [mjWs_R h4 hk3 (by omega)] at hP1 hD1
    exact hw.2 p e R s m args below meth cd f cA tys A H1 locs1 cells slots ls0 C o hAB hA ⟨hK, hP1, hD1, hS1, ok.pR gx⟩ hls hvl hvs.tail.tail.tail hc hz
end CELLS
