/-! the class reads a rule; rule() -/
/-- what is made, and that the reference's cells stay -/
def Cg (h h' : mjS) : Prop := sm1 isRg h h' ∧ mX h ≤ mX h' ∧ mX h' ≤ mX h + 5 ∧ mZ h' ≤ mZ h + 500
theorem Cm.cg {h h' : mjS} (c : Cm h h') : Cg h h' := ⟨c.1, by rw [c.2.1]; exact Nat.le_refl _, by rw [c.2.1]; omega, by rw [c.2.2]; omega⟩
abbrev FRk (a k : Nat) : Prop := a = 7 ∨ a = 8 ∨ a = 9 ∨ a = 12 ∨ (a = 5 ∧ 5 ≤ k) ∨ (a = 11 ∧ (k = 2 ∨ k = 3))
theorem c1.fr {F : Nat → Nat → Prop} {h h' : mjS} (a : Fr F h h') (c : c1 h) : c1 h' := by
  have eK : mK h' = mK h := funext fun x => a.K x
  have eN : mN h' = mN h := funext fun x => a.N x
  have eR : mR h' = mR h := funext fun x => funext fun k => a.R x k
  have eX : mX h' = mX h := a.X
  unfold c1 tSh uSh sSh zSh nSh qSh at *
  rw [eK, eN, eR, eX]
  exact c
theorem CI.frk {h h' : mjS} {s : gst} (a : Fr FRk h h') (c : CI h s) : CI h' s := by
  obtain ⟨f, nx, fi, C1, C2, C3, C4, C5, C6, C7⟩ := c.parts
  have o := C2.2.1.1
  have a' := a.t
  exact CI.of (s := s) (C1.fr a) (C2.ft a' (fun x k hx => by unfold FRk; omega) (fun x k hx => by unfold FRk; omega)) (C3.ft a' ⟨by unfold FRk; omega, fun k => by unfold FRk; omega⟩) (C4.ft a' (by unfold FRk; omega) (fun x k hx _ => by unfold FRk; omega)) (C5.ft a' (by unfold FRk; omega)) (C6.ft a' (by unfold FRk; omega) (fun x k hx => by unfold FRk; omega)) (C7.ft a' (fun x k hx => by unfold FRk; omega) (fun j hj hm x k hx => by have := (C7.ok hj hm).1.1; unfold FRk; omega))
/-- the tape is empty then -/
theorem CI.empty {h : mjS} {s : gst} (c : CI h s) : CI (pI h 5 1 (nI 0)) (sTape s s.tb 0) := by
  obtain ⟨f, nx, fi, C1, C2, C3, C4, C5, C6, C7⟩ := c.parts
  have o := C2.2.1.1
  have a : Ft (fun x k => x = 5 ∧ k = 1) h (pI h 5 1 (nI 0)) := Ft.pI ⟨rfl, rfl⟩
  exact CI.of (s := sTape s s.tb 0) (C1.ft a (fun x hx => by omega) (fun k hk => by omega)) (C2.ft a (fun x k hx => by omega) (fun x k hx => by omega)) ⟨pI_at, fun i hi => absurd hi (Nat.not_lt_zero i)⟩ (C4.ft a (by omega) (fun x k hx _ => by omega)) (C5.ft a (by omega)) (C6.ft a (by omega) (fun x k hx => by omega)) (C7.ft a (fun x k hx => by omega) (fun j hj hm x k hx => by have := (C7.ok hj hm).1.1; omega))
section CR
variable {ev : mjT} {lv : Nat} {h : mjS} {s : gst} {B : Nat}
theorem Rw.move {h h' : mjS} {c c' : Nat} : ∀ {l : List Int32} {i : Nat}, (∀ k, i ≤ k → k < i + l.length → mI h' c' k = mI h c k) → Rw h c i l → Rw h' c' i l := by
  intro l
  induction l with
  | nil => intros; trivial
  | cons x l ih => intro i hk r; exact ⟨(hk i (by omega) (by simp)).trans r.1, ih (fun k a b => hk k (by omega) (by simp; omega)) r.2⟩
/-- a rule is made of the steps -/
theorem cl_made (E : mjFix ev) {tb : Nat → Int32} {tl np : Nat} {r : rul} (c : CRo h tb tl (stepsR r) ([], [], np)) (ok : okR r) (ln : (stepsR r).length ≤ 397) (x : 264 ≤ mX h) (v : Int32) : ∃ h1 h', ev 34 lv 87 [.ref 11, .int v] [] h = some (.ref (mX h1), h') ∧ Fr FRd h h1 ∧ Gv h1 h' ∧ (∀ i, mR h' 13 i = mR h1 13 i) ∧ RU h' (mX h1) r ∧ mX h' = mX h1 + 3 ∧ mZ h' ≤ mZ h1 + 500 := by
  have t := c.t
  obtain ⟨h1, e1, f1, c1⟩ := co_take (lv := lv) (k := 1) E c (by omega) rfl
  have c1 : CRo h1 tb tl (stepsR r) ([], [], np) := c1
  have t1 := c1.t
  obtain ⟨i, q, n2, n3, rw', np'⟩ := c1
  have n2 : mI h1 11 2 = nI (stepsR r).length := n2
  have rw1 : Rw h1 12 0 (stepsR r) := (Rw.app.mp rw').1
  have x1 : mX h1 = mX h := f1.X
  obtain ⟨h2, eh2⟩ : ∃ y, y = pN h1 7 0 2 := ⟨_, rfl⟩
  obtain ⟨h3, eh3⟩ : ∃ y, y = pN h2 20 (stepsR r).length (stepsR r).length := ⟨_, rfl⟩
  obtain ⟨h4, eh4⟩ : ∃ y, y = pC h3 12 0 (mX h2) 0 (stepsR r).length := ⟨_, rfl⟩
  obtain ⟨h5, eh5⟩ : ∃ y, y = pN h4 23 60 60 := ⟨_, rfl⟩
  have x2 : mX h2 = mX h1 + 1 := by rw [eh2]; rfl
  have x3 : mX h3 = mX h1 + 2 := by rw [eh3, mX_pN, x2]
  have x4 : mX h4 = mX h1 + 2 := by rw [eh4, mX_pC, x3]
  have x5 : mX h5 = mX h1 + 3 := by rw [eh5, mX_pN, x4]
  have K2 : ∀ a, mK h2 a = if a = mX h1 then 7 else mK h1 a := fun a => by rw [eh2]; rfl
  have K3 : ∀ a, mK h3 a = if a = mX h2 then 20 else mK h2 a := fun a => by rw [eh3]; rfl
  have K4 : ∀ a, mK h4 a = mK h3 a := fun a => by rw [eh4]; rfl
  have K5 : ∀ a, mK h5 a = if a = mX h4 then 23 else mK h4 a := fun a => by rw [eh5]; rfl
  have N2 : ∀ a, mN h2 a = if a = mX h1 then 0 else mN h1 a := fun a => by rw [eh2]; rfl
  have N3 : ∀ a, mN h3 a = if a = mX h2 then (stepsR r).length else mN h2 a := fun a => by rw [eh3]; rfl
  have N4 : ∀ a, mN h4 a = mN h3 a := fun a => by rw [eh4]; rfl
  have N5 : ∀ a, mN h5 a = if a = mX h4 then 60 else mN h4 a := fun a => by rw [eh5]; rfl
  have I2 : ∀ a k, mI h2 a k = if a = mX h1 then 0 else mI h1 a k := fun a k => by rw [eh2]; rfl
  have I3 : ∀ a k, mI h3 a k = if a = mX h2 then 0 else mI h2 a k := fun a k => by rw [eh3]; rfl
  have I4 : ∀ a k, mI h4 a k = if a = mX h2 ∧ (0 ≤ k ∧ k < 0 + (stepsR r).length) then mI h3 12 (0 + (k - 0)) else mI h3 a k := fun a k => by rw [eh4]; rfl
  have I5 : ∀ a k, mI h5 a k = if a = mX h4 then 0 else mI h4 a k := fun a k => by rw [eh5]; rfl
  have L5 : ∀ a k, a < mX h1 → mL h5 a k = mL h1 a k := fun a k ha => by rw [eh5, mL_pN, if_neg (by omega), eh4, mL_pC, eh3, mL_pN, if_neg (by omega), eh2, mL_pN, if_neg (by omega)]
  have R2 : ∀ a k, mR h2 a k = if a = mX h1 then 0 else mR h1 a k := fun a k => by rw [eh2]; rfl
  have R3 : ∀ a k, mR h3 a k = if a = mX h2 then 0 else mR h2 a k := fun a k => by rw [eh3]; rfl
  have R4 : ∀ a k, mR h4 a k = mR h3 a k := fun a k => by rw [eh4]; rfl
  have R5 : ∀ a k, mR h5 a k = if a = mX h4 then 0 else mR h4 a k := fun a k => by rw [eh5]; rfl
  have Z5 : mZ h5 = mZ h1 + 2 + (stepsR r).length + 60 := by rw [eh5, eh4, eh3, eh2]; rfl
  have k11 : mK h2 11 = 8 := by rw [K2, if_neg (by omega)]; exact t1.k11
  have r11 : mR h2 11 1 = 12 := by rw [R2, if_neg (by omega)]; exact t1.r11_1
  have i11 : mI h2 11 2 = nI (stepsR r).length := by rw [I2, if_neg (by omega)]; exact n2
  have ge0 : (0 : Int32) ≤ nI (stepsR r).length := by
    have z := nI_toInt (show (stepsR r).length < 2 ^ 31 by omega)
    rw [Int32.le_iff_toInt_le, z]
    exact Int.natCast_nonneg _
  have e262 : mjCall ev 262 lv [.ref 12, .int (nI (stepsR r).length)] h2 = some (.ref (mX h2), h4) := by
    have n12 : mN h2 12 = 400 := by rw [N2, if_neg (by omega)]; exact t1.n12
    have k122 : mK h2 12 = 20 := by rw [K2, if_neg (by omega)]; exact t1.k12
    have k12 : mK h3 12 = 20 := by rw [K3, if_neg (by omega)]; exact k122
    have kx : mK h3 (mX h2) = 20 := by rw [K3, if_pos rfl]
    have n13 : mN h3 12 = 400 := by rw [N3, if_neg (by omega)]; exact n12
    have nx : mN h3 (mX h2) = (stepsR r).length := by rw [N3, if_pos rfl]
    have cl : (nI (stepsR r).length).toNatClampNeg = (stepsR r).length := nI_clamp (by omega)
    have lt : nI (stepsR r).length < nI 400 := (nI_ltI (by omega) (by omega)).mpr (by omega)
    have c0 : Int32.toNatClampNeg 0 = 0 := by decide
    show ev 262 lv 0 [.ref 12, .int (nI (stepsR r).length), mjD] [] h2 = _
    rw [e_262_0 E, n12, ofNat_nI]
    rw [cl]
    dsimp only [mjLet]
    rw [← eh3, n13, ofNat_nI, if_pos lt, cl, c0, nx]
    refine ifT k122 (ifF (by rw [nI_eq (by omega) (by omega)]; omega) (ifT ⟨ge0, by omega⟩ (ifT k12 (ifT ⟨k12, kx⟩ (ifT ⟨⟨by decide, by decide, ge0⟩, by omega, by omega⟩ ?_)))))
    rw [← eh4]
  have k7 : mK h4 (mX h1) = 7 := by rw [K4, K3, if_neg (by omega), K2, if_pos rfl]
  have k75 : mK h5 (mX h1) = 7 := by rw [K5, if_neg (by omega)]; exact k7
  have e30 : mjCall ev 30 lv [.ref (mX h1), .ref (mX h2)] h4 = some (.ref 0, pR (pR h5 (mX h1) 1 (mX h4)) (mX h1) 0 (mX h2)) := by
    have c60 : Int32.toNatClampNeg 60 = 60 := by decide
    show ev 30 lv 0 [.ref (mX h1), .ref (mX h2)] [] h4 = _
    rw [e_30_0 E]
    unfold mjLet
    rw [c60, ← eh5]
    exact ifF (by omega) (ifT ⟨by decide, by decide⟩ (ifT k75 (ifT k75 rfl)))
  refine ⟨h1, pR (pR h5 (mX h1) 1 (mX h4)) (mX h1) 0 (mX h2), ?_, f1, ⟨?_, fun a ha => ⟨?_, ?_, fun k => ⟨?_, ?_, fun h13 => ?_⟩⟩⟩, fun i => ?_, ⟨⟨by omega, ?_, ?_, ?_⟩, ⟨?_, ?_, ?_, ?_⟩, ?_, by omega, ok⟩, ?_, ?_⟩
  · rw [e_34_87 E]
    refine ifT t.k11 ?_
    rw [t.r11_0]
    refine ifT t.k5 (stI e1 (ifF (by decide) ?_))
    dsimp only [mjLet]
    rw [← eh2, r11, i11]
    exact ifT k11 (ifT k11 (stA e262 (ifT k7 (stV e30 rfl))))
  · show mX h1 ≤ mX h5
    omega
  · show mK h5 a = mK h1 a
    rw [K5, if_neg (by omega), K4, K3, if_neg (by omega), K2, if_neg (by omega)]
  · show mN h5 a = mN h1 a
    rw [N5, if_neg (by omega), N4, N3, if_neg (by omega), N2, if_neg (by omega)]
  · show mI h5 a k = mI h1 a k
    rw [I5, if_neg (by omega), I4, if_neg (by omega), I3, if_neg (by omega), I2, if_neg (by omega)]
  · exact L5 a k ha
  · rw [mR_pR, if_neg (by omega), mR_pR, if_neg (by omega), R5, if_neg (by omega), R4, R3, if_neg (by omega), R2, if_neg (by omega)]
  · rw [mR_pR, if_neg (by omega), mR_pR, if_neg (by omega), R5, if_neg (by omega), R4, R3, if_neg (by omega), R2, if_neg (by omega)]
  · exact k75
  · rw [mR_pR, if_pos ⟨rfl, rfl⟩, x2]
  · rw [mR_pR, if_neg (by omega), mR_pR, if_pos ⟨rfl, rfl⟩, x4]
  · show mK h5 (mX h1 + 1) = 20
    rw [K5, if_neg (by omega), K4, K3, if_pos (by omega)]
  · show mN h5 (mX h1 + 1) = _
    rw [N5, if_neg (by omega), N4, N3, if_pos (by omega)]
  · show mK h5 (mX h1 + 2) = 23
    rw [K5, if_pos (by omega)]
  · show mN h5 (mX h1 + 2) = 60
    rw [N5, if_pos (by omega)]
  · refine rw1.move (fun k hk1 hk2 => ?_)
    show mI h5 (mX h1 + 1) k = mI h1 12 k
    rw [I5, if_neg (by omega), I4, if_pos ⟨by omega, by omega, by omega⟩, I3, if_neg (by omega), I2, if_neg (by omega), show 0 + (k - 0) = k by omega]
  · exact x5
  · show mZ h5 ≤ mZ h1 + 500
    omega
theorem cl_Rule (E : mjFix ev) (c : CI h s) (w : WS B s) (hlv : 10 ≤ lv) : (∃ h', mjCall ev 99 lv [.ref 4] h = some (.int (qRule s), h') ∧ CI h' (nRule s) ∧ Cg h h') ∧ (s.nr ≠ 6 → ∀ f, ruleF s = .inl f → f ≠ 0 ∧ f < 5000) := by
  obtain ⟨f0, nx, fi, C1, C2, C3, C4, C5, C6, C7⟩ := c.parts
  have t := C1.1
  have x0 := C1.2.2.2.2.2
  have n6 := w.2.2.1
  have r4 := C4.1
  have ef : mjCall ev 99 lv [.ref 4] h = ev 99 lv 0 [.ref 4, mjD] [] h := rfl
  by_cases y : s.nr = 6
  · have q1 : qRule s = -nI 1 := by unfold qRule; rw [if_pos y]
    have q2 : nRule s = s := by unfold nRule; rw [if_pos y]
    rw [q1, q2]
    refine ⟨⟨h, ?_, c, Cm.rf.cg⟩, fun z => absurd y z⟩
    rw [y] at r4
    rw [ef, e_99_0 E]
    repeat (first | (apply ifT; focus ((try simp (disch := omega) only [t.k4, r4, ofNat_nI, i_lit, mI_pI, mK_pI, mN_pI, mR_pI, nI_ltI, nI_eq, nI_add, nI_mul, mjIn_nI, nI_clamp, neg1_lt0, if_pos, if_neg, if_true, if_false, Bool.false_eq_true, and_true, true_and, and_false, false_and, mI_pL, mK_pL, mN_pL, mR_pL, mL_pL, mL_pI, mI_pR, mL_pR, mK_pR, mN_pR, mR_pR, mI_pC, mL_pC, mK_pC, mN_pC, mR_pC]) <;> first | omega | decide)) | (apply ifF; focus ((try simp (disch := omega) only [t.k4, r4, ofNat_nI, i_lit, mI_pI, mK_pI, mN_pI, mR_pI, nI_ltI, nI_eq, nI_add, nI_mul, mjIn_nI, nI_clamp, neg1_lt0, if_pos, if_neg, if_true, if_false, Bool.false_eq_true, and_true, true_and, and_false, false_and, mI_pL, mK_pL, mN_pL, mR_pL, mL_pL, mL_pI, mI_pR, mL_pR, mK_pR, mN_pR, mR_pR, mI_pC, mL_pC, mK_pC, mN_pC, mR_pC]) <;> first | omega | decide)) | (apply stI; focus ((try simp (disch := omega) only [t.k4, r4, ofNat_nI, i_lit, mI_pI, mK_pI, mN_pI, mR_pI, nI_ltI, nI_eq, nI_add, nI_mul, mjIn_nI, nI_clamp, neg1_lt0, if_pos, if_neg, if_true, if_false, Bool.false_eq_true, and_true, true_and, and_false, false_and, mI_pL, mK_pL, mN_pL, mR_pL, mL_pL, mL_pI, mI_pR, mL_pR, mK_pR, mN_pR, mR_pR, mI_pC, mL_pC, mK_pC, mN_pC, mR_pC]) <;> rfl)) | (apply stV; focus ((try simp (disch := omega) only [t.k4, r4, ofNat_nI, i_lit, mI_pI, mK_pI, mN_pI, mR_pI, nI_ltI, nI_eq, nI_add, nI_mul, mjIn_nI, nI_clamp, neg1_lt0, if_pos, if_neg, if_true, if_false, Bool.false_eq_true, and_true, true_and, and_false, false_and, mI_pL, mK_pL, mN_pL, mR_pL, mL_pL, mL_pI, mI_pR, mL_pR, mK_pR, mN_pR, mR_pR, mI_pC, mL_pC, mK_pC, mN_pC, mR_pC]) <;> rfl)) | (apply stL; focus ((try simp (disch := omega) only [t.k4, r4, ofNat_nI, i_lit, mI_pI, mK_pI, mN_pI, mR_pI, nI_ltI, nI_eq, nI_add, nI_mul, mjIn_nI, nI_clamp, neg1_lt0, if_pos, if_neg, if_true, if_false, Bool.false_eq_true, and_true, true_and, and_false, false_and, mI_pL, mK_pL, mN_pL, mR_pL, mL_pL, mL_pI, mI_pR, mL_pR, mK_pR, mN_pR, mR_pR, mI_pC, mL_pC, mK_pC, mN_pC, mR_pC]) <;> rfl)) | (apply stA; focus ((try simp (disch := omega) only [t.k4, r4, ofNat_nI, i_lit, mI_pI, mK_pI, mN_pI, mR_pI, nI_ltI, nI_eq, nI_add, nI_mul, mjIn_nI, nI_clamp, neg1_lt0, if_pos, if_neg, if_true, if_false, Bool.false_eq_true, and_true, true_and, and_false, false_and, mI_pL, mK_pL, mN_pL, mR_pL, mL_pL, mL_pI, mI_pR, mL_pR, mK_pR, mN_pR, mR_pR, mI_pC, mL_pC, mK_pC, mN_pC, mR_pC]) <;> rfl)))
    try simp (disch := omega) only [t.k4, r4, ofNat_nI, i_lit, mI_pI, mK_pI, mN_pI, mR_pI, nI_ltI, nI_eq, nI_add, nI_mul, mjIn_nI, nI_clamp, neg1_lt0, if_pos, if_neg, if_true, if_false, Bool.false_eq_true, and_true, true_and, and_false, false_and, mI_pL, mK_pL, mN_pL, mR_pL, mL_pL, mL_pI, mI_pR, mL_pR, mK_pR, mN_pR, mR_pR, mI_pC, mL_pC, mK_pC, mN_pC, mR_pC]
  · have tl4 := w.2.1.1
    have ln := tkp_len (tb := s.tb) (tl := s.tl) (p := 0) (by omega)
    have ln : (tks s.tb s.tl).length + 0 ≤ s.tl := ln
    have g0 : Fr FRk h (pI (pI h 11 2 (nI 0)) 11 3 (nI 0)) := (Fr.pI (F := FRk) (by unfold FRk; omega)).tr (Fr.pI (F := FRk) (by unfold FRk; omega))
    obtain ⟨h0, eh0⟩ : ∃ y, y = pI (pI h 11 2 (nI 0)) 11 3 (nI 0) := ⟨_, rfl⟩
    rw [← eh0] at g0
    have i2 : mI h0 11 2 = nI 0 := by rw [eh0, pI_nk (by omega), pI_at]
    have i3 : mI h0 11 3 = nI 0 := by rw [eh0, pI_at]
    have c0 := c.frk g0
    obtain ⟨f0', nx', fi', D1, D2, D3, D4, D5, D6, D7⟩ := c0.parts
    obtain ⟨h1, e82, f82, tp⟩ := tz_all (lv := lv) E D1.1 D3 tl4
    have co : CRo h1 s.tb s.tl (stepsR []) (tks s.tb s.tl, [], 0) := ⟨0, ⟨tp, tkz_ok s.tb s.tl s.tl 0 (by omega), by omega⟩, by rw [f82.I (by unfold FKu; omega)]; exact i2, by rw [f82.I (by unfold FKu; omega)]; exact i3, trivial, by show 0 ≤ 60; omega⟩
    have R := co_rule (lv := lv) E hlv 12 0 [] (tks s.tb s.tl) 0 h1 co (by omega) (by show 0 + _ ≤ 400; omega)
    have g1 : Fr FRk h h1 := g0.tr (f82.mono (fun a k hx => by unfold FKu at hx; unfold FRk; omega))
    have e34 : mjCall ev 34 lv [.ref 11] h = ev 34 lv 19 [.ref 11, .int (nI 0)] [] h1 := by
      show ev 34 lv 0 [.ref 11, mjD] [] h = _
      rw [eh0] at e82
      rw [e_34_0 E]
      repeat (first | (apply ifT; focus ((try simp (disch := omega) only [t.k11, t.r11_0, t.k5, e82, ofNat_nI, i_lit, mI_pI, mK_pI, mN_pI, mR_pI, nI_ltI, nI_eq, nI_add, nI_mul, mjIn_nI, nI_clamp, neg1_lt0, if_pos, if_neg, if_true, if_false, Bool.false_eq_true, and_true, true_and, and_false, false_and, mI_pL, mK_pL, mN_pL, mR_pL, mL_pL, mL_pI, mI_pR, mL_pR, mK_pR, mN_pR, mR_pR, mI_pC, mL_pC, mK_pC, mN_pC, mR_pC]) <;> first | omega | decide)) | (apply ifF; focus ((try simp (disch := omega) only [t.k11, t.r11_0, t.k5, e82, ofNat_nI, i_lit, mI_pI, mK_pI, mN_pI, mR_pI, nI_ltI, nI_eq, nI_add, nI_mul, mjIn_nI, nI_clamp, neg1_lt0, if_pos, if_neg, if_true, if_false, Bool.false_eq_true, and_true, true_and, and_false, false_and, mI_pL, mK_pL, mN_pL, mR_pL, mL_pL, mL_pI, mI_pR, mL_pR, mK_pR, mN_pR, mR_pR, mI_pC, mL_pC, mK_pC, mN_pC, mR_pC]) <;> first | omega | decide)) | (apply stI; focus ((try simp (disch := omega) only [t.k11, t.r11_0, t.k5, e82, ofNat_nI, i_lit, mI_pI, mK_pI, mN_pI, mR_pI, nI_ltI, nI_eq, nI_add, nI_mul, mjIn_nI, nI_clamp, neg1_lt0, if_pos, if_neg, if_true, if_false, Bool.false_eq_true, and_true, true_and, and_false, false_and, mI_pL, mK_pL, mN_pL, mR_pL, mL_pL, mL_pI, mI_pR, mL_pR, mK_pR, mN_pR, mR_pR, mI_pC, mL_pC, mK_pC, mN_pC, mR_pC]) <;> rfl)) | (apply stV; focus ((try simp (disch := omega) only [t.k11, t.r11_0, t.k5, e82, ofNat_nI, i_lit, mI_pI, mK_pI, mN_pI, mR_pI, nI_ltI, nI_eq, nI_add, nI_mul, mjIn_nI, nI_clamp, neg1_lt0, if_pos, if_neg, if_true, if_false, Bool.false_eq_true, and_true, true_and, and_false, false_and, mI_pL, mK_pL, mN_pL, mR_pL, mL_pL, mL_pI, mI_pR, mL_pR, mK_pR, mN_pR, mR_pR, mI_pC, mL_pC, mK_pC, mN_pC, mR_pC]) <;> rfl)) | (apply stL; focus ((try simp (disch := omega) only [t.k11, t.r11_0, t.k5, e82, ofNat_nI, i_lit, mI_pI, mK_pI, mN_pI, mR_pI, nI_ltI, nI_eq, nI_add, nI_mul, mjIn_nI, nI_clamp, neg1_lt0, if_pos, if_neg, if_true, if_false, Bool.false_eq_true, and_true, true_and, and_false, false_and, mI_pL, mK_pL, mN_pL, mR_pL, mL_pL, mL_pI, mI_pR, mL_pR, mK_pR, mN_pR, mR_pR, mI_pC, mL_pC, mK_pC, mN_pC, mR_pC]) <;> rfl)) | (apply stA; focus ((try simp (disch := omega) only [t.k11, t.r11_0, t.k5, e82, ofNat_nI, i_lit, mI_pI, mK_pI, mN_pI, mR_pI, nI_ltI, nI_eq, nI_add, nI_mul, mjIn_nI, nI_clamp, neg1_lt0, if_pos, if_neg, if_true, if_false, Bool.false_eq_true, and_true, true_and, and_false, false_and, mI_pL, mK_pL, mN_pL, mR_pL, mL_pL, mL_pI, mI_pR, mL_pR, mK_pR, mN_pR, mR_pR, mI_pC, mL_pC, mK_pC, mN_pC, mR_pC]) <;> rfl)))
      try simp (disch := omega) only [t.k11, t.r11_0, t.k5, e82, ofNat_nI, i_lit, mI_pI, mK_pI, mN_pI, mR_pI, nI_ltI, nI_eq, nI_add, nI_mul, mjIn_nI, nI_clamp, neg1_lt0, if_pos, if_neg, if_true, if_false, Bool.false_eq_true, and_true, true_and, and_false, false_and, mI_pL, mK_pL, mN_pL, mR_pL, mL_pL, mL_pI, mI_pR, mL_pR, mK_pR, mN_pR, mR_pR, mI_pC, mL_pC, mK_pC, mN_pC, mR_pC]
    have hR : clF s.tl 12 [] (tks s.tb s.tl) 0 = ruleF s := rfl
    rw [hR] at R
    have FRd_FRk : ∀ a k, FRd a k → FRk a k := fun a k hx => by unfold FRd at hx; unfold FRk; omega
    have lt6 : s.nr < 6 := by omega
    cases hr : ruleF s with
    | inl f =>
      rw [hr] at R
      obtain ⟨h2, e2, f2, z2⟩ := R
      have q1 : qRule s = -nI 2 - nI f := by unfold qRule; rw [if_neg y, hr]
      have q2 : nRule s = sTape s s.tb 0 := by unfold nRule; rw [if_neg y, hr]
      rw [q1, q2]
      have g2 : Fr FRk h h2 := g1.tr (f2.mono FRd_FRk)
      have c2 := c.frk g2
      obtain ⟨z0, ⟨i, ts, tq⟩, -⟩ := z2
      have t2 := tq.1.1
      have i7 : mI h2 5 7 = nI f := tq.1.2.2.2.2.2.2
      refine ⟨⟨pI h2 5 1 (nI 0), ?_, c2.empty, ?_⟩, fun _ f' hf' => by cases hf'; exact ⟨z0, tq.2.2⟩⟩
      · have e34' := e34.trans e2
        rw [ef, e_99_0 E]
        repeat (first | (apply ifT; focus ((try simp (disch := omega) only [t.k4, r4, t.r4_2, t.k11, e34', t2.k4, t2.r4_0, t2.k5, i7, ofNat_nI, i_lit, mI_pI, mK_pI, mN_pI, mR_pI, nI_ltI, nI_eq, nI_add, nI_mul, mjIn_nI, nI_clamp, neg1_lt0, if_pos, if_neg, if_true, if_false, Bool.false_eq_true, and_true, true_and, and_false, false_and, mI_pL, mK_pL, mN_pL, mR_pL, mL_pL, mL_pI, mI_pR, mL_pR, mK_pR, mN_pR, mR_pR, mI_pC, mL_pC, mK_pC, mN_pC, mR_pC]) <;> first | omega | decide)) | (apply ifF; focus ((try simp (disch := omega) only [t.k4, r4, t.r4_2, t.k11, e34', t2.k4, t2.r4_0, t2.k5, i7, ofNat_nI, i_lit, mI_pI, mK_pI, mN_pI, mR_pI, nI_ltI, nI_eq, nI_add, nI_mul, mjIn_nI, nI_clamp, neg1_lt0, if_pos, if_neg, if_true, if_false, Bool.false_eq_true, and_true, true_and, and_false, false_and, mI_pL, mK_pL, mN_pL, mR_pL, mL_pL, mL_pI, mI_pR, mL_pR, mK_pR, mN_pR, mR_pR, mI_pC, mL_pC, mK_pC, mN_pC, mR_pC]) <;> first | omega | decide)) | (apply stI; focus ((try simp (disch := omega) only [t.k4, r4, t.r4_2, t.k11, e34', t2.k4, t2.r4_0, t2.k5, i7, ofNat_nI, i_lit, mI_pI, mK_pI, mN_pI, mR_pI, nI_ltI, nI_eq, nI_add, nI_mul, mjIn_nI, nI_clamp, neg1_lt0, if_pos, if_neg, if_true, if_false, Bool.false_eq_true, and_true, true_and, and_false, false_and, mI_pL, mK_pL, mN_pL, mR_pL, mL_pL, mL_pI, mI_pR, mL_pR, mK_pR, mN_pR, mR_pR, mI_pC, mL_pC, mK_pC, mN_pC, mR_pC]) <;> rfl)) | (apply stV; focus ((try simp (disch := omega) only [t.k4, r4, t.r4_2, t.k11, e34', t2.k4, t2.r4_0, t2.k5, i7, ofNat_nI, i_lit, mI_pI, mK_pI, mN_pI, mR_pI, nI_ltI, nI_eq, nI_add, nI_mul, mjIn_nI, nI_clamp, neg1_lt0, if_pos, if_neg, if_true, if_false, Bool.false_eq_true, and_true, true_and, and_false, false_and, mI_pL, mK_pL, mN_pL, mR_pL, mL_pL, mL_pI, mI_pR, mL_pR, mK_pR, mN_pR, mR_pR, mI_pC, mL_pC, mK_pC, mN_pC, mR_pC]) <;> rfl)) | (apply stL; focus ((try simp (disch := omega) only [t.k4, r4, t.r4_2, t.k11, e34', t2.k4, t2.r4_0, t2.k5, i7, ofNat_nI, i_lit, mI_pI, mK_pI, mN_pI, mR_pI, nI_ltI, nI_eq, nI_add, nI_mul, mjIn_nI, nI_clamp, neg1_lt0, if_pos, if_neg, if_true, if_false, Bool.false_eq_true, and_true, true_and, and_false, false_and, mI_pL, mK_pL, mN_pL, mR_pL, mL_pL, mL_pI, mI_pR, mL_pR, mK_pR, mN_pR, mR_pR, mI_pC, mL_pC, mK_pC, mN_pC, mR_pC]) <;> rfl)) | (apply stA; focus ((try simp (disch := omega) only [t.k4, r4, t.r4_2, t.k11, e34', t2.k4, t2.r4_0, t2.k5, i7, ofNat_nI, i_lit, mI_pI, mK_pI, mN_pI, mR_pI, nI_ltI, nI_eq, nI_add, nI_mul, mjIn_nI, nI_clamp, neg1_lt0, if_pos, if_neg, if_true, if_false, Bool.false_eq_true, and_true, true_and, and_false, false_and, mI_pL, mK_pL, mN_pL, mR_pL, mL_pL, mL_pI, mI_pR, mL_pR, mK_pR, mN_pR, mR_pR, mI_pC, mL_pC, mK_pC, mN_pC, mR_pC]) <;> rfl)))
        try simp (disch := omega) only [t.k4, r4, t.r4_2, t.k11, e34', t2.k4, t2.r4_0, t2.k5, i7, ofNat_nI, i_lit, mI_pI, mK_pI, mN_pI, mR_pI, nI_ltI, nI_eq, nI_add, nI_mul, mjIn_nI, nI_clamp, neg1_lt0, if_pos, if_neg, if_true, if_false, Bool.false_eq_true, and_true, true_and, and_false, false_and, mI_pL, mK_pL, mN_pL, mR_pL, mL_pL, mL_pI, mI_pR, mL_pR, mK_pR, mN_pR, mR_pR, mI_pC, mL_pC, mK_pC, mN_pC, mR_pC]
      · have g3 : Fr (fun a k => 4 < a ∧ a < 13) h (pI h2 5 1 (nI 0)) := (g2.mono (fun a k hx => by unfold FRk at hx; omega)).tr (Fr.pI (F := fun a _ => 4 < a ∧ a < 13) (by omega))
        exact Cm.cg (g3.t.cm (fun x k hx => by omega))
    | inr r =>
      rw [hr] at R
      obtain ⟨h2, v, np, e2, f2, co2⟩ := R
      have q1 : qRule s = nI s.nr := by unfold qRule; rw [if_neg y, hr]
      have q2 : nRule s = sRule (sTape s s.tb 0) r := by unfold nRule; rw [if_neg y, hr]
      rw [q1, q2]
      have k130 : kd (tks s.tb s.tl) = 130 := by
        by_cases z : kd (tks s.tb s.tl) = 130
        · exact z
        · exfalso
          have q : clF s.tl (11 + 1) [] (tks s.tb s.tl) 0 = .inl (1 + 8 * pl s.tl (tks s.tb s.tl) + 0) := by
            show (if kd (tks s.tb s.tl) = 130 then _ else _) = _
            rw [if_neg z]
          rw [← hR] at hr
          rw [hr] at q
          cases q
      have l3 := tks_take k130
      have ok := clF_ok (B := 397) 12 [] (tks s.tb s.tl) 0 r hr (tkz_ok s.tb s.tl s.tl 0 (by omega)) (by omega) (fun c hc => absurd hc List.not_mem_nil) rfl (by show 0 + _ ≤ 397; omega) (by show 0 + _ ≤ 397; omega)
      have x2 : mX h2 = mX h := (g1.tr (f2.mono FRd_FRk)).X
      obtain ⟨h3, h4, e4, f4, gv, r13, ru, xx, zz⟩ := cl_made (lv := lv) E co2 ok.1 ok.2.2.1 (by omega) v
      have g3 : Fr FRk h h3 := (g1.tr (f2.mono FRd_FRk)).tr (f4.mono FRd_FRk)
      have c3 := c.frk g3
      have x3 : mX h3 = mX h := g3.X
      have z3 : mZ h3 = mZ h := g3.Z
      obtain ⟨f3', nx3, fi3, E1, E2, E3, E4, E5, E6, E7⟩ := c3.parts
      have gv5 : Gv h3 (pR h4 13 s.nr (mX h3)) := ⟨gv.1, fun a ha => ⟨gv.K a ha, gv.N a ha, fun k => ⟨gv.I a k ha, ((gv.2 a ha).2.2 k).2.1, fun h13 => by rw [mR_pR, if_neg (fun z => h13 z.1)]; exact gv.R a k ⟨ha, h13⟩⟩⟩⟩
      have gv45 : Gv h4 (pR h4 13 s.nr (mX h3)) := ⟨Nat.le_refl _, fun a ha => ⟨rfl, rfl, fun k => ⟨rfl, rfl, fun h13 => by rw [mR_pR, if_neg (fun z => h13 z.1)]⟩⟩⟩
      have x3' : 264 ≤ mX h3 := by omega
      have A1 := gv5.c1 E1
      have A2 := gv5.c2 x3' E2
      have A4 := gv5.c4 x3' (fun i hi => by rw [mR_pR, if_neg (by omega)]; exact r13 i) E4
      have A5 := gv5.c5 x3' E5
      have A6 := gv5.c6 x3' E2.2.1 E6
      have A7 := gv5.c7 x3' E7
      have ru5 := gv45.ru x3' (by omega) ru
      have t4 : tSh h4 := by
        have z := (gv.c1 E1).1
        exact z
      have k7 : mK h4 (mX h3) = 7 := ru.1.2.1
      have r44 : mI h4 4 4 = nI s.nr := by rw [gv.I _ _ (by omega)]; exact E4.1
      have a : Ft (fun x k => (x = 5 ∧ k = 1) ∨ (x = 4 ∧ k = 4)) (pR h4 13 s.nr (mX h3)) (pI (pI (pR h4 13 s.nr (mX h3)) 5 1 (nI 0)) 4 4 (nI (s.nr + 1))) := (Ft.pI (F := fun x k => (x = 5 ∧ k = 1) ∨ (x = 4 ∧ k = 4)) (by omega)).tr (Ft.pI (F := fun x k => (x = 5 ∧ k = 1) ∨ (x = 4 ∧ k = 4)) (by omega))
      have o3 := A2.2.1.1
      refine ⟨⟨pI (pI (pR h4 13 s.nr (mX h3)) 5 1 (nI 0)) 4 4 (nI (s.nr + 1)), ?_, CI.of (s := sRule (sTape s s.tb 0) r) (A1.ft a (fun x hx => by omega) (fun k hk => by omega)) (A2.ft a (fun x k hx => by omega) (fun x k hx => by omega)) ⟨by rw [pI_ne (by omega), pI_at]; rfl, fun i hi => absurd hi (Nat.not_lt_zero i)⟩ ⟨pI_at, fun i hi => ?_⟩ (A5.ft a (by omega)) (A6.ft a (by omega) (fun x k hx => by omega)) (A7.ft a (fun x k hx => by omega) (fun j hj hm x k hx => by have := (A7.ok hj hm).1.1; omega)), ?_⟩, fun _ f' hf' => by cases hf'⟩
      · have e34' := (e34.trans e2).trans e4
        have n0 : mX h3 ≠ 0 := by omega
        have sb : nI (s.nr + 1) - nI 1 = nI s.nr := by rw [nI_sub (by omega)]; congr 1
        rw [ef, e_99_0 E]
        repeat (first | (apply ifT; focus ((try simp (disch := omega) only [t.k4, r4, t.r4_2, t.k11, e34', t4.k4, t4.r4_0, t4.k5, n0, r44, t4.r4_3, t4.k13, t4.n13, k7, sb, ofNat_nI, i_lit, mI_pI, mK_pI, mN_pI, mR_pI, nI_ltI, nI_eq, nI_add, nI_mul, mjIn_nI, nI_clamp, neg1_lt0, if_pos, if_neg, if_true, if_false, Bool.false_eq_true, and_true, true_and, and_false, false_and, mI_pL, mK_pL, mN_pL, mR_pL, mL_pL, mL_pI, mI_pR, mL_pR, mK_pR, mN_pR, mR_pR, mI_pC, mL_pC, mK_pC, mN_pC, mR_pC]) <;> first | omega | decide)) | (apply ifF; focus ((try simp (disch := omega) only [t.k4, r4, t.r4_2, t.k11, e34', t4.k4, t4.r4_0, t4.k5, n0, r44, t4.r4_3, t4.k13, t4.n13, k7, sb, ofNat_nI, i_lit, mI_pI, mK_pI, mN_pI, mR_pI, nI_ltI, nI_eq, nI_add, nI_mul, mjIn_nI, nI_clamp, neg1_lt0, if_pos, if_neg, if_true, if_false, Bool.false_eq_true, and_true, true_and, and_false, false_and, mI_pL, mK_pL, mN_pL, mR_pL, mL_pL, mL_pI, mI_pR, mL_pR, mK_pR, mN_pR, mR_pR, mI_pC, mL_pC, mK_pC, mN_pC, mR_pC]) <;> first | omega | decide)) | (apply stI; focus ((try simp (disch := omega) only [t.k4, r4, t.r4_2, t.k11, e34', t4.k4, t4.r4_0, t4.k5, n0, r44, t4.r4_3, t4.k13, t4.n13, k7, sb, ofNat_nI, i_lit, mI_pI, mK_pI, mN_pI, mR_pI, nI_ltI, nI_eq, nI_add, nI_mul, mjIn_nI, nI_clamp, neg1_lt0, if_pos, if_neg, if_true, if_false, Bool.false_eq_true, and_true, true_and, and_false, false_and, mI_pL, mK_pL, mN_pL, mR_pL, mL_pL, mL_pI, mI_pR, mL_pR, mK_pR, mN_pR, mR_pR, mI_pC, mL_pC, mK_pC, mN_pC, mR_pC]) <;> rfl)) | (apply stV; focus ((try simp (disch := omega) only [t.k4, r4, t.r4_2, t.k11, e34', t4.k4, t4.r4_0, t4.k5, n0, r44, t4.r4_3, t4.k13, t4.n13, k7, sb, ofNat_nI, i_lit, mI_pI, mK_pI, mN_pI, mR_pI, nI_ltI, nI_eq, nI_add, nI_mul, mjIn_nI, nI_clamp, neg1_lt0, if_pos, if_neg, if_true, if_false, Bool.false_eq_true, and_true, true_and, and_false, false_and, mI_pL, mK_pL, mN_pL, mR_pL, mL_pL, mL_pI, mI_pR, mL_pR, mK_pR, mN_pR, mR_pR, mI_pC, mL_pC, mK_pC, mN_pC, mR_pC]) <;> rfl)) | (apply stL; focus ((try simp (disch := omega) only [t.k4, r4, t.r4_2, t.k11, e34', t4.k4, t4.r4_0, t4.k5, n0, r44, t4.r4_3, t4.k13, t4.n13, k7, sb, ofNat_nI, i_lit, mI_pI, mK_pI, mN_pI, mR_pI, nI_ltI, nI_eq, nI_add, nI_mul, mjIn_nI, nI_clamp, neg1_lt0, if_pos, if_neg, if_true, if_false, Bool.false_eq_true, and_true, true_and, and_false, false_and, mI_pL, mK_pL, mN_pL, mR_pL, mL_pL, mL_pI, mI_pR, mL_pR, mK_pR, mN_pR, mR_pR, mI_pC, mL_pC, mK_pC, mN_pC, mR_pC]) <;> rfl)) | (apply stA; focus ((try simp (disch := omega) only [t.k4, r4, t.r4_2, t.k11, e34', t4.k4, t4.r4_0, t4.k5, n0, r44, t4.r4_3, t4.k13, t4.n13, k7, sb, ofNat_nI, i_lit, mI_pI, mK_pI, mN_pI, mR_pI, nI_ltI, nI_eq, nI_add, nI_mul, mjIn_nI, nI_clamp, neg1_lt0, if_pos, if_neg, if_true, if_false, Bool.false_eq_true, and_true, true_and, and_false, false_and, mI_pL, mK_pL, mN_pL, mR_pL, mL_pL, mL_pI, mI_pR, mL_pR, mK_pR, mN_pR, mR_pR, mI_pC, mL_pC, mK_pC, mN_pC, mR_pC]) <;> rfl)))
        try simp (disch := omega) only [t.k4, r4, t.r4_2, t.k11, e34', t4.k4, t4.r4_0, t4.k5, n0, r44, t4.r4_3, t4.k13, t4.n13, k7, sb, ofNat_nI, i_lit, mI_pI, mK_pI, mN_pI, mR_pI, nI_ltI, nI_eq, nI_add, nI_mul, mjIn_nI, nI_clamp, neg1_lt0, if_pos, if_neg, if_true, if_false, Bool.false_eq_true, and_true, true_and, and_false, false_and, mI_pL, mK_pL, mN_pL, mR_pL, mL_pL, mL_pI, mI_pR, mL_pR, mK_pR, mN_pR, mR_pR, mI_pC, mL_pC, mK_pC, mN_pC, mR_pC]
        try rfl
      · have hi : i < s.nr + 1 := hi
        show (264 ≤ mR (pR h4 13 s.nr (mX h3)) 13 i ∧ mR (pR h4 13 s.nr (mX h3)) 13 i + 3 ≤ mX h4) ∧ RU _ (mR (pR h4 13 s.nr (mX h3)) 13 i) (if i = s.nr then r else s.rs i)
        by_cases z : i = s.nr
        · rw [if_pos z, mR_pR, if_pos ⟨rfl, z⟩]
          exact ⟨⟨x3', by omega⟩, ru5.ft a (fun k => by omega) (fun k => by omega)⟩
        · rw [if_neg z]
          obtain ⟨y1, y2⟩ := A4.2 i (by omega)
          have b := y1.1
          exact ⟨y1, y2.ft a (fun k => by omega) (fun k => by omega)⟩
      · have sm3 : sm1 isRg h h3 := g3.t.sm1 (fun x k hx => by unfold isRg at hx; unfold FRk; omega)
        have sm4 := gv.sm x3'
        refine ⟨fun b hb => ?_, ?_, ?_, ?_⟩
        · have hb' : b = 1 ∨ (243 ≤ b ∧ b < 264) := hb
          have s1 := sm3 b hb
          have s2 := sm4 b hb
          refine ⟨s2.1.trans s1.1, s2.2.1.trans s1.2.1, fun k => ⟨?_, (s2.2.2 k).2.1.trans (s1.2.2 k).2.1, ?_⟩⟩
          · rw [a.I (by omega)]; exact (s2.2.2 k).1.trans (s1.2.2 k).1
          · rw [a.R (by omega), mR_pR, if_neg (by omega)]; exact (s2.2.2 k).2.2.trans (s1.2.2 k).2.2
        · show mX h ≤ mX h4
          omega
        · show mX h4 ≤ mX h + 5
          omega
        · show mZ h4 ≤ mZ h + 500
          omega
end CR
