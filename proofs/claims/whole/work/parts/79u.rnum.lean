/-! the reference's reader: marks, numbers -/
theorem kiT3 {tb : Nat → Int32} {tl p : Nat} : kiT tb tl p = 3 ↔ dgt (tb p) = true := by
  constructor
  · intro e
    by_cases d : dgt (tb p) = true
    · exact d
    · exfalso
      unfold kiT at e
      by_cases l : ltr (tb p) = true
      · rw [if_pos l] at e
        have := kwF_rng tb p (ndT tb tl p) 18 0
        omega
      · rw [if_neg l, if_neg d] at e
        by_cases y : ndT tb tl p - p = 2
        · rw [if_pos y] at e; split at e <;> omega
        · rw [if_neg y] at e
          have all : ∀ y ∈ mjTx 3, y.toNatClampNeg ≠ 3 := by decide
          unfold kiS at e
          by_cases m : uB (tb p) ∈ mjTx 3
          · have := all _ m
            split at e <;> omega
          · rw [find_no m, if_pos (by decide)] at e; omega
  · intro d
    have l : ¬ ltr (tb p) = true := fun z => by have := ltr_dgt z; rw [this] at d; exact Bool.noConfusion d
    unfold kiT; rw [if_neg l, if_pos d]
theorem dv_snoc (tb : Nat → Int32) : ∀ j p a, dv tb (j + 1) p a = 10 * dv tb j p a + dn (tb (p + j)) := by
  intro j
  induction j with
  | zero => intro p a; rfl
  | succ j ih =>
    intro p a
    show dv tb (j + 1) (p + 1) (10 * a + dn (tb p)) = 10 * dv tb j (p + 1) (10 * a + dn (tb p)) + dn (tb (p + (j + 1)))
    rw [ih, show p + 1 + j = p + (j + 1) by omega]
theorem ndT_dgt2 {tb : Nat → Int32} {tl p : Nat} (hp : p < tl) (hd : dgt (tb p) = true) : (∀ j, p ≤ j → j < ndT tb tl p → dgt (tb j) = true) ∧ ¬ (ndT tb tl p < tl ∧ dgt (tb (ndT tb tl p)) = true) := by
  have l : ¬ ltr (tb p) = true := fun z => by have := ltr_dgt z; rw [this] at hd; exact Bool.noConfusion hd
  refine ⟨ndT_dgt hd l, fun z => ?_⟩
  have q : ndT tb tl p = rn dgt tb tl (tl - (p + 1)) (p + 1) := by unfold ndT; rw [if_neg l, if_pos hd]
  rcases rn_stop dgt tb tl (tl - (p + 1)) (p + 1) with w | w
  · rw [← q] at w; omega
  · rw [← q] at w; exact w z.2
/-- a number as it is wanted -/
def numF (tl lo : Nat) (mo : Int) (ts : List tok) : Nat ⊕ (Nat × List tok) := if kd ts = 3 then (match va ts with
  | none => .inl (1 + 8 * pl tl ts + 1)
  | some v => if lo ≤ v ∧ (v : Int) ≤ mo then .inr (v, ts.tail) else .inl (1 + 8 * pl tl ts + 1)) else .inl (1 + 8 * pl tl ts + 0)
abbrev FNm (a k : Nat) : Prop := a = 243 ∧ (k = 8 ∨ k = 9 ∨ k = 10)
section RT
variable {ev : mjT} {lv : Nat} {h : mjS} {tb : Nat → Int32} {tl p : Nat}
theorem rx_mark (E : mjFix ev) (hs : rSh h) (w9 : mI h 243 9 = nI 0) (k a : Nat) : mjCall ev 145 lv [.ref 243, .int (nI k), .int (nI a)] h = some (.int (nI 0), pI h 243 9 (nI (1 + 8 * a + k))) := by
  show ev 145 lv 0 [.ref 243, .int (nI k), .int (nI a)] [] h = _
  rw [e_145_0 E]
  repeat (first | (apply ifT; focus ((try simp (disch := omega) only [hs.k, w9, ofNat_nI, i_lit, mI_pI, mK_pI, mN_pI, mR_pI, nI_ltI, nI_eq, nI_add, nI_mul, mjIn_nI, nI_clamp, neg1_lt0, if_pos, if_neg, if_true, if_false, Bool.false_eq_true, and_true, true_and, and_false, false_and, mI_pL, mK_pL, mN_pL, mR_pL, mL_pL, mL_pI, mI_pR, mL_pR, mK_pR, mN_pR, mR_pR, mI_pC, mL_pC, mK_pC, mN_pC, mR_pC]) <;> first | omega | decide)) | (apply ifF; focus ((try simp (disch := omega) only [hs.k, w9, ofNat_nI, i_lit, mI_pI, mK_pI, mN_pI, mR_pI, nI_ltI, nI_eq, nI_add, nI_mul, mjIn_nI, nI_clamp, neg1_lt0, if_pos, if_neg, if_true, if_false, Bool.false_eq_true, and_true, true_and, and_false, false_and, mI_pL, mK_pL, mN_pL, mR_pL, mL_pL, mL_pI, mI_pR, mL_pR, mK_pR, mN_pR, mR_pR, mI_pC, mL_pC, mK_pC, mN_pC, mR_pC]) <;> first | omega | decide)) | (apply stI; focus ((try simp (disch := omega) only [hs.k, w9, ofNat_nI, i_lit, mI_pI, mK_pI, mN_pI, mR_pI, nI_ltI, nI_eq, nI_add, nI_mul, mjIn_nI, nI_clamp, neg1_lt0, if_pos, if_neg, if_true, if_false, Bool.false_eq_true, and_true, true_and, and_false, false_and, mI_pL, mK_pL, mN_pL, mR_pL, mL_pL, mL_pI, mI_pR, mL_pR, mK_pR, mN_pR, mR_pR, mI_pC, mL_pC, mK_pC, mN_pC, mR_pC]) <;> rfl)) | (apply stV; focus ((try simp (disch := omega) only [hs.k, w9, ofNat_nI, i_lit, mI_pI, mK_pI, mN_pI, mR_pI, nI_ltI, nI_eq, nI_add, nI_mul, mjIn_nI, nI_clamp, neg1_lt0, if_pos, if_neg, if_true, if_false, Bool.false_eq_true, and_true, true_and, and_false, false_and, mI_pL, mK_pL, mN_pL, mR_pL, mL_pL, mL_pI, mI_pR, mL_pR, mK_pR, mN_pR, mR_pR, mI_pC, mL_pC, mK_pC, mN_pC, mR_pC]) <;> rfl)) | (apply stL; focus ((try simp (disch := omega) only [hs.k, w9, ofNat_nI, i_lit, mI_pI, mK_pI, mN_pI, mR_pI, nI_ltI, nI_eq, nI_add, nI_mul, mjIn_nI, nI_clamp, neg1_lt0, if_pos, if_neg, if_true, if_false, Bool.false_eq_true, and_true, true_and, and_false, false_and, mI_pL, mK_pL, mN_pL, mR_pL, mL_pL, mL_pI, mI_pR, mL_pR, mK_pR, mN_pR, mR_pR, mI_pC, mL_pC, mK_pC, mN_pC, mR_pC]) <;> rfl)) | (apply stA; focus ((try simp (disch := omega) only [hs.k, w9, ofNat_nI, i_lit, mI_pI, mK_pI, mN_pI, mR_pI, nI_ltI, nI_eq, nI_add, nI_mul, mjIn_nI, nI_clamp, neg1_lt0, if_pos, if_neg, if_true, if_false, Bool.false_eq_true, and_true, true_and, and_false, false_and, mI_pL, mK_pL, mN_pL, mR_pL, mL_pL, mL_pI, mI_pR, mL_pR, mK_pR, mN_pR, mR_pR, mI_pC, mL_pC, mK_pC, mN_pC, mR_pC]) <;> rfl)))
  try simp (disch := omega) only [hs.k, w9, ofNat_nI, i_lit, mI_pI, mK_pI, mN_pI, mR_pI, nI_ltI, nI_eq, nI_add, nI_mul, mjIn_nI, nI_clamp, neg1_lt0, if_pos, if_neg, if_true, if_false, Bool.false_eq_true, and_true, true_and, and_false, false_and, mI_pL, mK_pL, mN_pL, mR_pL, mL_pL, mL_pI, mI_pR, mL_pR, mK_pR, mN_pR, mR_pR, mI_pC, mL_pC, mK_pC, mN_pC, mR_pC]
theorem rx_in (E : mjFix ev) (x a b : Int32) : mjCall ev 139 lv [.long x.toInt64, .long a.toInt64, .long b.toInt64] h = some (.int (if a.toInt ≤ x.toInt ∧ x.toInt ≤ b.toInt then nI 1 else nI 0), h) := by
  show ev 139 lv 0 [.long x.toInt64, mjD, .long a.toInt64, mjD, .long b.toInt64, mjD] [] h = _
  have l1 : x.toInt64 < a.toInt64 ↔ x.toInt < a.toInt := by rw [Int64.lt_iff_toInt_lt, Int32.toInt_toInt64, Int32.toInt_toInt64]
  have l2 : b.toInt64 < x.toInt64 ↔ b.toInt < x.toInt := by rw [Int64.lt_iff_toInt_lt, Int32.toInt_toInt64, Int32.toInt_toInt64]
  rw [e_139_0 E]
  by_cases y1 : x.toInt < a.toInt
  · rw [if_neg (show ¬ (a.toInt ≤ x.toInt ∧ x.toInt ≤ b.toInt) by omega)]
    exact ifT ((cmp_lt _ _).mpr (l1.mpr y1)) rfl
  · refine ifF (fun z => y1 (l1.mp ((cmp_lt _ _).mp z))) ?_
    by_cases y2 : b.toInt < x.toInt
    · rw [if_neg (show ¬ (a.toInt ≤ x.toInt ∧ x.toInt ≤ b.toInt) by omega)]
      exact ifT ((cmp_gt _ _).mpr (l2.mpr y2)) rfl
    · rw [if_pos (show a.toInt ≤ x.toInt ∧ x.toInt ≤ b.toInt by omega)]
      exact ifF (fun z => y2 (l2.mp ((cmp_gt _ _).mp z))) rfl
/-- how the reading of a number ends -/
def RNr (tb : Nat → Int32) (tl : Nat) (h : mjS) (X : mjO) (r : Nat ⊕ (Nat × List tok)) : Prop := match r with
  | .inl f => ∃ h', X = some (.int (nI 0), h') ∧ Fr FNm h h' ∧ mI h' 243 9 = nI f
  | .inr v => ∃ h' p', X = some (.int (nI 1), h') ∧ Fr FNm h h' ∧ Rs h' tb tl p' ∧ tkp tb tl p' = v.2 ∧ mI h' 243 10 = nI v.1 ∧ mI h' 243 9 = nI 0
theorem pl_tkp (q : Rn h tb tl p) : pl tl (tkp tb tl p) = p := by
  by_cases y : p < tl
  · rw [tkp_tok y (q.2 y)]; rfl
  · have := q.1.ple
    rw [show p = tl by omega, tkp_end]; rfl
theorem rx_num (E : mjFix ev) (q : Rs h tb tl p) (w9 : mI h 243 9 = nI 0) {lo : Nat} (hlo : lo < 100) (mo : Int32) : RNr tb tl h (mjCall ev 152 lv [.ref 243, .int (nI lo), .int mo] h) (numF tl lo mo.toInt (tkp tb tl p)) := by
  obtain ⟨h1, p1, e1, f1, q1, t1⟩ := rx_see (lv := lv) (tb := tb) E (tl - p) p h (by have := q.ple; omega) q
  have hs := q.1
  have hs1 := q1.1.1
  have l4 := q.tl400
  have pl1 := q1.1.ple
  have n8 := q1.1.2.2.2.1
  have w1 : mI h1 243 9 = nI 0 := by rw [f1.I (by unfold FPo; omega)]; exact w9
  have f1' : Fr FNm h h1 := f1.mono (fun x k hx => by unfold FPo at hx; unfold FNm; omega)
  have ed := rx_dgt (lv := lv) E q1.1 (show p1 < 1000 by omega)
  have pk := pl_tkp q1
  rw [t1] at pk
  have ef : mjCall ev 152 lv [.ref 243, .int (nI lo), .int mo] h = ev 152 lv 0 [.ref 243, .int (nI lo), .int mo, mjD, mjD] [] h := rfl
  rw [ef, e_152_0 E]
  by_cases y : p1 < tl ∧ dgt (tb p1) = true
  · rw [if_pos y] at ed
    have tt := tkp_tok y.1 (q1.2 y.1)
    rw [t1] at tt
    have k3 : kd (tkp tb tl p) = 3 := by rw [tt]; exact kiT3.mpr y.2
    have nl : ¬ ltr (tb p1) = true := fun z => by have := ltr_dgt z; rw [this] at y; exact Bool.noConfusion y.2
    have g := ndT_ge (tb := tb) y.1
    obtain ⟨ad, as⟩ := ndT_dgt2 y.1 y.2
    have va' : va (tkp tb tl p) = vaT tb tl p1 := by rw [tt]; rfl
    have ta' : (tkp tb tl p).tail = tkp tb tl (ndT tb tl p1) := by rw [tt]; rfl
    -- the digits
    have at_ : ∀ (m j : Nat) (h2 : mjS), j + m = ndT tb tl p1 - p1 → Fr FNm h1 h2 → Rs h2 tb tl (p1 + j) → mI h2 243 9 = nI 0 → RNr tb tl h2 (ev 152 lv 34 [.ref 243, .int (nI lo), .int mo, .int (nI p1), .int (nI (dv tb (if j < 5 then j else 5) p1 0))] [] h2) (numF tl lo mo.toInt (tkp tb tl p)) := by
      intro m
      induction m with
      | zero =>
        intro j h2 hj f2 q2 w2
        have hs2 := q2.1
        have n82 := q2.2.2.2.1
        have ej : p1 + j = ndT tb tl p1 := by omega
        have ed2 := rx_dgt (lv := lv) E q2 (show p1 + j < 1000 by omega)
        rw [ej, if_neg as] at ed2
        rw [ej] at n82 q2
        have sb : nI (ndT tb tl p1) - nI p1 = nI (ndT tb tl p1 - p1) := nI_sub (by omega)
        unfold numF
        rw [if_pos k3, va', pk]
        by_cases y5 : 5 < ndT tb tl p1 - p1
        · have v0 : vaT tb tl p1 = none := by unfold vaT; rw [if_pos y.2, if_pos y5]
          rw [v0, show (if j < 5 then j else 5) = 5 from if_neg (by omega)]
          have f3 : Fr FNm h2 (pI h2 243 10 (nI (dv tb 5 p1 0))) := Fr.pI (by unfold FNm; omega)
          have m3 := rx_mark (lv := lv) E (f3.rSh hs2) (by rw [pI_nk (by omega)]; exact w2) 1 p1
          refine ⟨_, ?_, f3.tr (Fr.pI (by unfold FNm; omega)), pI_at⟩
          rw [e_152_34 E]
          repeat (first | (apply ifT; focus ((try simp (disch := omega) only [hs2.k, n82, ed2, sb, m3, ofNat_nI, i_lit, mI_pI, mK_pI, mN_pI, mR_pI, nI_ltI, nI_eq, nI_add, nI_mul, mjIn_nI, nI_clamp, neg1_lt0, if_pos, if_neg, if_true, if_false, Bool.false_eq_true, and_true, true_and, and_false, false_and, mI_pL, mK_pL, mN_pL, mR_pL, mL_pL, mL_pI, mI_pR, mL_pR, mK_pR, mN_pR, mR_pR, mI_pC, mL_pC, mK_pC, mN_pC, mR_pC]) <;> first | omega | decide)) | (apply ifF; focus ((try simp (disch := omega) only [hs2.k, n82, ed2, sb, m3, ofNat_nI, i_lit, mI_pI, mK_pI, mN_pI, mR_pI, nI_ltI, nI_eq, nI_add, nI_mul, mjIn_nI, nI_clamp, neg1_lt0, if_pos, if_neg, if_true, if_false, Bool.false_eq_true, and_true, true_and, and_false, false_and, mI_pL, mK_pL, mN_pL, mR_pL, mL_pL, mL_pI, mI_pR, mL_pR, mK_pR, mN_pR, mR_pR, mI_pC, mL_pC, mK_pC, mN_pC, mR_pC]) <;> first | omega | decide)) | (apply stI; focus ((try simp (disch := omega) only [hs2.k, n82, ed2, sb, m3, ofNat_nI, i_lit, mI_pI, mK_pI, mN_pI, mR_pI, nI_ltI, nI_eq, nI_add, nI_mul, mjIn_nI, nI_clamp, neg1_lt0, if_pos, if_neg, if_true, if_false, Bool.false_eq_true, and_true, true_and, and_false, false_and, mI_pL, mK_pL, mN_pL, mR_pL, mL_pL, mL_pI, mI_pR, mL_pR, mK_pR, mN_pR, mR_pR, mI_pC, mL_pC, mK_pC, mN_pC, mR_pC]) <;> rfl)) | (apply stV; focus ((try simp (disch := omega) only [hs2.k, n82, ed2, sb, m3, ofNat_nI, i_lit, mI_pI, mK_pI, mN_pI, mR_pI, nI_ltI, nI_eq, nI_add, nI_mul, mjIn_nI, nI_clamp, neg1_lt0, if_pos, if_neg, if_true, if_false, Bool.false_eq_true, and_true, true_and, and_false, false_and, mI_pL, mK_pL, mN_pL, mR_pL, mL_pL, mL_pI, mI_pR, mL_pR, mK_pR, mN_pR, mR_pR, mI_pC, mL_pC, mK_pC, mN_pC, mR_pC]) <;> rfl)) | (apply stL; focus ((try simp (disch := omega) only [hs2.k, n82, ed2, sb, m3, ofNat_nI, i_lit, mI_pI, mK_pI, mN_pI, mR_pI, nI_ltI, nI_eq, nI_add, nI_mul, mjIn_nI, nI_clamp, neg1_lt0, if_pos, if_neg, if_true, if_false, Bool.false_eq_true, and_true, true_and, and_false, false_and, mI_pL, mK_pL, mN_pL, mR_pL, mL_pL, mL_pI, mI_pR, mL_pR, mK_pR, mN_pR, mR_pR, mI_pC, mL_pC, mK_pC, mN_pC, mR_pC]) <;> rfl)) | (apply stA; focus ((try simp (disch := omega) only [hs2.k, n82, ed2, sb, m3, ofNat_nI, i_lit, mI_pI, mK_pI, mN_pI, mR_pI, nI_ltI, nI_eq, nI_add, nI_mul, mjIn_nI, nI_clamp, neg1_lt0, if_pos, if_neg, if_true, if_false, Bool.false_eq_true, and_true, true_and, and_false, false_and, mI_pL, mK_pL, mN_pL, mR_pL, mL_pL, mL_pI, mI_pR, mL_pR, mK_pR, mN_pR, mR_pR, mI_pC, mL_pC, mK_pC, mN_pC, mR_pC]) <;> rfl)))
          try simp (disch := omega) only [hs2.k, n82, ed2, sb, m3, ofNat_nI, i_lit, mI_pI, mK_pI, mN_pI, mR_pI, nI_ltI, nI_eq, nI_add, nI_mul, mjIn_nI, nI_clamp, neg1_lt0, if_pos, if_neg, if_true, if_false, Bool.false_eq_true, and_true, true_and, and_false, false_and, mI_pL, mK_pL, mN_pL, mR_pL, mL_pL, mL_pI, mI_pR, mL_pR, mK_pR, mN_pR, mR_pR, mI_pC, mL_pC, mK_pC, mN_pC, mR_pC]
        · have v0 : vaT tb tl p1 = some (dv tb (ndT tb tl p1 - p1) p1 0) := by unfold vaT; rw [if_pos y.2, if_neg y5]
          rw [v0]
          show RNr tb tl h2 _ (if lo ≤ dv tb (ndT tb tl p1 - p1) p1 0 ∧ ((dv tb (ndT tb tl p1 - p1) p1 0 : Nat) : Int) ≤ mo.toInt then .inr (dv tb (ndT tb tl p1 - p1) p1 0, (tkp tb tl p).tail) else .inl (1 + 8 * p1 + 1))
          have vl := vaT_lt y.1 _ v0
          have ej5 : (if j < 5 then j else 5) = ndT tb tl p1 - p1 := by split <;> omega
          rw [ej5]
          have f3 : Fr FNm h2 (pI h2 243 10 (nI (dv tb (ndT tb tl p1 - p1) p1 0))) := Fr.pI (by unfold FNm; omega)
          have ei := rx_in (lv := lv) (h := pI h2 243 10 (nI (dv tb (ndT tb tl p1 - p1) p1 0))) E (nI (dv tb (ndT tb tl p1 - p1) p1 0)) (nI lo) mo
          rw [nI_toInt (show lo < 2 ^ 31 by omega), nI_toInt (show dv tb (ndT tb tl p1 - p1) p1 0 < 2 ^ 31 by omega)] at ei
          by_cases yr : lo ≤ dv tb (ndT tb tl p1 - p1) p1 0 ∧ ((dv tb (ndT tb tl p1 - p1) p1 0 : Nat) : Int) ≤ mo.toInt
          · rw [if_pos (by omega)] at ei
            rw [if_pos yr]
            refine ⟨_, ndT tb tl p1, ?_, f3, q2.fr (F := fun a k => a = 243 ∧ k = 10) (Fr.pI ⟨rfl, rfl⟩) ⟨by omega, by omega, fun k => by omega⟩, ta'.symm, pI_at, by rw [pI_nk (by omega)]; exact w2⟩
            rw [e_152_34 E]
            repeat (first | (apply ifT; focus ((try simp (disch := omega) only [hs2.k, n82, ed2, sb, ei, ofNat_nI, i_lit, mI_pI, mK_pI, mN_pI, mR_pI, nI_ltI, nI_eq, nI_add, nI_mul, mjIn_nI, nI_clamp, neg1_lt0, if_pos, if_neg, if_true, if_false, Bool.false_eq_true, and_true, true_and, and_false, false_and, mI_pL, mK_pL, mN_pL, mR_pL, mL_pL, mL_pI, mI_pR, mL_pR, mK_pR, mN_pR, mR_pR, mI_pC, mL_pC, mK_pC, mN_pC, mR_pC]) <;> first | omega | decide)) | (apply ifF; focus ((try simp (disch := omega) only [hs2.k, n82, ed2, sb, ei, ofNat_nI, i_lit, mI_pI, mK_pI, mN_pI, mR_pI, nI_ltI, nI_eq, nI_add, nI_mul, mjIn_nI, nI_clamp, neg1_lt0, if_pos, if_neg, if_true, if_false, Bool.false_eq_true, and_true, true_and, and_false, false_and, mI_pL, mK_pL, mN_pL, mR_pL, mL_pL, mL_pI, mI_pR, mL_pR, mK_pR, mN_pR, mR_pR, mI_pC, mL_pC, mK_pC, mN_pC, mR_pC]) <;> first | omega | decide)) | (apply stI; focus ((try simp (disch := omega) only [hs2.k, n82, ed2, sb, ei, ofNat_nI, i_lit, mI_pI, mK_pI, mN_pI, mR_pI, nI_ltI, nI_eq, nI_add, nI_mul, mjIn_nI, nI_clamp, neg1_lt0, if_pos, if_neg, if_true, if_false, Bool.false_eq_true, and_true, true_and, and_false, false_and, mI_pL, mK_pL, mN_pL, mR_pL, mL_pL, mL_pI, mI_pR, mL_pR, mK_pR, mN_pR, mR_pR, mI_pC, mL_pC, mK_pC, mN_pC, mR_pC]) <;> rfl)) | (apply stV; focus ((try simp (disch := omega) only [hs2.k, n82, ed2, sb, ei, ofNat_nI, i_lit, mI_pI, mK_pI, mN_pI, mR_pI, nI_ltI, nI_eq, nI_add, nI_mul, mjIn_nI, nI_clamp, neg1_lt0, if_pos, if_neg, if_true, if_false, Bool.false_eq_true, and_true, true_and, and_false, false_and, mI_pL, mK_pL, mN_pL, mR_pL, mL_pL, mL_pI, mI_pR, mL_pR, mK_pR, mN_pR, mR_pR, mI_pC, mL_pC, mK_pC, mN_pC, mR_pC]) <;> rfl)) | (apply stL; focus ((try simp (disch := omega) only [hs2.k, n82, ed2, sb, ei, ofNat_nI, i_lit, mI_pI, mK_pI, mN_pI, mR_pI, nI_ltI, nI_eq, nI_add, nI_mul, mjIn_nI, nI_clamp, neg1_lt0, if_pos, if_neg, if_true, if_false, Bool.false_eq_true, and_true, true_and, and_false, false_and, mI_pL, mK_pL, mN_pL, mR_pL, mL_pL, mL_pI, mI_pR, mL_pR, mK_pR, mN_pR, mR_pR, mI_pC, mL_pC, mK_pC, mN_pC, mR_pC]) <;> rfl)) | (apply stA; focus ((try simp (disch := omega) only [hs2.k, n82, ed2, sb, ei, ofNat_nI, i_lit, mI_pI, mK_pI, mN_pI, mR_pI, nI_ltI, nI_eq, nI_add, nI_mul, mjIn_nI, nI_clamp, neg1_lt0, if_pos, if_neg, if_true, if_false, Bool.false_eq_true, and_true, true_and, and_false, false_and, mI_pL, mK_pL, mN_pL, mR_pL, mL_pL, mL_pI, mI_pR, mL_pR, mK_pR, mN_pR, mR_pR, mI_pC, mL_pC, mK_pC, mN_pC, mR_pC]) <;> rfl)))
            try simp (disch := omega) only [hs2.k, n82, ed2, sb, ei, ofNat_nI, i_lit, mI_pI, mK_pI, mN_pI, mR_pI, nI_ltI, nI_eq, nI_add, nI_mul, mjIn_nI, nI_clamp, neg1_lt0, if_pos, if_neg, if_true, if_false, Bool.false_eq_true, and_true, true_and, and_false, false_and, mI_pL, mK_pL, mN_pL, mR_pL, mL_pL, mL_pI, mI_pR, mL_pR, mK_pR, mN_pR, mR_pR, mI_pC, mL_pC, mK_pC, mN_pC, mR_pC]
          · rw [if_neg (by omega)] at ei
            rw [if_neg yr]
            have m3 := rx_mark (lv := lv) E (f3.rSh hs2) (by rw [pI_nk (by omega)]; exact w2) 1 p1
            refine ⟨_, ?_, f3.tr (Fr.pI (by unfold FNm; omega)), pI_at⟩
            rw [e_152_34 E]
            repeat (first | (apply ifT; focus ((try simp (disch := omega) only [hs2.k, n82, ed2, sb, ei, m3, ofNat_nI, i_lit, mI_pI, mK_pI, mN_pI, mR_pI, nI_ltI, nI_eq, nI_add, nI_mul, mjIn_nI, nI_clamp, neg1_lt0, if_pos, if_neg, if_true, if_false, Bool.false_eq_true, and_true, true_and, and_false, false_and, mI_pL, mK_pL, mN_pL, mR_pL, mL_pL, mL_pI, mI_pR, mL_pR, mK_pR, mN_pR, mR_pR, mI_pC, mL_pC, mK_pC, mN_pC, mR_pC]) <;> first | omega | decide)) | (apply ifF; focus ((try simp (disch := omega) only [hs2.k, n82, ed2, sb, ei, m3, ofNat_nI, i_lit, mI_pI, mK_pI, mN_pI, mR_pI, nI_ltI, nI_eq, nI_add, nI_mul, mjIn_nI, nI_clamp, neg1_lt0, if_pos, if_neg, if_true, if_false, Bool.false_eq_true, and_true, true_and, and_false, false_and, mI_pL, mK_pL, mN_pL, mR_pL, mL_pL, mL_pI, mI_pR, mL_pR, mK_pR, mN_pR, mR_pR, mI_pC, mL_pC, mK_pC, mN_pC, mR_pC]) <;> first | omega | decide)) | (apply stI; focus ((try simp (disch := omega) only [hs2.k, n82, ed2, sb, ei, m3, ofNat_nI, i_lit, mI_pI, mK_pI, mN_pI, mR_pI, nI_ltI, nI_eq, nI_add, nI_mul, mjIn_nI, nI_clamp, neg1_lt0, if_pos, if_neg, if_true, if_false, Bool.false_eq_true, and_true, true_and, and_false, false_and, mI_pL, mK_pL, mN_pL, mR_pL, mL_pL, mL_pI, mI_pR, mL_pR, mK_pR, mN_pR, mR_pR, mI_pC, mL_pC, mK_pC, mN_pC, mR_pC]) <;> rfl)) | (apply stV; focus ((try simp (disch := omega) only [hs2.k, n82, ed2, sb, ei, m3, ofNat_nI, i_lit, mI_pI, mK_pI, mN_pI, mR_pI, nI_ltI, nI_eq, nI_add, nI_mul, mjIn_nI, nI_clamp, neg1_lt0, if_pos, if_neg, if_true, if_false, Bool.false_eq_true, and_true, true_and, and_false, false_and, mI_pL, mK_pL, mN_pL, mR_pL, mL_pL, mL_pI, mI_pR, mL_pR, mK_pR, mN_pR, mR_pR, mI_pC, mL_pC, mK_pC, mN_pC, mR_pC]) <;> rfl)) | (apply stL; focus ((try simp (disch := omega) only [hs2.k, n82, ed2, sb, ei, m3, ofNat_nI, i_lit, mI_pI, mK_pI, mN_pI, mR_pI, nI_ltI, nI_eq, nI_add, nI_mul, mjIn_nI, nI_clamp, neg1_lt0, if_pos, if_neg, if_true, if_false, Bool.false_eq_true, and_true, true_and, and_false, false_and, mI_pL, mK_pL, mN_pL, mR_pL, mL_pL, mL_pI, mI_pR, mL_pR, mK_pR, mN_pR, mR_pR, mI_pC, mL_pC, mK_pC, mN_pC, mR_pC]) <;> rfl)) | (apply stA; focus ((try simp (disch := omega) only [hs2.k, n82, ed2, sb, ei, m3, ofNat_nI, i_lit, mI_pI, mK_pI, mN_pI, mR_pI, nI_ltI, nI_eq, nI_add, nI_mul, mjIn_nI, nI_clamp, neg1_lt0, if_pos, if_neg, if_true, if_false, Bool.false_eq_true, and_true, true_and, and_false, false_and, mI_pL, mK_pL, mN_pL, mR_pL, mL_pL, mL_pI, mI_pR, mL_pR, mK_pR, mN_pR, mR_pR, mI_pC, mL_pC, mK_pC, mN_pC, mR_pC]) <;> rfl)))
            try simp (disch := omega) only [hs2.k, n82, ed2, sb, ei, m3, ofNat_nI, i_lit, mI_pI, mK_pI, mN_pI, mR_pI, nI_ltI, nI_eq, nI_add, nI_mul, mjIn_nI, nI_clamp, neg1_lt0, if_pos, if_neg, if_true, if_false, Bool.false_eq_true, and_true, true_and, and_false, false_and, mI_pL, mK_pL, mN_pL, mR_pL, mL_pL, mL_pI, mI_pR, mL_pR, mK_pR, mN_pR, mR_pR, mI_pC, mL_pC, mK_pC, mN_pC, mR_pC]
      | succ m ih =>
        intro j h2 hj f2 q2 w2
        have hs2 := q2.1
        have n82 := q2.2.2.2.1
        have ed2 := rx_dgt (lv := lv) E q2 (show p1 + j < 1000 by omega)
        have dj := ad (p1 + j) (by omega) (by omega)
        rw [if_pos ⟨by omega, dj⟩] at ed2
        have dd := dgt_nat dj
        have d : mI h2 244 (p1 + j) = nI (48 + dn (tb (p1 + j))) := by rw [q2.2.1.2 (p1 + j) (by omega)]; exact dd.1
        have sb : nI (p1 + j) - nI p1 = nI j := by rw [nI_sub (by omega)]; congr 1; omega
        have q3 := q2.to (p' := p1 + j + 1) (by omega)
        have f3 : Fr FNm h2 (pI h2 243 8 (nI (p1 + j + 1))) := Fr.pI (by unfold FNm; omega)
        have i1 := ih (j + 1) _ (by omega) (f2.tr f3) q3 (by rw [pI_nk (by omega)]; exact w2)
        have back : ∀ {X Y : mjO} {r : Nat ⊕ (Nat × List tok)}, X = Y → RNr tb tl (pI h2 243 8 (nI (p1 + j + 1))) Y r → RNr tb tl h2 X r := by
          intro X Y r e z
          cases r with
          | inl f => obtain ⟨h', a, b, c⟩ := z; exact ⟨h', e.trans a, f3.tr b, c⟩
          | inr f => obtain ⟨h', p', a, b, c⟩ := z; exact ⟨h', p', e.trans a, f3.tr b, c⟩
        refine back ?_ i1
        rw [e_152_34 E]
        by_cases y5 : j < 5
        · have sn := dv_snoc tb j p1 0
          rw [if_pos y5, show (if j + 1 < 5 then j + 1 else 5) = j + 1 by split <;> omega, sn]
          have s48 : nI (10 * dv tb j p1 0 + (48 + dn (tb (p1 + j)))) - nI 48 = nI (10 * dv tb j p1 0 + dn (tb (p1 + j))) := by rw [nI_sub (by omega)]; congr 1; omega
          repeat (first | (apply ifT; focus ((try simp (disch := omega) only [hs2.k, n82, ed2, sb, hs2.r_tape, hs2.k_tape, hs2.n_tape, d, s48, ofNat_nI, i_lit, mI_pI, mK_pI, mN_pI, mR_pI, nI_ltI, nI_eq, nI_add, nI_mul, mjIn_nI, nI_clamp, neg1_lt0, if_pos, if_neg, if_true, if_false, Bool.false_eq_true, and_true, true_and, and_false, false_and, mI_pL, mK_pL, mN_pL, mR_pL, mL_pL, mL_pI, mI_pR, mL_pR, mK_pR, mN_pR, mR_pR, mI_pC, mL_pC, mK_pC, mN_pC, mR_pC]) <;> first | omega | decide)) | (apply ifF; focus ((try simp (disch := omega) only [hs2.k, n82, ed2, sb, hs2.r_tape, hs2.k_tape, hs2.n_tape, d, s48, ofNat_nI, i_lit, mI_pI, mK_pI, mN_pI, mR_pI, nI_ltI, nI_eq, nI_add, nI_mul, mjIn_nI, nI_clamp, neg1_lt0, if_pos, if_neg, if_true, if_false, Bool.false_eq_true, and_true, true_and, and_false, false_and, mI_pL, mK_pL, mN_pL, mR_pL, mL_pL, mL_pI, mI_pR, mL_pR, mK_pR, mN_pR, mR_pR, mI_pC, mL_pC, mK_pC, mN_pC, mR_pC]) <;> first | omega | decide)) | (apply stI; focus ((try simp (disch := omega) only [hs2.k, n82, ed2, sb, hs2.r_tape, hs2.k_tape, hs2.n_tape, d, s48, ofNat_nI, i_lit, mI_pI, mK_pI, mN_pI, mR_pI, nI_ltI, nI_eq, nI_add, nI_mul, mjIn_nI, nI_clamp, neg1_lt0, if_pos, if_neg, if_true, if_false, Bool.false_eq_true, and_true, true_and, and_false, false_and, mI_pL, mK_pL, mN_pL, mR_pL, mL_pL, mL_pI, mI_pR, mL_pR, mK_pR, mN_pR, mR_pR, mI_pC, mL_pC, mK_pC, mN_pC, mR_pC]) <;> rfl)) | (apply stV; focus ((try simp (disch := omega) only [hs2.k, n82, ed2, sb, hs2.r_tape, hs2.k_tape, hs2.n_tape, d, s48, ofNat_nI, i_lit, mI_pI, mK_pI, mN_pI, mR_pI, nI_ltI, nI_eq, nI_add, nI_mul, mjIn_nI, nI_clamp, neg1_lt0, if_pos, if_neg, if_true, if_false, Bool.false_eq_true, and_true, true_and, and_false, false_and, mI_pL, mK_pL, mN_pL, mR_pL, mL_pL, mL_pI, mI_pR, mL_pR, mK_pR, mN_pR, mR_pR, mI_pC, mL_pC, mK_pC, mN_pC, mR_pC]) <;> rfl)) | (apply stL; focus ((try simp (disch := omega) only [hs2.k, n82, ed2, sb, hs2.r_tape, hs2.k_tape, hs2.n_tape, d, s48, ofNat_nI, i_lit, mI_pI, mK_pI, mN_pI, mR_pI, nI_ltI, nI_eq, nI_add, nI_mul, mjIn_nI, nI_clamp, neg1_lt0, if_pos, if_neg, if_true, if_false, Bool.false_eq_true, and_true, true_and, and_false, false_and, mI_pL, mK_pL, mN_pL, mR_pL, mL_pL, mL_pI, mI_pR, mL_pR, mK_pR, mN_pR, mR_pR, mI_pC, mL_pC, mK_pC, mN_pC, mR_pC]) <;> rfl)) | (apply stA; focus ((try simp (disch := omega) only [hs2.k, n82, ed2, sb, hs2.r_tape, hs2.k_tape, hs2.n_tape, d, s48, ofNat_nI, i_lit, mI_pI, mK_pI, mN_pI, mR_pI, nI_ltI, nI_eq, nI_add, nI_mul, mjIn_nI, nI_clamp, neg1_lt0, if_pos, if_neg, if_true, if_false, Bool.false_eq_true, and_true, true_and, and_false, false_and, mI_pL, mK_pL, mN_pL, mR_pL, mL_pL, mL_pI, mI_pR, mL_pR, mK_pR, mN_pR, mR_pR, mI_pC, mL_pC, mK_pC, mN_pC, mR_pC]) <;> rfl)))
          try simp (disch := omega) only [hs2.k, n82, ed2, sb, hs2.r_tape, hs2.k_tape, hs2.n_tape, d, s48, ofNat_nI, i_lit, mI_pI, mK_pI, mN_pI, mR_pI, nI_ltI, nI_eq, nI_add, nI_mul, mjIn_nI, nI_clamp, neg1_lt0, if_pos, if_neg, if_true, if_false, Bool.false_eq_true, and_true, true_and, and_false, false_and, mI_pL, mK_pL, mN_pL, mR_pL, mL_pL, mL_pI, mI_pR, mL_pR, mK_pR, mN_pR, mR_pR, mI_pC, mL_pC, mK_pC, mN_pC, mR_pC]
        · rw [if_neg y5, show (if j + 1 < 5 then j + 1 else 5) = 5 by split <;> omega]
          repeat (first | (apply ifT; focus ((try simp (disch := omega) only [hs2.k, n82, ed2, sb, ofNat_nI, i_lit, mI_pI, mK_pI, mN_pI, mR_pI, nI_ltI, nI_eq, nI_add, nI_mul, mjIn_nI, nI_clamp, neg1_lt0, if_pos, if_neg, if_true, if_false, Bool.false_eq_true, and_true, true_and, and_false, false_and, mI_pL, mK_pL, mN_pL, mR_pL, mL_pL, mL_pI, mI_pR, mL_pR, mK_pR, mN_pR, mR_pR, mI_pC, mL_pC, mK_pC, mN_pC, mR_pC]) <;> first | omega | decide)) | (apply ifF; focus ((try simp (disch := omega) only [hs2.k, n82, ed2, sb, ofNat_nI, i_lit, mI_pI, mK_pI, mN_pI, mR_pI, nI_ltI, nI_eq, nI_add, nI_mul, mjIn_nI, nI_clamp, neg1_lt0, if_pos, if_neg, if_true, if_false, Bool.false_eq_true, and_true, true_and, and_false, false_and, mI_pL, mK_pL, mN_pL, mR_pL, mL_pL, mL_pI, mI_pR, mL_pR, mK_pR, mN_pR, mR_pR, mI_pC, mL_pC, mK_pC, mN_pC, mR_pC]) <;> first | omega | decide)) | (apply stI; focus ((try simp (disch := omega) only [hs2.k, n82, ed2, sb, ofNat_nI, i_lit, mI_pI, mK_pI, mN_pI, mR_pI, nI_ltI, nI_eq, nI_add, nI_mul, mjIn_nI, nI_clamp, neg1_lt0, if_pos, if_neg, if_true, if_false, Bool.false_eq_true, and_true, true_and, and_false, false_and, mI_pL, mK_pL, mN_pL, mR_pL, mL_pL, mL_pI, mI_pR, mL_pR, mK_pR, mN_pR, mR_pR, mI_pC, mL_pC, mK_pC, mN_pC, mR_pC]) <;> rfl)) | (apply stV; focus ((try simp (disch := omega) only [hs2.k, n82, ed2, sb, ofNat_nI, i_lit, mI_pI, mK_pI, mN_pI, mR_pI, nI_ltI, nI_eq, nI_add, nI_mul, mjIn_nI, nI_clamp, neg1_lt0, if_pos, if_neg, if_true, if_false, Bool.false_eq_true, and_true, true_and, and_false, false_and, mI_pL, mK_pL, mN_pL, mR_pL, mL_pL, mL_pI, mI_pR, mL_pR, mK_pR, mN_pR, mR_pR, mI_pC, mL_pC, mK_pC, mN_pC, mR_pC]) <;> rfl)) | (apply stL; focus ((try simp (disch := omega) only [hs2.k, n82, ed2, sb, ofNat_nI, i_lit, mI_pI, mK_pI, mN_pI, mR_pI, nI_ltI, nI_eq, nI_add, nI_mul, mjIn_nI, nI_clamp, neg1_lt0, if_pos, if_neg, if_true, if_false, Bool.false_eq_true, and_true, true_and, and_false, false_and, mI_pL, mK_pL, mN_pL, mR_pL, mL_pL, mL_pI, mI_pR, mL_pR, mK_pR, mN_pR, mR_pR, mI_pC, mL_pC, mK_pC, mN_pC, mR_pC]) <;> rfl)) | (apply stA; focus ((try simp (disch := omega) only [hs2.k, n82, ed2, sb, ofNat_nI, i_lit, mI_pI, mK_pI, mN_pI, mR_pI, nI_ltI, nI_eq, nI_add, nI_mul, mjIn_nI, nI_clamp, neg1_lt0, if_pos, if_neg, if_true, if_false, Bool.false_eq_true, and_true, true_and, and_false, false_and, mI_pL, mK_pL, mN_pL, mR_pL, mL_pL, mL_pI, mI_pR, mL_pR, mK_pR, mN_pR, mR_pR, mI_pC, mL_pC, mK_pC, mN_pC, mR_pC]) <;> rfl)))
          try simp (disch := omega) only [hs2.k, n82, ed2, sb, ofNat_nI, i_lit, mI_pI, mK_pI, mN_pI, mR_pI, nI_ltI, nI_eq, nI_add, nI_mul, mjIn_nI, nI_clamp, neg1_lt0, if_pos, if_neg, if_true, if_false, Bool.false_eq_true, and_true, true_and, and_false, false_and, mI_pL, mK_pL, mN_pL, mR_pL, mL_pL, mL_pI, mI_pR, mL_pR, mK_pR, mN_pR, mR_pR, mI_pC, mL_pC, mK_pC, mN_pC, mR_pC]
    have i0 := at_ (ndT tb tl p1 - p1) 0 h1 (by omega) Fr.rf q1.1 w1
    have back : ∀ {X Y : mjO} {r : Nat ⊕ (Nat × List tok)}, X = Y → RNr tb tl h1 Y r → RNr tb tl h X r := by
      intro X Y r e z
      cases r with
      | inl f => obtain ⟨h', a, b, c⟩ := z; exact ⟨h', e.trans a, f1'.tr b, c⟩
      | inr f => obtain ⟨h', p', a, b, c⟩ := z; exact ⟨h', p', e.trans a, f1'.tr b, c⟩
    refine back ?_ i0
    have z0 : dv tb (if 0 < 5 then 0 else 5) p1 0 = 0 := rfl
    rw [z0]
    repeat (first | (apply ifT; focus ((try simp (disch := omega) only [hs.k, e1, hs1.k, n8, ed, ofNat_nI, i_lit, mI_pI, mK_pI, mN_pI, mR_pI, nI_ltI, nI_eq, nI_add, nI_mul, mjIn_nI, nI_clamp, neg1_lt0, if_pos, if_neg, if_true, if_false, Bool.false_eq_true, and_true, true_and, and_false, false_and, mI_pL, mK_pL, mN_pL, mR_pL, mL_pL, mL_pI, mI_pR, mL_pR, mK_pR, mN_pR, mR_pR, mI_pC, mL_pC, mK_pC, mN_pC, mR_pC]) <;> first | omega | decide)) | (apply ifF; focus ((try simp (disch := omega) only [hs.k, e1, hs1.k, n8, ed, ofNat_nI, i_lit, mI_pI, mK_pI, mN_pI, mR_pI, nI_ltI, nI_eq, nI_add, nI_mul, mjIn_nI, nI_clamp, neg1_lt0, if_pos, if_neg, if_true, if_false, Bool.false_eq_true, and_true, true_and, and_false, false_and, mI_pL, mK_pL, mN_pL, mR_pL, mL_pL, mL_pI, mI_pR, mL_pR, mK_pR, mN_pR, mR_pR, mI_pC, mL_pC, mK_pC, mN_pC, mR_pC]) <;> first | omega | decide)) | (apply stI; focus ((try simp (disch := omega) only [hs.k, e1, hs1.k, n8, ed, ofNat_nI, i_lit, mI_pI, mK_pI, mN_pI, mR_pI, nI_ltI, nI_eq, nI_add, nI_mul, mjIn_nI, nI_clamp, neg1_lt0, if_pos, if_neg, if_true, if_false, Bool.false_eq_true, and_true, true_and, and_false, false_and, mI_pL, mK_pL, mN_pL, mR_pL, mL_pL, mL_pI, mI_pR, mL_pR, mK_pR, mN_pR, mR_pR, mI_pC, mL_pC, mK_pC, mN_pC, mR_pC]) <;> rfl)) | (apply stV; focus ((try simp (disch := omega) only [hs.k, e1, hs1.k, n8, ed, ofNat_nI, i_lit, mI_pI, mK_pI, mN_pI, mR_pI, nI_ltI, nI_eq, nI_add, nI_mul, mjIn_nI, nI_clamp, neg1_lt0, if_pos, if_neg, if_true, if_false, Bool.false_eq_true, and_true, true_and, and_false, false_and, mI_pL, mK_pL, mN_pL, mR_pL, mL_pL, mL_pI, mI_pR, mL_pR, mK_pR, mN_pR, mR_pR, mI_pC, mL_pC, mK_pC, mN_pC, mR_pC]) <;> rfl)) | (apply stL; focus ((try simp (disch := omega) only [hs.k, e1, hs1.k, n8, ed, ofNat_nI, i_lit, mI_pI, mK_pI, mN_pI, mR_pI, nI_ltI, nI_eq, nI_add, nI_mul, mjIn_nI, nI_clamp, neg1_lt0, if_pos, if_neg, if_true, if_false, Bool.false_eq_true, and_true, true_and, and_false, false_and, mI_pL, mK_pL, mN_pL, mR_pL, mL_pL, mL_pI, mI_pR, mL_pR, mK_pR, mN_pR, mR_pR, mI_pC, mL_pC, mK_pC, mN_pC, mR_pC]) <;> rfl)) | (apply stA; focus ((try simp (disch := omega) only [hs.k, e1, hs1.k, n8, ed, ofNat_nI, i_lit, mI_pI, mK_pI, mN_pI, mR_pI, nI_ltI, nI_eq, nI_add, nI_mul, mjIn_nI, nI_clamp, neg1_lt0, if_pos, if_neg, if_true, if_false, Bool.false_eq_true, and_true, true_and, and_false, false_and, mI_pL, mK_pL, mN_pL, mR_pL, mL_pL, mL_pI, mI_pR, mL_pR, mK_pR, mN_pR, mR_pR, mI_pC, mL_pC, mK_pC, mN_pC, mR_pC]) <;> rfl)))
    try simp (disch := omega) only [hs.k, e1, hs1.k, n8, ed, ofNat_nI, i_lit, mI_pI, mK_pI, mN_pI, mR_pI, nI_ltI, nI_eq, nI_add, nI_mul, mjIn_nI, nI_clamp, neg1_lt0, if_pos, if_neg, if_true, if_false, Bool.false_eq_true, and_true, true_and, and_false, false_and, mI_pL, mK_pL, mN_pL, mR_pL, mL_pL, mL_pI, mI_pR, mL_pR, mK_pR, mN_pR, mR_pR, mI_pC, mL_pC, mK_pC, mN_pC, mR_pC]
  · rw [if_neg y] at ed
    have k3 : ¬ kd (tkp tb tl p) = 3 := by
      rw [← t1]
      by_cases y1 : p1 < tl
      · rw [tkp_tok y1 (q1.2 y1)]; exact fun z => y ⟨y1, kiT3.mp z⟩
      · rw [show p1 = tl by omega, tkp_end]; exact fun z => by have z : 1 = 3 := z; omega
    have m3 := rx_mark (lv := lv) E hs1 w1 0 p1
    unfold numF
    rw [if_neg k3, pk]
    refine ⟨_, ?_, f1'.tr (Fr.pI (by unfold FNm; omega)), pI_at⟩
    repeat (first | (apply ifT; focus ((try simp (disch := omega) only [hs.k, e1, hs1.k, n8, ed, m3, ofNat_nI, i_lit, mI_pI, mK_pI, mN_pI, mR_pI, nI_ltI, nI_eq, nI_add, nI_mul, mjIn_nI, nI_clamp, neg1_lt0, if_pos, if_neg, if_true, if_false, Bool.false_eq_true, and_true, true_and, and_false, false_and, mI_pL, mK_pL, mN_pL, mR_pL, mL_pL, mL_pI, mI_pR, mL_pR, mK_pR, mN_pR, mR_pR, mI_pC, mL_pC, mK_pC, mN_pC, mR_pC]) <;> first | omega | decide)) | (apply ifF; focus ((try simp (disch := omega) only [hs.k, e1, hs1.k, n8, ed, m3, ofNat_nI, i_lit, mI_pI, mK_pI, mN_pI, mR_pI, nI_ltI, nI_eq, nI_add, nI_mul, mjIn_nI, nI_clamp, neg1_lt0, if_pos, if_neg, if_true, if_false, Bool.false_eq_true, and_true, true_and, and_false, false_and, mI_pL, mK_pL, mN_pL, mR_pL, mL_pL, mL_pI, mI_pR, mL_pR, mK_pR, mN_pR, mR_pR, mI_pC, mL_pC, mK_pC, mN_pC, mR_pC]) <;> first | omega | decide)) | (apply stI; focus ((try simp (disch := omega) only [hs.k, e1, hs1.k, n8, ed, m3, ofNat_nI, i_lit, mI_pI, mK_pI, mN_pI, mR_pI, nI_ltI, nI_eq, nI_add, nI_mul, mjIn_nI, nI_clamp, neg1_lt0, if_pos, if_neg, if_true, if_false, Bool.false_eq_true, and_true, true_and, and_false, false_and, mI_pL, mK_pL, mN_pL, mR_pL, mL_pL, mL_pI, mI_pR, mL_pR, mK_pR, mN_pR, mR_pR, mI_pC, mL_pC, mK_pC, mN_pC, mR_pC]) <;> rfl)) | (apply stV; focus ((try simp (disch := omega) only [hs.k, e1, hs1.k, n8, ed, m3, ofNat_nI, i_lit, mI_pI, mK_pI, mN_pI, mR_pI, nI_ltI, nI_eq, nI_add, nI_mul, mjIn_nI, nI_clamp, neg1_lt0, if_pos, if_neg, if_true, if_false, Bool.false_eq_true, and_true, true_and, and_false, false_and, mI_pL, mK_pL, mN_pL, mR_pL, mL_pL, mL_pI, mI_pR, mL_pR, mK_pR, mN_pR, mR_pR, mI_pC, mL_pC, mK_pC, mN_pC, mR_pC]) <;> rfl)) | (apply stL; focus ((try simp (disch := omega) only [hs.k, e1, hs1.k, n8, ed, m3, ofNat_nI, i_lit, mI_pI, mK_pI, mN_pI, mR_pI, nI_ltI, nI_eq, nI_add, nI_mul, mjIn_nI, nI_clamp, neg1_lt0, if_pos, if_neg, if_true, if_false, Bool.false_eq_true, and_true, true_and, and_false, false_and, mI_pL, mK_pL, mN_pL, mR_pL, mL_pL, mL_pI, mI_pR, mL_pR, mK_pR, mN_pR, mR_pR, mI_pC, mL_pC, mK_pC, mN_pC, mR_pC]) <;> rfl)) | (apply stA; focus ((try simp (disch := omega) only [hs.k, e1, hs1.k, n8, ed, m3, ofNat_nI, i_lit, mI_pI, mK_pI, mN_pI, mR_pI, nI_ltI, nI_eq, nI_add, nI_mul, mjIn_nI, nI_clamp, neg1_lt0, if_pos, if_neg, if_true, if_false, Bool.false_eq_true, and_true, true_and, and_false, false_and, mI_pL, mK_pL, mN_pL, mR_pL, mL_pL, mL_pI, mI_pR, mL_pR, mK_pR, mN_pR, mR_pR, mI_pC, mL_pC, mK_pC, mN_pC, mR_pC]) <;> rfl)))
    try simp (disch := omega) only [hs.k, e1, hs1.k, n8, ed, m3, ofNat_nI, i_lit, mI_pI, mK_pI, mN_pI, mR_pI, nI_ltI, nI_eq, nI_add, nI_mul, mjIn_nI, nI_clamp, neg1_lt0, if_pos, if_neg, if_true, if_false, Bool.false_eq_true, and_true, true_and, and_false, false_and, mI_pL, mK_pL, mN_pL, mR_pL, mL_pL, mL_pI, mI_pR, mL_pR, mK_pR, mN_pR, mR_pR, mI_pC, mL_pC, mK_pC, mN_pC, mR_pC]
    try exact if_pos (Or.inl rfl)
end RT
