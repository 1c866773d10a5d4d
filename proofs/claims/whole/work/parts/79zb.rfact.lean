/-! the reference's reader of tests: facts, the whole test -/
section RQ
variable {ev : mjT} {lv : Nat} {tb : Nat → Int32} {tl t : Nat} {pre : List Nat}
theorem fx_cmp (E : mjFix ev) {h : mjS} {S : List Nat} {d : Nat} {s : rst} (q : RTo h tb tl t pre S d s) (n1 : kd s.1 ≠ 134) (n2 : kd s.1 ≠ 91) (hr : pre.length + s.2.1.length + s.1.length ≤ 400) (hl : s.1.length < 400) (w w' : Value) : FcR ev lv tb tl t pre S d h (FCx ev lv w w' h) (cmpF tl s) := by
  obtain ⟨q, st⟩ := q
  have hs := q.sh
  obtain ⟨h1, c, e1, f1, q1, cc⟩ := ro_see (lv := lv) E q
  have st1 : ST h1 S d := st.fr f1 ⟨⟨by unfold FPo; omega, by unfold FPo; omega⟩, fun k => by unfold FPo; omega⟩
  have hs1 := q1.o.sh
  obtain ⟨w0, w1, w2, w3, w4, w5, w6⟩ := W0
  have ew := rn_word (lv := lv) (k := 6) E q1 (by omega) w6
  rw [if_neg (by omega)] at ew
  have z : ¬ c = nI 91 := fun z => n2 ((cc.1 91 (by decide)).mp z)
  have r := rx_cmp (lv := lv) E q1.o hr hl
  have j : ev 163 lv 2 [.ref 243, .int (nI 1), w'] [] h = ev 163 lv 2 [.ref 243, .int (nI 0), .int c] [] h1 := by
    rw [e_163_2 E]
    repeat (first | (apply ifT; focus ((try simp (disch := omega) only [hs.k, e1, hs1.k, ew, z, ofNat_nI, i_lit, mI_pI, mK_pI, mN_pI, mR_pI, nI_ltI, nI_eq, nI_add, nI_mul, mjIn_nI, nI_clamp, neg1_lt0, if_pos, if_neg, if_true, if_false, Bool.false_eq_true, and_true, true_and, and_false, false_and, mI_pL, mK_pL, mN_pL, mR_pL, mL_pL, mL_pI, mI_pR, mL_pR, mK_pR, mN_pR, mR_pR, mI_pC, mL_pC, mK_pC, mN_pC, mR_pC]) <;> first | omega | decide)) | (apply ifF; focus ((try simp (disch := omega) only [hs.k, e1, hs1.k, ew, z, ofNat_nI, i_lit, mI_pI, mK_pI, mN_pI, mR_pI, nI_ltI, nI_eq, nI_add, nI_mul, mjIn_nI, nI_clamp, neg1_lt0, if_pos, if_neg, if_true, if_false, Bool.false_eq_true, and_true, true_and, and_false, false_and, mI_pL, mK_pL, mN_pL, mR_pL, mL_pL, mL_pI, mI_pR, mL_pR, mK_pR, mN_pR, mR_pR, mI_pC, mL_pC, mK_pC, mN_pC, mR_pC]) <;> first | omega | decide)) | (apply stI; focus ((try simp (disch := omega) only [hs.k, e1, hs1.k, ew, z, ofNat_nI, i_lit, mI_pI, mK_pI, mN_pI, mR_pI, nI_ltI, nI_eq, nI_add, nI_mul, mjIn_nI, nI_clamp, neg1_lt0, if_pos, if_neg, if_true, if_false, Bool.false_eq_true, and_true, true_and, and_false, false_and, mI_pL, mK_pL, mN_pL, mR_pL, mL_pL, mL_pI, mI_pR, mL_pR, mK_pR, mN_pR, mR_pR, mI_pC, mL_pC, mK_pC, mN_pC, mR_pC]) <;> rfl)) | (apply stV; focus ((try simp (disch := omega) only [hs.k, e1, hs1.k, ew, z, ofNat_nI, i_lit, mI_pI, mK_pI, mN_pI, mR_pI, nI_ltI, nI_eq, nI_add, nI_mul, mjIn_nI, nI_clamp, neg1_lt0, if_pos, if_neg, if_true, if_false, Bool.false_eq_true, and_true, true_and, and_false, false_and, mI_pL, mK_pL, mN_pL, mR_pL, mL_pL, mL_pI, mI_pR, mL_pR, mK_pR, mN_pR, mR_pR, mI_pC, mL_pC, mK_pC, mN_pC, mR_pC]) <;> rfl)) | (apply stL; focus ((try simp (disch := omega) only [hs.k, e1, hs1.k, ew, z, ofNat_nI, i_lit, mI_pI, mK_pI, mN_pI, mR_pI, nI_ltI, nI_eq, nI_add, nI_mul, mjIn_nI, nI_clamp, neg1_lt0, if_pos, if_neg, if_true, if_false, Bool.false_eq_true, and_true, true_and, and_false, false_and, mI_pL, mK_pL, mN_pL, mR_pL, mL_pL, mL_pI, mI_pR, mL_pR, mK_pR, mN_pR, mR_pR, mI_pC, mL_pC, mK_pC, mN_pC, mR_pC]) <;> rfl)) | (apply stA; focus ((try simp (disch := omega) only [hs.k, e1, hs1.k, ew, z, ofNat_nI, i_lit, mI_pI, mK_pI, mN_pI, mR_pI, nI_ltI, nI_eq, nI_add, nI_mul, mjIn_nI, nI_clamp, neg1_lt0, if_pos, if_neg, if_true, if_false, Bool.false_eq_true, and_true, true_and, and_false, false_and, mI_pL, mK_pL, mN_pL, mR_pL, mL_pL, mL_pI, mI_pR, mL_pR, mK_pR, mN_pR, mR_pR, mI_pC, mL_pC, mK_pC, mN_pC, mR_pC]) <;> rfl)))
    try simp (disch := omega) only [hs.k, e1, hs1.k, ew, z, ofNat_nI, i_lit, mI_pI, mK_pI, mN_pI, mR_pI, nI_ltI, nI_eq, nI_add, nI_mul, mjIn_nI, nI_clamp, neg1_lt0, if_pos, if_neg, if_true, if_false, Bool.false_eq_true, and_true, true_and, and_false, false_and, mI_pL, mK_pL, mN_pL, mR_pL, mL_pL, mL_pI, mI_pR, mL_pR, mK_pR, mN_pR, mR_pR, mI_pC, mL_pC, mK_pC, mN_pC, mR_pC]
  cases hc : cmpF tl s with
  | inl f =>
    rw [hc] at r
    obtain ⟨h2, e2, f2, w2⟩ := r
    have e163 : ev 163 lv 2 [.ref 243, .int (nI 1), w'] [] h = some (.int (nI 0), h2) := by
      rw [j, e_163_2 E]
      repeat (first | (apply ifT; focus ((try simp (disch := omega) only [hs1.k, e2, ofNat_nI, i_lit, mI_pI, mK_pI, mN_pI, mR_pI, nI_ltI, nI_eq, nI_add, nI_mul, mjIn_nI, nI_clamp, neg1_lt0, if_pos, if_neg, if_true, if_false, Bool.false_eq_true, and_true, true_and, and_false, false_and, mI_pL, mK_pL, mN_pL, mR_pL, mL_pL, mL_pI, mI_pR, mL_pR, mK_pR, mN_pR, mR_pR, mI_pC, mL_pC, mK_pC, mN_pC, mR_pC]) <;> first | omega | decide)) | (apply ifF; focus ((try simp (disch := omega) only [hs1.k, e2, ofNat_nI, i_lit, mI_pI, mK_pI, mN_pI, mR_pI, nI_ltI, nI_eq, nI_add, nI_mul, mjIn_nI, nI_clamp, neg1_lt0, if_pos, if_neg, if_true, if_false, Bool.false_eq_true, and_true, true_and, and_false, false_and, mI_pL, mK_pL, mN_pL, mR_pL, mL_pL, mL_pI, mI_pR, mL_pR, mK_pR, mN_pR, mR_pR, mI_pC, mL_pC, mK_pC, mN_pC, mR_pC]) <;> first | omega | decide)) | (apply stI; focus ((try simp (disch := omega) only [hs1.k, e2, ofNat_nI, i_lit, mI_pI, mK_pI, mN_pI, mR_pI, nI_ltI, nI_eq, nI_add, nI_mul, mjIn_nI, nI_clamp, neg1_lt0, if_pos, if_neg, if_true, if_false, Bool.false_eq_true, and_true, true_and, and_false, false_and, mI_pL, mK_pL, mN_pL, mR_pL, mL_pL, mL_pI, mI_pR, mL_pR, mK_pR, mN_pR, mR_pR, mI_pC, mL_pC, mK_pC, mN_pC, mR_pC]) <;> rfl)) | (apply stV; focus ((try simp (disch := omega) only [hs1.k, e2, ofNat_nI, i_lit, mI_pI, mK_pI, mN_pI, mR_pI, nI_ltI, nI_eq, nI_add, nI_mul, mjIn_nI, nI_clamp, neg1_lt0, if_pos, if_neg, if_true, if_false, Bool.false_eq_true, and_true, true_and, and_false, false_and, mI_pL, mK_pL, mN_pL, mR_pL, mL_pL, mL_pI, mI_pR, mL_pR, mK_pR, mN_pR, mR_pR, mI_pC, mL_pC, mK_pC, mN_pC, mR_pC]) <;> rfl)) | (apply stL; focus ((try simp (disch := omega) only [hs1.k, e2, ofNat_nI, i_lit, mI_pI, mK_pI, mN_pI, mR_pI, nI_ltI, nI_eq, nI_add, nI_mul, mjIn_nI, nI_clamp, neg1_lt0, if_pos, if_neg, if_true, if_false, Bool.false_eq_true, and_true, true_and, and_false, false_and, mI_pL, mK_pL, mN_pL, mR_pL, mL_pL, mL_pI, mI_pR, mL_pR, mK_pR, mN_pR, mR_pR, mI_pC, mL_pC, mK_pC, mN_pC, mR_pC]) <;> rfl)) | (apply stA; focus ((try simp (disch := omega) only [hs1.k, e2, ofNat_nI, i_lit, mI_pI, mK_pI, mN_pI, mR_pI, nI_ltI, nI_eq, nI_add, nI_mul, mjIn_nI, nI_clamp, neg1_lt0, if_pos, if_neg, if_true, if_false, Bool.false_eq_true, and_true, true_and, and_false, false_and, mI_pL, mK_pL, mN_pL, mR_pL, mL_pL, mL_pI, mI_pR, mL_pR, mK_pR, mN_pR, mR_pR, mI_pC, mL_pC, mK_pC, mN_pC, mR_pC]) <;> rfl)))
      try simp (disch := omega) only [hs1.k, e2, ofNat_nI, i_lit, mI_pI, mK_pI, mN_pI, mR_pI, nI_ltI, nI_eq, nI_add, nI_mul, mjIn_nI, nI_clamp, neg1_lt0, if_pos, if_neg, if_true, if_false, Bool.false_eq_true, and_true, true_and, and_false, false_and, mI_pL, mK_pL, mN_pL, mR_pL, mL_pL, mL_pI, mI_pR, mL_pR, mK_pR, mN_pR, mR_pR, mI_pC, mL_pC, mK_pC, mN_pC, mR_pC]
      try exact if_pos (Or.inl rfl)
    refine ⟨h2, ?_, (f1.mono (fun x k => FPo_FRr)).tr (f2.mono (fun x k => FSm_FRr)), w2⟩
    unfold FCx
    exact stI e163 (if_pos rfl)
  | inr s' =>
    rw [hc] at r
    obtain ⟨h2, e2, f2, q2⟩ := r
    have q2 : RPn h2 tb tl t pre s' := q2
    have e163 : ev 163 lv 2 [.ref 243, .int (nI 1), w'] [] h = some (.int (nI 1), h2) := by
      rw [j, e_163_2 E]
      repeat (first | (apply ifT; focus ((try simp (disch := omega) only [hs1.k, e2, ofNat_nI, i_lit, mI_pI, mK_pI, mN_pI, mR_pI, nI_ltI, nI_eq, nI_add, nI_mul, mjIn_nI, nI_clamp, neg1_lt0, if_pos, if_neg, if_true, if_false, Bool.false_eq_true, and_true, true_and, and_false, false_and, mI_pL, mK_pL, mN_pL, mR_pL, mL_pL, mL_pI, mI_pR, mL_pR, mK_pR, mN_pR, mR_pR, mI_pC, mL_pC, mK_pC, mN_pC, mR_pC]) <;> first | omega | decide)) | (apply ifF; focus ((try simp (disch := omega) only [hs1.k, e2, ofNat_nI, i_lit, mI_pI, mK_pI, mN_pI, mR_pI, nI_ltI, nI_eq, nI_add, nI_mul, mjIn_nI, nI_clamp, neg1_lt0, if_pos, if_neg, if_true, if_false, Bool.false_eq_true, and_true, true_and, and_false, false_and, mI_pL, mK_pL, mN_pL, mR_pL, mL_pL, mL_pI, mI_pR, mL_pR, mK_pR, mN_pR, mR_pR, mI_pC, mL_pC, mK_pC, mN_pC, mR_pC]) <;> first | omega | decide)) | (apply stI; focus ((try simp (disch := omega) only [hs1.k, e2, ofNat_nI, i_lit, mI_pI, mK_pI, mN_pI, mR_pI, nI_ltI, nI_eq, nI_add, nI_mul, mjIn_nI, nI_clamp, neg1_lt0, if_pos, if_neg, if_true, if_false, Bool.false_eq_true, and_true, true_and, and_false, false_and, mI_pL, mK_pL, mN_pL, mR_pL, mL_pL, mL_pI, mI_pR, mL_pR, mK_pR, mN_pR, mR_pR, mI_pC, mL_pC, mK_pC, mN_pC, mR_pC]) <;> rfl)) | (apply stV; focus ((try simp (disch := omega) only [hs1.k, e2, ofNat_nI, i_lit, mI_pI, mK_pI, mN_pI, mR_pI, nI_ltI, nI_eq, nI_add, nI_mul, mjIn_nI, nI_clamp, neg1_lt0, if_pos, if_neg, if_true, if_false, Bool.false_eq_true, and_true, true_and, and_false, false_and, mI_pL, mK_pL, mN_pL, mR_pL, mL_pL, mL_pI, mI_pR, mL_pR, mK_pR, mN_pR, mR_pR, mI_pC, mL_pC, mK_pC, mN_pC, mR_pC]) <;> rfl)) | (apply stL; focus ((try simp (disch := omega) only [hs1.k, e2, ofNat_nI, i_lit, mI_pI, mK_pI, mN_pI, mR_pI, nI_ltI, nI_eq, nI_add, nI_mul, mjIn_nI, nI_clamp, neg1_lt0, if_pos, if_neg, if_true, if_false, Bool.false_eq_true, and_true, true_and, and_false, false_and, mI_pL, mK_pL, mN_pL, mR_pL, mL_pL, mL_pI, mI_pR, mL_pR, mK_pR, mN_pR, mR_pR, mI_pC, mL_pC, mK_pC, mN_pC, mR_pC]) <;> rfl)) | (apply stA; focus ((try simp (disch := omega) only [hs1.k, e2, ofNat_nI, i_lit, mI_pI, mK_pI, mN_pI, mR_pI, nI_ltI, nI_eq, nI_add, nI_mul, mjIn_nI, nI_clamp, neg1_lt0, if_pos, if_neg, if_true, if_false, Bool.false_eq_true, and_true, true_and, and_false, false_and, mI_pL, mK_pL, mN_pL, mR_pL, mL_pL, mL_pI, mI_pR, mL_pR, mK_pR, mN_pR, mR_pR, mI_pC, mL_pC, mK_pC, mN_pC, mR_pC]) <;> rfl)))
      try simp (disch := omega) only [hs1.k, e2, ofNat_nI, i_lit, mI_pI, mK_pI, mN_pI, mR_pI, nI_ltI, nI_eq, nI_add, nI_mul, mjIn_nI, nI_clamp, neg1_lt0, if_pos, if_neg, if_true, if_false, Bool.false_eq_true, and_true, true_and, and_false, false_and, mI_pL, mK_pL, mN_pL, mR_pL, mL_pL, mL_pI, mI_pR, mL_pR, mK_pR, mN_pR, mR_pR, mI_pC, mL_pC, mK_pC, mN_pC, mR_pC]
      try exact if_pos (Or.inr rfl)
    refine ⟨h2, w, ?_, (f1.mono (fun x k => FPo_FRr)).tr (f2.mono (fun x k => FSm_FRr)), q2.o, st1.fr f2 ⟨⟨by unfold FSm; omega, by unfold FSm; omega⟩, fun k => by unfold FSm; omega⟩⟩
    unfold FCx
    exact stI e163 ((if_neg (by decide)).trans (PX_of E q2.o.sh w))
/-- 'not' or a bracket -/
theorem fx_open (E : mjFix ev) {h : mjS} {S : List Nat} {d x : Nat} {s : rst} (q : RTo h tb tl t pre S d s) (hx : (x = 11 ∧ kd s.1 = 134) ∨ (x = 91 ∧ kd s.1 = 91)) (hl : S.length < 100) (w w' : Value) : (d = 10 → ∃ h', FCx ev lv w w' h = some (.int (nI 0), h') ∧ Fr (FRr t) h h' ∧ mI h' 243 9 = nI (1 + 8 * pl tl s.1 + 2)) ∧ (d < 10 → ∃ h1 w1, FCx ev lv w w' h = FCx ev lv w w1 h1 ∧ Fr (FRr t) h h1 ∧ RTo h1 tb tl t pre (x :: S) (d + 1) (s.1.tail, s.2)) := by
  obtain ⟨q, st⟩ := q
  have hs := q.sh
  obtain ⟨h1, c, e1, f1, q1, cc⟩ := ro_see (lv := lv) E q
  have f1' : Fr (FRr t) h h1 := f1.mono (fun x k => FPo_FRr)
  have st1 : ST h1 S d := st.fr f1 ⟨⟨by unfold FPo; omega, by unfold FPo; omega⟩, fun k => by unfold FPo; omega⟩
  have hs1 := q1.o.sh
  obtain ⟨w0, w1, w2, w3, w4, w5, w6⟩ := W0
  have ew := rn_word (lv := lv) (k := 6) E q1 (by omega) w6
  have q10 := q1
  obtain ⟨p, a, b, cr⟩ := q1
  have pk := pl_tkp a
  rw [b] at pk
  have n8 := a.1.2.2.2.1
  obtain ⟨o10, o9⟩ := rx_opens (lv := lv) (x := x) E hs1 st1 cr.1.1 n8 (by omega) hl
  refine ⟨fun y => ?_, fun y => ?_⟩
  · have m := o10 y
    refine ⟨pI h1 243 9 (nI (1 + 8 * p + 2)), ?_, f1'.tr (Fr.pI (by unfold FRr; omega)), by rw [pI_at, pk]⟩
    have e163 : ev 163 lv 2 [.ref 243, .int (nI 1), w'] [] h = some (.int (nI 0), pI h1 243 9 (nI (1 + 8 * p + 2))) := by
      rw [e_163_2 E]
      rcases hx with ⟨hx, hk⟩ | ⟨hx, hk⟩
      · rw [if_pos (by omega)] at ew
        subst hx
        repeat (first | (apply ifT; focus ((try simp (disch := omega) only [hs.k, e1, hs1.k, ew, m, ofNat_nI, i_lit, mI_pI, mK_pI, mN_pI, mR_pI, nI_ltI, nI_eq, nI_add, nI_mul, mjIn_nI, nI_clamp, neg1_lt0, if_pos, if_neg, if_true, if_false, Bool.false_eq_true, and_true, true_and, and_false, false_and, mI_pL, mK_pL, mN_pL, mR_pL, mL_pL, mL_pI, mI_pR, mL_pR, mK_pR, mN_pR, mR_pR, mI_pC, mL_pC, mK_pC, mN_pC, mR_pC]) <;> first | omega | decide)) | (apply ifF; focus ((try simp (disch := omega) only [hs.k, e1, hs1.k, ew, m, ofNat_nI, i_lit, mI_pI, mK_pI, mN_pI, mR_pI, nI_ltI, nI_eq, nI_add, nI_mul, mjIn_nI, nI_clamp, neg1_lt0, if_pos, if_neg, if_true, if_false, Bool.false_eq_true, and_true, true_and, and_false, false_and, mI_pL, mK_pL, mN_pL, mR_pL, mL_pL, mL_pI, mI_pR, mL_pR, mK_pR, mN_pR, mR_pR, mI_pC, mL_pC, mK_pC, mN_pC, mR_pC]) <;> first | omega | decide)) | (apply stI; focus ((try simp (disch := omega) only [hs.k, e1, hs1.k, ew, m, ofNat_nI, i_lit, mI_pI, mK_pI, mN_pI, mR_pI, nI_ltI, nI_eq, nI_add, nI_mul, mjIn_nI, nI_clamp, neg1_lt0, if_pos, if_neg, if_true, if_false, Bool.false_eq_true, and_true, true_and, and_false, false_and, mI_pL, mK_pL, mN_pL, mR_pL, mL_pL, mL_pI, mI_pR, mL_pR, mK_pR, mN_pR, mR_pR, mI_pC, mL_pC, mK_pC, mN_pC, mR_pC]) <;> rfl)) | (apply stV; focus ((try simp (disch := omega) only [hs.k, e1, hs1.k, ew, m, ofNat_nI, i_lit, mI_pI, mK_pI, mN_pI, mR_pI, nI_ltI, nI_eq, nI_add, nI_mul, mjIn_nI, nI_clamp, neg1_lt0, if_pos, if_neg, if_true, if_false, Bool.false_eq_true, and_true, true_and, and_false, false_and, mI_pL, mK_pL, mN_pL, mR_pL, mL_pL, mL_pI, mI_pR, mL_pR, mK_pR, mN_pR, mR_pR, mI_pC, mL_pC, mK_pC, mN_pC, mR_pC]) <;> rfl)) | (apply stL; focus ((try simp (disch := omega) only [hs.k, e1, hs1.k, ew, m, ofNat_nI, i_lit, mI_pI, mK_pI, mN_pI, mR_pI, nI_ltI, nI_eq, nI_add, nI_mul, mjIn_nI, nI_clamp, neg1_lt0, if_pos, if_neg, if_true, if_false, Bool.false_eq_true, and_true, true_and, and_false, false_and, mI_pL, mK_pL, mN_pL, mR_pL, mL_pL, mL_pI, mI_pR, mL_pR, mK_pR, mN_pR, mR_pR, mI_pC, mL_pC, mK_pC, mN_pC, mR_pC]) <;> rfl)) | (apply stA; focus ((try simp (disch := omega) only [hs.k, e1, hs1.k, ew, m, ofNat_nI, i_lit, mI_pI, mK_pI, mN_pI, mR_pI, nI_ltI, nI_eq, nI_add, nI_mul, mjIn_nI, nI_clamp, neg1_lt0, if_pos, if_neg, if_true, if_false, Bool.false_eq_true, and_true, true_and, and_false, false_and, mI_pL, mK_pL, mN_pL, mR_pL, mL_pL, mL_pI, mI_pR, mL_pR, mK_pR, mN_pR, mR_pR, mI_pC, mL_pC, mK_pC, mN_pC, mR_pC]) <;> rfl)))
        try simp (disch := omega) only [hs.k, e1, hs1.k, ew, m, ofNat_nI, i_lit, mI_pI, mK_pI, mN_pI, mR_pI, nI_ltI, nI_eq, nI_add, nI_mul, mjIn_nI, nI_clamp, neg1_lt0, if_pos, if_neg, if_true, if_false, Bool.false_eq_true, and_true, true_and, and_false, false_and, mI_pL, mK_pL, mN_pL, mR_pL, mL_pL, mL_pI, mI_pR, mL_pR, mK_pR, mN_pR, mR_pR, mI_pC, mL_pC, mK_pC, mN_pC, mR_pC]
      · rw [if_neg (by omega)] at ew
        have z : c = nI 91 := (cc.1 91 (by decide)).mpr hk
        subst hx
        repeat (first | (apply ifT; focus ((try simp (disch := omega) only [hs.k, e1, hs1.k, ew, z, m, ofNat_nI, i_lit, mI_pI, mK_pI, mN_pI, mR_pI, nI_ltI, nI_eq, nI_add, nI_mul, mjIn_nI, nI_clamp, neg1_lt0, if_pos, if_neg, if_true, if_false, Bool.false_eq_true, and_true, true_and, and_false, false_and, mI_pL, mK_pL, mN_pL, mR_pL, mL_pL, mL_pI, mI_pR, mL_pR, mK_pR, mN_pR, mR_pR, mI_pC, mL_pC, mK_pC, mN_pC, mR_pC]) <;> first | omega | decide)) | (apply ifF; focus ((try simp (disch := omega) only [hs.k, e1, hs1.k, ew, z, m, ofNat_nI, i_lit, mI_pI, mK_pI, mN_pI, mR_pI, nI_ltI, nI_eq, nI_add, nI_mul, mjIn_nI, nI_clamp, neg1_lt0, if_pos, if_neg, if_true, if_false, Bool.false_eq_true, and_true, true_and, and_false, false_and, mI_pL, mK_pL, mN_pL, mR_pL, mL_pL, mL_pI, mI_pR, mL_pR, mK_pR, mN_pR, mR_pR, mI_pC, mL_pC, mK_pC, mN_pC, mR_pC]) <;> first | omega | decide)) | (apply stI; focus ((try simp (disch := omega) only [hs.k, e1, hs1.k, ew, z, m, ofNat_nI, i_lit, mI_pI, mK_pI, mN_pI, mR_pI, nI_ltI, nI_eq, nI_add, nI_mul, mjIn_nI, nI_clamp, neg1_lt0, if_pos, if_neg, if_true, if_false, Bool.false_eq_true, and_true, true_and, and_false, false_and, mI_pL, mK_pL, mN_pL, mR_pL, mL_pL, mL_pI, mI_pR, mL_pR, mK_pR, mN_pR, mR_pR, mI_pC, mL_pC, mK_pC, mN_pC, mR_pC]) <;> rfl)) | (apply stV; focus ((try simp (disch := omega) only [hs.k, e1, hs1.k, ew, z, m, ofNat_nI, i_lit, mI_pI, mK_pI, mN_pI, mR_pI, nI_ltI, nI_eq, nI_add, nI_mul, mjIn_nI, nI_clamp, neg1_lt0, if_pos, if_neg, if_true, if_false, Bool.false_eq_true, and_true, true_and, and_false, false_and, mI_pL, mK_pL, mN_pL, mR_pL, mL_pL, mL_pI, mI_pR, mL_pR, mK_pR, mN_pR, mR_pR, mI_pC, mL_pC, mK_pC, mN_pC, mR_pC]) <;> rfl)) | (apply stL; focus ((try simp (disch := omega) only [hs.k, e1, hs1.k, ew, z, m, ofNat_nI, i_lit, mI_pI, mK_pI, mN_pI, mR_pI, nI_ltI, nI_eq, nI_add, nI_mul, mjIn_nI, nI_clamp, neg1_lt0, if_pos, if_neg, if_true, if_false, Bool.false_eq_true, and_true, true_and, and_false, false_and, mI_pL, mK_pL, mN_pL, mR_pL, mL_pL, mL_pI, mI_pR, mL_pR, mK_pR, mN_pR, mR_pR, mI_pC, mL_pC, mK_pC, mN_pC, mR_pC]) <;> rfl)) | (apply stA; focus ((try simp (disch := omega) only [hs.k, e1, hs1.k, ew, z, m, ofNat_nI, i_lit, mI_pI, mK_pI, mN_pI, mR_pI, nI_ltI, nI_eq, nI_add, nI_mul, mjIn_nI, nI_clamp, neg1_lt0, if_pos, if_neg, if_true, if_false, Bool.false_eq_true, and_true, true_and, and_false, false_and, mI_pL, mK_pL, mN_pL, mR_pL, mL_pL, mL_pI, mI_pR, mL_pR, mK_pR, mN_pR, mR_pR, mI_pC, mL_pC, mK_pC, mN_pC, mR_pC]) <;> rfl)))
        try simp (disch := omega) only [hs.k, e1, hs1.k, ew, z, m, ofNat_nI, i_lit, mI_pI, mK_pI, mN_pI, mR_pI, nI_ltI, nI_eq, nI_add, nI_mul, mjIn_nI, nI_clamp, neg1_lt0, if_pos, if_neg, if_true, if_false, Bool.false_eq_true, and_true, true_and, and_false, false_and, mI_pL, mK_pL, mN_pL, mR_pL, mL_pL, mL_pI, mI_pR, mL_pR, mK_pR, mN_pR, mR_pR, mI_pC, mL_pC, mK_pC, mN_pC, mR_pC]
    unfold FCx
    exact stI e163 (if_pos rfl)
  · obtain ⟨h2, e2, f2, st2⟩ := o9 y
    have q2 : RPn h2 tb tl t pre s := ⟨p, ⟨a.1.fr f2 ⟨by omega, by omega, fun k => by omega⟩, a.2⟩, b, cr.fr f2 ⟨by omega, fun k => by omega, fun k => by omega⟩⟩
    have f2' : Fr (FRr t) h1 h2 := f2.mono (fun x k hx => by unfold FRr; omega)
    have hs2 := q2.o.sh
    rcases hx with ⟨hx, hk⟩ | ⟨hx, hk⟩
    · obtain ⟨h3, e3, f3, q3⟩ := rn_pass (lv := lv) E q2 (by omega)
      refine ⟨h3, .int c, ?_, (f1'.tr f2').tr (f3.mono (fun x k => FPo_FRr)), q3, st2.fr f3 ⟨⟨by unfold FPo; omega, by unfold FPo; omega⟩, fun k => by unfold FPo; omega⟩⟩
      rw [if_pos (by omega)] at ew
      have j : ev 163 lv 2 [.ref 243, .int (nI 1), w'] [] h = ev 163 lv 2 [.ref 243, .int (nI 1), .int c] [] h3 := by
        rw [e_163_2 E]
        subst hx
        repeat (first | (apply ifT; focus ((try simp (disch := omega) only [hs.k, e1, hs1.k, ew, e2, hs2.k, e3, ofNat_nI, i_lit, mI_pI, mK_pI, mN_pI, mR_pI, nI_ltI, nI_eq, nI_add, nI_mul, mjIn_nI, nI_clamp, neg1_lt0, if_pos, if_neg, if_true, if_false, Bool.false_eq_true, and_true, true_and, and_false, false_and, mI_pL, mK_pL, mN_pL, mR_pL, mL_pL, mL_pI, mI_pR, mL_pR, mK_pR, mN_pR, mR_pR, mI_pC, mL_pC, mK_pC, mN_pC, mR_pC]) <;> first | omega | decide)) | (apply ifF; focus ((try simp (disch := omega) only [hs.k, e1, hs1.k, ew, e2, hs2.k, e3, ofNat_nI, i_lit, mI_pI, mK_pI, mN_pI, mR_pI, nI_ltI, nI_eq, nI_add, nI_mul, mjIn_nI, nI_clamp, neg1_lt0, if_pos, if_neg, if_true, if_false, Bool.false_eq_true, and_true, true_and, and_false, false_and, mI_pL, mK_pL, mN_pL, mR_pL, mL_pL, mL_pI, mI_pR, mL_pR, mK_pR, mN_pR, mR_pR, mI_pC, mL_pC, mK_pC, mN_pC, mR_pC]) <;> first | omega | decide)) | (apply stI; focus ((try simp (disch := omega) only [hs.k, e1, hs1.k, ew, e2, hs2.k, e3, ofNat_nI, i_lit, mI_pI, mK_pI, mN_pI, mR_pI, nI_ltI, nI_eq, nI_add, nI_mul, mjIn_nI, nI_clamp, neg1_lt0, if_pos, if_neg, if_true, if_false, Bool.false_eq_true, and_true, true_and, and_false, false_and, mI_pL, mK_pL, mN_pL, mR_pL, mL_pL, mL_pI, mI_pR, mL_pR, mK_pR, mN_pR, mR_pR, mI_pC, mL_pC, mK_pC, mN_pC, mR_pC]) <;> rfl)) | (apply stV; focus ((try simp (disch := omega) only [hs.k, e1, hs1.k, ew, e2, hs2.k, e3, ofNat_nI, i_lit, mI_pI, mK_pI, mN_pI, mR_pI, nI_ltI, nI_eq, nI_add, nI_mul, mjIn_nI, nI_clamp, neg1_lt0, if_pos, if_neg, if_true, if_false, Bool.false_eq_true, and_true, true_and, and_false, false_and, mI_pL, mK_pL, mN_pL, mR_pL, mL_pL, mL_pI, mI_pR, mL_pR, mK_pR, mN_pR, mR_pR, mI_pC, mL_pC, mK_pC, mN_pC, mR_pC]) <;> rfl)) | (apply stL; focus ((try simp (disch := omega) only [hs.k, e1, hs1.k, ew, e2, hs2.k, e3, ofNat_nI, i_lit, mI_pI, mK_pI, mN_pI, mR_pI, nI_ltI, nI_eq, nI_add, nI_mul, mjIn_nI, nI_clamp, neg1_lt0, if_pos, if_neg, if_true, if_false, Bool.false_eq_true, and_true, true_and, and_false, false_and, mI_pL, mK_pL, mN_pL, mR_pL, mL_pL, mL_pI, mI_pR, mL_pR, mK_pR, mN_pR, mR_pR, mI_pC, mL_pC, mK_pC, mN_pC, mR_pC]) <;> rfl)) | (apply stA; focus ((try simp (disch := omega) only [hs.k, e1, hs1.k, ew, e2, hs2.k, e3, ofNat_nI, i_lit, mI_pI, mK_pI, mN_pI, mR_pI, nI_ltI, nI_eq, nI_add, nI_mul, mjIn_nI, nI_clamp, neg1_lt0, if_pos, if_neg, if_true, if_false, Bool.false_eq_true, and_true, true_and, and_false, false_and, mI_pL, mK_pL, mN_pL, mR_pL, mL_pL, mL_pI, mI_pR, mL_pR, mK_pR, mN_pR, mR_pR, mI_pC, mL_pC, mK_pC, mN_pC, mR_pC]) <;> rfl)))
        try simp (disch := omega) only [hs.k, e1, hs1.k, ew, e2, hs2.k, e3, ofNat_nI, i_lit, mI_pI, mK_pI, mN_pI, mR_pI, nI_ltI, nI_eq, nI_add, nI_mul, mjIn_nI, nI_clamp, neg1_lt0, if_pos, if_neg, if_true, if_false, Bool.false_eq_true, and_true, true_and, and_false, false_and, mI_pL, mK_pL, mN_pL, mR_pL, mL_pL, mL_pI, mI_pR, mL_pR, mK_pR, mN_pR, mR_pR, mI_pC, mL_pC, mK_pC, mN_pC, mR_pC]
      unfold FCx
      rw [j]
    · obtain ⟨p3, n83, pl3, l4, tp, q3⟩ := rn_next q2 (by rw [hk]; decide)
      have f3 : Fr FPo h2 (pI h2 243 8 (nI (p3 + 1))) := Fr.pI ⟨rfl, rfl⟩
      refine ⟨pI h2 243 8 (nI (p3 + 1)), .int c, ?_, (f1'.tr f2').tr (f3.mono (fun x k => FPo_FRr)), q3, st2.fr f3 ⟨⟨by unfold FPo; omega, by unfold FPo; omega⟩, fun k => by unfold FPo; omega⟩⟩
      rw [if_neg (by omega)] at ew
      have z : c = nI 91 := (cc.1 91 (by decide)).mpr hk
      have j : ev 163 lv 2 [.ref 243, .int (nI 1), w'] [] h = ev 163 lv 2 [.ref 243, .int (nI 1), .int c] [] (pI h2 243 8 (nI (p3 + 1))) := by
        rw [e_163_2 E]
        subst hx
        rw [z] at e1
        rw [z]
        repeat (first | (apply ifT; focus ((try simp (disch := omega) only [hs.k, e1, hs1.k, ew, e2, hs2.k, n83, ofNat_nI, i_lit, mI_pI, mK_pI, mN_pI, mR_pI, nI_ltI, nI_eq, nI_add, nI_mul, mjIn_nI, nI_clamp, neg1_lt0, if_pos, if_neg, if_true, if_false, Bool.false_eq_true, and_true, true_and, and_false, false_and, mI_pL, mK_pL, mN_pL, mR_pL, mL_pL, mL_pI, mI_pR, mL_pR, mK_pR, mN_pR, mR_pR, mI_pC, mL_pC, mK_pC, mN_pC, mR_pC]) <;> first | omega | decide)) | (apply ifF; focus ((try simp (disch := omega) only [hs.k, e1, hs1.k, ew, e2, hs2.k, n83, ofNat_nI, i_lit, mI_pI, mK_pI, mN_pI, mR_pI, nI_ltI, nI_eq, nI_add, nI_mul, mjIn_nI, nI_clamp, neg1_lt0, if_pos, if_neg, if_true, if_false, Bool.false_eq_true, and_true, true_and, and_false, false_and, mI_pL, mK_pL, mN_pL, mR_pL, mL_pL, mL_pI, mI_pR, mL_pR, mK_pR, mN_pR, mR_pR, mI_pC, mL_pC, mK_pC, mN_pC, mR_pC]) <;> first | omega | decide)) | (apply stI; focus ((try simp (disch := omega) only [hs.k, e1, hs1.k, ew, e2, hs2.k, n83, ofNat_nI, i_lit, mI_pI, mK_pI, mN_pI, mR_pI, nI_ltI, nI_eq, nI_add, nI_mul, mjIn_nI, nI_clamp, neg1_lt0, if_pos, if_neg, if_true, if_false, Bool.false_eq_true, and_true, true_and, and_false, false_and, mI_pL, mK_pL, mN_pL, mR_pL, mL_pL, mL_pI, mI_pR, mL_pR, mK_pR, mN_pR, mR_pR, mI_pC, mL_pC, mK_pC, mN_pC, mR_pC]) <;> rfl)) | (apply stV; focus ((try simp (disch := omega) only [hs.k, e1, hs1.k, ew, e2, hs2.k, n83, ofNat_nI, i_lit, mI_pI, mK_pI, mN_pI, mR_pI, nI_ltI, nI_eq, nI_add, nI_mul, mjIn_nI, nI_clamp, neg1_lt0, if_pos, if_neg, if_true, if_false, Bool.false_eq_true, and_true, true_and, and_false, false_and, mI_pL, mK_pL, mN_pL, mR_pL, mL_pL, mL_pI, mI_pR, mL_pR, mK_pR, mN_pR, mR_pR, mI_pC, mL_pC, mK_pC, mN_pC, mR_pC]) <;> rfl)) | (apply stL; focus ((try simp (disch := omega) only [hs.k, e1, hs1.k, ew, e2, hs2.k, n83, ofNat_nI, i_lit, mI_pI, mK_pI, mN_pI, mR_pI, nI_ltI, nI_eq, nI_add, nI_mul, mjIn_nI, nI_clamp, neg1_lt0, if_pos, if_neg, if_true, if_false, Bool.false_eq_true, and_true, true_and, and_false, false_and, mI_pL, mK_pL, mN_pL, mR_pL, mL_pL, mL_pI, mI_pR, mL_pR, mK_pR, mN_pR, mR_pR, mI_pC, mL_pC, mK_pC, mN_pC, mR_pC]) <;> rfl)) | (apply stA; focus ((try simp (disch := omega) only [hs.k, e1, hs1.k, ew, e2, hs2.k, n83, ofNat_nI, i_lit, mI_pI, mK_pI, mN_pI, mR_pI, nI_ltI, nI_eq, nI_add, nI_mul, mjIn_nI, nI_clamp, neg1_lt0, if_pos, if_neg, if_true, if_false, Bool.false_eq_true, and_true, true_and, and_false, false_and, mI_pL, mK_pL, mN_pL, mR_pL, mL_pL, mL_pI, mI_pR, mL_pR, mK_pR, mN_pR, mR_pR, mI_pC, mL_pC, mK_pC, mN_pC, mR_pC]) <;> rfl)))
        try simp (disch := omega) only [hs.k, e1, hs1.k, ew, e2, hs2.k, n83, ofNat_nI, i_lit, mI_pI, mK_pI, mN_pI, mR_pI, nI_ltI, nI_eq, nI_add, nI_mul, mjIn_nI, nI_clamp, neg1_lt0, if_pos, if_neg, if_true, if_false, Bool.false_eq_true, and_true, true_and, and_false, false_and, mI_pL, mK_pL, mN_pL, mR_pL, mL_pL, mL_pI, mI_pR, mL_pR, mK_pR, mN_pR, mR_pR, mI_pC, mL_pC, mK_pC, mN_pC, mR_pC]
      unfold FCx
      rw [j]
/-- behind a test in brackets that does not close -/
theorem px_lost (E : mjFix ev) {h : mjS} {P S : List Nat} {d : Nat} {s : rst} (q : RTo h tb tl t pre (P ++ 91 :: S) d s) (w : Value) (hP : ∀ x, x ∈ P → x = 12 ∨ x = 13) (hk : kd s.1 ≠ 93) (h2 : kd s.1 ≠ 132) (h3 : kd s.1 ≠ 133) : ∃ h', PX ev lv w h = some (.int (nI 0), h') ∧ Fr (FRr t) h h' ∧ mI h' 243 9 = nI (1 + 8 * pl tl s.1 + 0) := by
  obtain ⟨h1, e1, f1, q1⟩ := px_go (lv := lv) E q w (fun x r e => by
    cases P with
    | nil =>
      have e1 := (List.cons.inj (show 91 :: S = x :: r from e)).1
      rw [← e1]; decide
    | cons y r' =>
      have e1 := (List.cons.inj (show y :: (r' ++ 91 :: S) = x :: r from e)).1
      rw [← e1]
      rcases hP y List.mem_cons_self with z | z <;> rw [z] <;> decide) (Or.inl hk)
  have e2 := kk_is (lv := lv) E q1 w
  rw [if_neg h3, if_neg h2] at e2
  obtain ⟨q1, st1⟩ := q1
  have hs1 := q1.o.sh
  have ei := rx_inside (lv := lv) E hs1 st1
  rw [if_pos (List.mem_append.mpr (Or.inr List.mem_cons_self))] at ei
  obtain ⟨p, a, b, cr⟩ := q1
  have es := rx_see0 (lv := lv) E a
  have pk := pl_tkp a
  rw [b] at pk
  have n8 := a.1.2.2.2.1
  have m := rx_mark (lv := lv) E hs1 cr.1.1 0 p
  refine ⟨pI h1 243 9 (nI (1 + 8 * p + 0)), ?_, (f1.mono (fun x k => FPo_FRr)).tr (Fr.pI (by unfold FRr; omega)), by rw [pI_at, pk]⟩
  rw [e1, e2, e_166_12 E]
  repeat (first | (apply ifT; focus ((try simp (disch := omega) only [hs1.k, ei, es, n8, m, ofNat_nI, i_lit, mI_pI, mK_pI, mN_pI, mR_pI, nI_ltI, nI_eq, nI_add, nI_mul, mjIn_nI, nI_clamp, neg1_lt0, if_pos, if_neg, if_true, if_false, Bool.false_eq_true, and_true, true_and, and_false, false_and, mI_pL, mK_pL, mN_pL, mR_pL, mL_pL, mL_pI, mI_pR, mL_pR, mK_pR, mN_pR, mR_pR, mI_pC, mL_pC, mK_pC, mN_pC, mR_pC]) <;> first | omega | decide)) | (apply ifF; focus ((try simp (disch := omega) only [hs1.k, ei, es, n8, m, ofNat_nI, i_lit, mI_pI, mK_pI, mN_pI, mR_pI, nI_ltI, nI_eq, nI_add, nI_mul, mjIn_nI, nI_clamp, neg1_lt0, if_pos, if_neg, if_true, if_false, Bool.false_eq_true, and_true, true_and, and_false, false_and, mI_pL, mK_pL, mN_pL, mR_pL, mL_pL, mL_pI, mI_pR, mL_pR, mK_pR, mN_pR, mR_pR, mI_pC, mL_pC, mK_pC, mN_pC, mR_pC]) <;> first | omega | decide)) | (apply stI; focus ((try simp (disch := omega) only [hs1.k, ei, es, n8, m, ofNat_nI, i_lit, mI_pI, mK_pI, mN_pI, mR_pI, nI_ltI, nI_eq, nI_add, nI_mul, mjIn_nI, nI_clamp, neg1_lt0, if_pos, if_neg, if_true, if_false, Bool.false_eq_true, and_true, true_and, and_false, false_and, mI_pL, mK_pL, mN_pL, mR_pL, mL_pL, mL_pI, mI_pR, mL_pR, mK_pR, mN_pR, mR_pR, mI_pC, mL_pC, mK_pC, mN_pC, mR_pC]) <;> rfl)) | (apply stV; focus ((try simp (disch := omega) only [hs1.k, ei, es, n8, m, ofNat_nI, i_lit, mI_pI, mK_pI, mN_pI, mR_pI, nI_ltI, nI_eq, nI_add, nI_mul, mjIn_nI, nI_clamp, neg1_lt0, if_pos, if_neg, if_true, if_false, Bool.false_eq_true, and_true, true_and, and_false, false_and, mI_pL, mK_pL, mN_pL, mR_pL, mL_pL, mL_pI, mI_pR, mL_pR, mK_pR, mN_pR, mR_pR, mI_pC, mL_pC, mK_pC, mN_pC, mR_pC]) <;> rfl)) | (apply stL; focus ((try simp (disch := omega) only [hs1.k, ei, es, n8, m, ofNat_nI, i_lit, mI_pI, mK_pI, mN_pI, mR_pI, nI_ltI, nI_eq, nI_add, nI_mul, mjIn_nI, nI_clamp, neg1_lt0, if_pos, if_neg, if_true, if_false, Bool.false_eq_true, and_true, true_and, and_false, false_and, mI_pL, mK_pL, mN_pL, mR_pL, mL_pL, mL_pI, mI_pR, mL_pR, mK_pR, mN_pR, mR_pR, mI_pC, mL_pC, mK_pC, mN_pC, mR_pC]) <;> rfl)) | (apply stA; focus ((try simp (disch := omega) only [hs1.k, ei, es, n8, m, ofNat_nI, i_lit, mI_pI, mK_pI, mN_pI, mR_pI, nI_ltI, nI_eq, nI_add, nI_mul, mjIn_nI, nI_clamp, neg1_lt0, if_pos, if_neg, if_true, if_false, Bool.false_eq_true, and_true, true_and, and_false, false_and, mI_pL, mK_pL, mN_pL, mR_pL, mL_pL, mL_pI, mI_pR, mL_pR, mK_pR, mN_pR, mR_pR, mI_pC, mL_pC, mK_pC, mN_pC, mR_pC]) <;> rfl)))
  try simp (disch := omega) only [hs1.k, ei, es, n8, m, ofNat_nI, i_lit, mI_pI, mK_pI, mN_pI, mR_pI, nI_ltI, nI_eq, nI_add, nI_mul, mjIn_nI, nI_clamp, neg1_lt0, if_pos, if_neg, if_true, if_false, Bool.false_eq_true, and_true, true_and, and_false, false_and, mI_pL, mK_pL, mN_pL, mR_pL, mL_pL, mL_pI, mI_pR, mL_pR, mK_pR, mN_pR, mR_pR, mI_pC, mL_pC, mK_pC, mN_pC, mR_pC]
  try exact if_pos (Or.inl rfl)
theorem rt_fact (E : mjFix ev) : ∀ k d, d + k = 10 → HFx ev lv tb tl t pre (factF tl k) d := by
  intro k
  induction k with
  | zero =>
    intro d hd S h s w w' q hS hr hl
    show FcR ev lv tb tl t pre S d h _ (if kd s.1 = 134 ∨ kd s.1 = 91 then flt tl s.1 2 else cmpF tl s)
    by_cases y : kd s.1 = 134 ∨ kd s.1 = 91
    · rw [if_pos y]
      rcases y with y | y
      · exact (fx_open (x := 11) E q (Or.inl ⟨rfl, y⟩) (by omega) w w').1 (by omega)
      · exact (fx_open (x := 91) E q (Or.inr ⟨rfl, y⟩) (by omega) w w').1 (by omega)
    · rw [if_neg y]
      exact fx_cmp E q (fun z => y (Or.inl z)) (fun z => y (Or.inr z)) (by omega) hl w w'
  | succ k ih =>
    intro d hd S h s w w' q hS hr hl
    have IH := ih (d + 1) (by omega)
    show FcR ev lv tb tl t pre S d h _ (if kd s.1 = 134 then thn (factF tl k (s.1.tail, s.2)) fun s1 => .inr (s1.1, s1.2.1 ++ [11], s1.2.2) else if kd s.1 = 91 then thn (orF (factF tl k) 400 false (s.1.tail, s.2)) fun s1 => if kd s1.1 = 93 then .inr (s1.1.tail, s1.2) else flt tl s1.1 0 else cmpF tl s)
    by_cases y1 : kd s.1 = 134
    · rw [if_pos y1]
      have tn := tail_len (ts := s.1) (by omega)
      obtain ⟨h1, w1, e1, f1, q1⟩ := (fx_open (lv := lv) (x := 11) E q (Or.inl ⟨rfl, y1⟩) (by omega) w w').2 (by omega)
      have r := IH (11 :: S) h1 (s.1.tail, s.2) w w1 q1 (by rw [List.length_cons]; omega) (by
        show pre.length + s.2.1.length + s.1.tail.length + (1 + pn S) ≤ 400
        omega) (by show s.1.tail.length < 400; omega)
      cases hF : factF tl k (s.1.tail, s.2) with
      | inl f =>
        rw [hF] at r
        obtain ⟨h2, e2, f2, w2⟩ := r
        exact ⟨h2, e1.trans e2, f1.tr f2, w2⟩
      | inr s1 =>
        rw [hF] at r
        obtain ⟨h2, w2, e2, f2, q2, st2⟩ := r
        have a := fact_shr tl k _ _ hF
        have a1 : s1.2.1.length + s1.1.length ≤ s.2.1.length + s.1.tail.length := a.1
        obtain ⟨h3, e3, f3, c3, st3⟩ := lay_pop (lv := lv) (l := 3) E q2.sh q2.c st2 (by omega) (by decide) (fun _ => by omega) (by omega) (by omega)
        rw [if_pos rfl, show d + 1 - 1 = d by omega] at st3
        refine ⟨h3, w2, ?_, (f1.tr f2).tr (f3.mono (fun x k => FLd_FRr)), RPo.lay (ops := s1.2.1) f3 c3 q2, st3⟩
        rw [e1, e2, PX_def, e3, ← PX_def]
    · rw [if_neg y1]
      by_cases y2 : kd s.1 = 91
      · rw [if_pos y2]
        have tn := tail_len (ts := s.1) (by omega)
        obtain ⟨h1, w1, e1, f1, q1⟩ := (fx_open (lv := lv) (x := 91) E q (Or.inr ⟨rfl, y2⟩) (by omega) w w').2 (by omega)
        have pe : pn (91 :: S) = pn S := by show (if 91 = 91 then 0 else 1) + pn S = pn S; rw [if_pos rfl]; omega
        have r := rt_or (lv := lv) E (fact_shr tl k) IH (S0 := 91 :: S) (Or.inr ⟨S, rfl⟩) (by rw [List.length_cons]; omega) (by omega) 400 false (s.1.tail, s.2) h1 w w1 (by show s.1.tail.length < 400; omega) (by omega) q1 (by
          show pre.length + s.2.1.length + s.1.tail.length + pn (91 :: S) ≤ 400
          rw [pe]; omega)
        cases hF : orF (factF tl k) 400 false (s.1.tail, s.2) with
        | inl f =>
          rw [hF] at r
          obtain ⟨h2, e2, f2, w2⟩ := r
          exact ⟨h2, e1.trans e2, f1.tr f2, w2⟩
        | inr s1 =>
          rw [hF] at r
          obtain ⟨h2, w2, P, ops, e2, f2, q2, eo, hP, nk, bd⟩ := r
          have lo := congrArg List.length eo
          rw [List.length_append] at lo
          show FcR ev lv tb tl t pre S d h _ (if kd s1.1 = 93 then .inr (s1.1.tail, s1.2) else flt tl s1.1 0)
          by_cases y3 : kd s1.1 = 93
          · rw [if_pos y3]
            obtain ⟨h3, e3, f3, q3⟩ := px_close (lv := lv) E q2 w2 hP y3 (by omega) (by show pre.length + ops.length + P.length ≤ 400; omega)
            have q3 : RTo h3 tb tl t pre S (d + 1 - 1) (s1.1.tail, ops ++ P, s1.2.2) := q3
            rw [← eo, show d + 1 - 1 = d by omega] at q3
            exact ⟨h3, w2, e1.trans (e2.trans e3), (f1.tr f2).tr f3, q3⟩
          · rw [if_neg y3]
            obtain ⟨h3, e3, f3, w3⟩ := px_lost (lv := lv) E q2 w2 hP y3 nk.1 nk.2
            exact ⟨h3, e1.trans (e2.trans e3), (f1.tr f2).tr f3, w3⟩
      · rw [if_neg y2]
        exact fx_cmp E q y1 y2 (by omega) hl w w'
/-- the same with all that the reader of a rule changes -/
def RPf (Q : mjS → rst → Prop) (t : Nat) (h : mjS) (X : mjO) (r : rrs) : Prop := match r with
  | .inl f => ∃ h', X = some (.int (nI 0), h') ∧ Fr (FRr t) h h' ∧ mI h' 243 9 = nI f
  | .inr s => ∃ h', X = some (.int (nI 1), h') ∧ Fr (FRr t) h h' ∧ Q h' s
theorem rx_test (E : mjFix ev) {h : mjS} {s : rst} (q : RPo h tb tl t pre s) (hr : pre.length + s.2.1.length + s.1.length ≤ 400) (hl : s.1.length < 400) : RPf (QN tb tl t pre) t h (mjCall ev 166 lv [.ref 243] h) (orF (factF tl 10) 400 false s) := by
  have hs := q.sh
  have g : Fr (fun a k => a = 243 ∧ (k = 13 ∨ k = 16)) h (pI (pI h 243 16 (nI 0)) 243 13 (nI 0)) := (Fr.pI (F := fun a k => a = 243 ∧ (k = 13 ∨ k = 16)) (by omega)).tr (Fr.pI (F := fun a k => a = 243 ∧ (k = 13 ∨ k = 16)) (by omega))
  have g' : Fr (FRr t) h (pI (pI h 243 16 (nI 0)) 243 13 (nI 0)) := g.mono (fun x k hx => by unfold FRr; omega)
  have q0 : RTo (pI (pI h 243 16 (nI 0)) 243 13 (nI 0)) tb tl t pre [] 0 s := by
    obtain ⟨p, a, b, c⟩ := q
    exact ⟨⟨p, a.fr g ⟨by omega, by omega, fun k => by omega⟩, b, c.fr g ⟨by omega, fun k => by omega, fun k => by omega⟩⟩, by rw [pI_nk (by omega), pI_at]; rfl, pI_at, trivial, fun x hx => absurd hx List.not_mem_nil, by decide, by omega⟩
  have hs0 := q0.1.sh
  have ef : mjCall ev 166 lv [.ref 243] h = FCx ev lv mjD mjD (pI (pI h 243 16 (nI 0)) 243 13 (nI 0)) := by
    rw [← FCx_at E hs0]
    show ev 166 lv 0 [.ref 243, mjD, mjD] [] h = _
    rw [e_166_0 E]
    repeat (first | (apply ifT; focus ((try simp (disch := omega) only [hs.k, ofNat_nI, i_lit, mI_pI, mK_pI, mN_pI, mR_pI, nI_ltI, nI_eq, nI_add, nI_mul, mjIn_nI, nI_clamp, neg1_lt0, if_pos, if_neg, if_true, if_false, Bool.false_eq_true, and_true, true_and, and_false, false_and, mI_pL, mK_pL, mN_pL, mR_pL, mL_pL, mL_pI, mI_pR, mL_pR, mK_pR, mN_pR, mR_pR, mI_pC, mL_pC, mK_pC, mN_pC, mR_pC]) <;> first | omega | decide)) | (apply ifF; focus ((try simp (disch := omega) only [hs.k, ofNat_nI, i_lit, mI_pI, mK_pI, mN_pI, mR_pI, nI_ltI, nI_eq, nI_add, nI_mul, mjIn_nI, nI_clamp, neg1_lt0, if_pos, if_neg, if_true, if_false, Bool.false_eq_true, and_true, true_and, and_false, false_and, mI_pL, mK_pL, mN_pL, mR_pL, mL_pL, mL_pI, mI_pR, mL_pR, mK_pR, mN_pR, mR_pR, mI_pC, mL_pC, mK_pC, mN_pC, mR_pC]) <;> first | omega | decide)) | (apply stI; focus ((try simp (disch := omega) only [hs.k, ofNat_nI, i_lit, mI_pI, mK_pI, mN_pI, mR_pI, nI_ltI, nI_eq, nI_add, nI_mul, mjIn_nI, nI_clamp, neg1_lt0, if_pos, if_neg, if_true, if_false, Bool.false_eq_true, and_true, true_and, and_false, false_and, mI_pL, mK_pL, mN_pL, mR_pL, mL_pL, mL_pI, mI_pR, mL_pR, mK_pR, mN_pR, mR_pR, mI_pC, mL_pC, mK_pC, mN_pC, mR_pC]) <;> rfl)) | (apply stV; focus ((try simp (disch := omega) only [hs.k, ofNat_nI, i_lit, mI_pI, mK_pI, mN_pI, mR_pI, nI_ltI, nI_eq, nI_add, nI_mul, mjIn_nI, nI_clamp, neg1_lt0, if_pos, if_neg, if_true, if_false, Bool.false_eq_true, and_true, true_and, and_false, false_and, mI_pL, mK_pL, mN_pL, mR_pL, mL_pL, mL_pI, mI_pR, mL_pR, mK_pR, mN_pR, mR_pR, mI_pC, mL_pC, mK_pC, mN_pC, mR_pC]) <;> rfl)) | (apply stL; focus ((try simp (disch := omega) only [hs.k, ofNat_nI, i_lit, mI_pI, mK_pI, mN_pI, mR_pI, nI_ltI, nI_eq, nI_add, nI_mul, mjIn_nI, nI_clamp, neg1_lt0, if_pos, if_neg, if_true, if_false, Bool.false_eq_true, and_true, true_and, and_false, false_and, mI_pL, mK_pL, mN_pL, mR_pL, mL_pL, mL_pI, mI_pR, mL_pR, mK_pR, mN_pR, mR_pR, mI_pC, mL_pC, mK_pC, mN_pC, mR_pC]) <;> rfl)) | (apply stA; focus ((try simp (disch := omega) only [hs.k, ofNat_nI, i_lit, mI_pI, mK_pI, mN_pI, mR_pI, nI_ltI, nI_eq, nI_add, nI_mul, mjIn_nI, nI_clamp, neg1_lt0, if_pos, if_neg, if_true, if_false, Bool.false_eq_true, and_true, true_and, and_false, false_and, mI_pL, mK_pL, mN_pL, mR_pL, mL_pL, mL_pI, mI_pR, mL_pR, mK_pR, mN_pR, mR_pR, mI_pC, mL_pC, mK_pC, mN_pC, mR_pC]) <;> rfl)))
    try simp (disch := omega) only [hs.k, ofNat_nI, i_lit, mI_pI, mK_pI, mN_pI, mR_pI, nI_ltI, nI_eq, nI_add, nI_mul, mjIn_nI, nI_clamp, neg1_lt0, if_pos, if_neg, if_true, if_false, Bool.false_eq_true, and_true, true_and, and_false, false_and, mI_pL, mK_pL, mN_pL, mR_pL, mL_pL, mL_pI, mI_pR, mL_pR, mK_pR, mN_pR, mR_pR, mI_pC, mL_pC, mK_pC, mN_pC, mR_pC]
  rw [ef]
  have r := rt_or (lv := lv) E (fact_shr tl 10) (rt_fact E 10 0 (by omega)) (S0 := []) (Or.inl rfl) (by decide) (by omega) 400 false s _ mjD mjD hl (by omega) q0 (by
    show pre.length + s.2.1.length + s.1.length + 0 ≤ 400
    omega)
  cases hF : orF (factF tl 10) 400 false s with
  | inl f =>
    rw [hF] at r
    obtain ⟨h2, e2, f2, w2⟩ := r
    exact ⟨h2, e2, g'.tr f2, w2⟩
  | inr s1 =>
    rw [hF] at r
    obtain ⟨h2, w2, P, ops, e2, f2, q2, eo, hP, nk, bd⟩ := r
    have lo := congrArg List.length eo
    rw [List.length_append] at lo
    have no91 : ¬ 91 ∈ P ++ ([] : List Nat) := fun z => by
      rw [List.append_nil] at z
      rcases hP 91 z with w | w <;> exact absurd w (by decide)
    obtain ⟨h3, e3, f3, q3⟩ := px_go (lv := lv) E q2 w2 (fun x r e => by
      have mx : x ∈ P := by
        rw [List.append_nil] at e
        rw [e]; exact List.mem_cons_self
      rcases hP x mx with z | z <;> rw [z] <;> decide) (Or.inr no91)
    have e4 := kk_is (lv := lv) E q3 w2
    rw [if_neg (show ¬ kd (s1.1, ops, s1.2.2).1 = 133 from nk.2), if_neg (show ¬ kd (s1.1, ops, s1.2.2).1 = 132 from nk.1)] at e4
    obtain ⟨q3, st3⟩ := q3
    have hs3 := q3.o.sh
    have ei := rx_inside (lv := lv) E hs3 st3
    rw [if_neg no91] at ei
    obtain ⟨h4, e5, f5, c5, st5⟩ := lay_all (lv := lv) (l := 1) (S := []) E (by omega) (by omega) (Or.inl rfl) P ops h3 (fun x hx => by rcases hP x hx with z | z <;> rw [z] <;> decide) hs3 q3.o.c st3 (by omega)
    have q5 : RPn h4 tb tl t pre (s1.1, ops ++ P, s1.2.2) := RPn.lay (ops := ops) f5 c5 q3
    rw [← eo] at q5
    refine ⟨h4, ?_, ((g'.tr f2).tr (f3.mono (fun x k => FPo_FRr))).tr (f5.mono (fun x k => FLd_FRr)), q5⟩
    rw [e2, e3, e4, e_166_12 E]
    repeat (first | (apply ifT; focus ((try simp (disch := omega) only [hs3.k, ei, e5, ofNat_nI, i_lit, mI_pI, mK_pI, mN_pI, mR_pI, nI_ltI, nI_eq, nI_add, nI_mul, mjIn_nI, nI_clamp, neg1_lt0, if_pos, if_neg, if_true, if_false, Bool.false_eq_true, and_true, true_and, and_false, false_and, mI_pL, mK_pL, mN_pL, mR_pL, mL_pL, mL_pI, mI_pR, mL_pR, mK_pR, mN_pR, mR_pR, mI_pC, mL_pC, mK_pC, mN_pC, mR_pC]) <;> first | omega | decide)) | (apply ifF; focus ((try simp (disch := omega) only [hs3.k, ei, e5, ofNat_nI, i_lit, mI_pI, mK_pI, mN_pI, mR_pI, nI_ltI, nI_eq, nI_add, nI_mul, mjIn_nI, nI_clamp, neg1_lt0, if_pos, if_neg, if_true, if_false, Bool.false_eq_true, and_true, true_and, and_false, false_and, mI_pL, mK_pL, mN_pL, mR_pL, mL_pL, mL_pI, mI_pR, mL_pR, mK_pR, mN_pR, mR_pR, mI_pC, mL_pC, mK_pC, mN_pC, mR_pC]) <;> first | omega | decide)) | (apply stI; focus ((try simp (disch := omega) only [hs3.k, ei, e5, ofNat_nI, i_lit, mI_pI, mK_pI, mN_pI, mR_pI, nI_ltI, nI_eq, nI_add, nI_mul, mjIn_nI, nI_clamp, neg1_lt0, if_pos, if_neg, if_true, if_false, Bool.false_eq_true, and_true, true_and, and_false, false_and, mI_pL, mK_pL, mN_pL, mR_pL, mL_pL, mL_pI, mI_pR, mL_pR, mK_pR, mN_pR, mR_pR, mI_pC, mL_pC, mK_pC, mN_pC, mR_pC]) <;> rfl)) | (apply stV; focus ((try simp (disch := omega) only [hs3.k, ei, e5, ofNat_nI, i_lit, mI_pI, mK_pI, mN_pI, mR_pI, nI_ltI, nI_eq, nI_add, nI_mul, mjIn_nI, nI_clamp, neg1_lt0, if_pos, if_neg, if_true, if_false, Bool.false_eq_true, and_true, true_and, and_false, false_and, mI_pL, mK_pL, mN_pL, mR_pL, mL_pL, mL_pI, mI_pR, mL_pR, mK_pR, mN_pR, mR_pR, mI_pC, mL_pC, mK_pC, mN_pC, mR_pC]) <;> rfl)) | (apply stL; focus ((try simp (disch := omega) only [hs3.k, ei, e5, ofNat_nI, i_lit, mI_pI, mK_pI, mN_pI, mR_pI, nI_ltI, nI_eq, nI_add, nI_mul, mjIn_nI, nI_clamp, neg1_lt0, if_pos, if_neg, if_true, if_false, Bool.false_eq_true, and_true, true_and, and_false, false_and, mI_pL, mK_pL, mN_pL, mR_pL, mL_pL, mL_pI, mI_pR, mL_pR, mK_pR, mN_pR, mR_pR, mI_pC, mL_pC, mK_pC, mN_pC, mR_pC]) <;> rfl)) | (apply stA; focus ((try simp (disch := omega) only [hs3.k, ei, e5, ofNat_nI, i_lit, mI_pI, mK_pI, mN_pI, mR_pI, nI_ltI, nI_eq, nI_add, nI_mul, mjIn_nI, nI_clamp, neg1_lt0, if_pos, if_neg, if_true, if_false, Bool.false_eq_true, and_true, true_and, and_false, false_and, mI_pL, mK_pL, mN_pL, mR_pL, mL_pL, mL_pI, mI_pR, mL_pR, mK_pR, mN_pR, mR_pR, mI_pC, mL_pC, mK_pC, mN_pC, mR_pC]) <;> rfl)))
    try simp (disch := omega) only [hs3.k, ei, e5, ofNat_nI, i_lit, mI_pI, mK_pI, mN_pI, mR_pI, nI_ltI, nI_eq, nI_add, nI_mul, mjIn_nI, nI_clamp, neg1_lt0, if_pos, if_neg, if_true, if_false, Bool.false_eq_true, and_true, true_and, and_false, false_and, mI_pL, mK_pL, mN_pL, mR_pL, mL_pL, mL_pI, mI_pR, mL_pR, mK_pR, mN_pR, mR_pR, mI_pC, mL_pC, mK_pC, mN_pC, mR_pC]
end RQ
