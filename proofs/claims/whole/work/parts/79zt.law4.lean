/-! the law: call after call -/
section LZ
variable {ev : mjT} {lv L B i : Nat} {h : mjS} {s : gst}
theorem lw_skip (E : mjFix ev) (hL : L ≤ 3072) (hi : i + 6 ≤ L) (j : JT L B h s) {o : Nat} (op : mI h 1 i &&& nI 63 = nI o) (o1 : 36 ≤ o) (o2 : o < 64) : LwS ev lv L B i h := by
  have k1 := j.2.2.2.1
  have n1 := j.2.2.2.2
  have lt := ls_go hL hi
  refine ⟨h, s, ?_, ⟨j.1, j.2.1, ws_mono (by omega) j.2.2.1, k1, n1⟩, by omega, by omega⟩
  rw [e_263_18 E]
  repeat (first | (apply ifT; focus ((try simp (disch := omega) only [k1, n1, lt, op, ofNat_nI, i_lit, mI_pI, mK_pI, mN_pI, mR_pI, nI_ltI, nI_eq, nI_add, nI_mul, mjIn_nI, nI_clamp, neg1_lt0, if_pos, if_neg, if_true, if_false, Bool.false_eq_true, and_true, true_and, and_false, false_and, mI_pL, mK_pL, mN_pL, mR_pL, mL_pL, mL_pI, mI_pR, mL_pR, mK_pR, mN_pR, mR_pR, mI_pC, mL_pC, mK_pC, mN_pC, mR_pC]) <;> first | omega | decide)) | (apply ifF; focus ((try simp (disch := omega) only [k1, n1, lt, op, ofNat_nI, i_lit, mI_pI, mK_pI, mN_pI, mR_pI, nI_ltI, nI_eq, nI_add, nI_mul, mjIn_nI, nI_clamp, neg1_lt0, if_pos, if_neg, if_true, if_false, Bool.false_eq_true, and_true, true_and, and_false, false_and, mI_pL, mK_pL, mN_pL, mR_pL, mL_pL, mL_pI, mI_pR, mL_pR, mK_pR, mN_pR, mR_pR, mI_pC, mL_pC, mK_pC, mN_pC, mR_pC]) <;> first | omega | decide)) | (apply stI; focus ((try simp (disch := omega) only [k1, n1, lt, op, ofNat_nI, i_lit, mI_pI, mK_pI, mN_pI, mR_pI, nI_ltI, nI_eq, nI_add, nI_mul, mjIn_nI, nI_clamp, neg1_lt0, if_pos, if_neg, if_true, if_false, Bool.false_eq_true, and_true, true_and, and_false, false_and, mI_pL, mK_pL, mN_pL, mR_pL, mL_pL, mL_pI, mI_pR, mL_pR, mK_pR, mN_pR, mR_pR, mI_pC, mL_pC, mK_pC, mN_pC, mR_pC]) <;> rfl)) | (apply stV; focus ((try simp (disch := omega) only [k1, n1, lt, op, ofNat_nI, i_lit, mI_pI, mK_pI, mN_pI, mR_pI, nI_ltI, nI_eq, nI_add, nI_mul, mjIn_nI, nI_clamp, neg1_lt0, if_pos, if_neg, if_true, if_false, Bool.false_eq_true, and_true, true_and, and_false, false_and, mI_pL, mK_pL, mN_pL, mR_pL, mL_pL, mL_pI, mI_pR, mL_pR, mK_pR, mN_pR, mR_pR, mI_pC, mL_pC, mK_pC, mN_pC, mR_pC]) <;> rfl)) | (apply stL; focus ((try simp (disch := omega) only [k1, n1, lt, op, ofNat_nI, i_lit, mI_pI, mK_pI, mN_pI, mR_pI, nI_ltI, nI_eq, nI_add, nI_mul, mjIn_nI, nI_clamp, neg1_lt0, if_pos, if_neg, if_true, if_false, Bool.false_eq_true, and_true, true_and, and_false, false_and, mI_pL, mK_pL, mN_pL, mR_pL, mL_pL, mL_pI, mI_pR, mL_pR, mK_pR, mN_pR, mR_pR, mI_pC, mL_pC, mK_pC, mN_pC, mR_pC]) <;> rfl)) | (apply stA; focus ((try simp (disch := omega) only [k1, n1, lt, op, ofNat_nI, i_lit, mI_pI, mK_pI, mN_pI, mR_pI, nI_ltI, nI_eq, nI_add, nI_mul, mjIn_nI, nI_clamp, neg1_lt0, if_pos, if_neg, if_true, if_false, Bool.false_eq_true, and_true, true_and, and_false, false_and, mI_pL, mK_pL, mN_pL, mR_pL, mL_pL, mL_pI, mI_pR, mL_pR, mK_pR, mN_pR, mR_pR, mI_pC, mL_pC, mK_pC, mN_pC, mR_pC]) <;> rfl)))
  try simp (disch := omega) only [k1, n1, lt, op, ofNat_nI, i_lit, mI_pI, mK_pI, mN_pI, mR_pI, nI_ltI, nI_eq, nI_add, nI_mul, mjIn_nI, nI_clamp, neg1_lt0, if_pos, if_neg, if_true, if_false, Bool.false_eq_true, and_true, true_and, and_false, false_and, mI_pL, mK_pL, mN_pL, mR_pL, mL_pL, mL_pI, mI_pR, mL_pR, mK_pR, mN_pR, mR_pR, mI_pC, mL_pC, mK_pC, mN_pC, mR_pC]
  try rfl
theorem lw_any (E : mjFix ev) (hlv : 10 ≤ lv) (hL : L ≤ 3072) (hi : i + 6 ≤ L) (j : JT L B h s) (b3 : 300 ≤ B) (b9 : B ≤ 8990) : LwS ev lv L B i h := by
  obtain ⟨o, op, o64⟩ : ∃ o, mI h 1 i &&& nI 63 = nI o ∧ o < 64 := by
    have e := pk_andN (n := (mI h 1 i).toBitVec.toNat) (mI h 1 i).toBitVec.isLt (m := nI 63) 6 (by decide)
    rw [nI_bv] at e
    exact ⟨_, e, Nat.mod_lt _ (by decide)⟩
  have w := j.2.2.1
  have hB : B ≤ 9000 := by omega
  by_cases y : 36 ≤ o
  · exact lw_skip E hL hi j op y o64
  · rcases (show o = 0 ∨ o = 1 ∨ o = 2 ∨ o = 3 ∨ o = 4 ∨ o = 5 ∨ o = 6 ∨ o = 7 ∨ o = 8 ∨ o = 9 ∨ o = 10 ∨ o = 11 ∨ o = 12 ∨ o = 13 ∨ o = 14 ∨ o = 15 ∨ o = 16 ∨ o = 17 ∨ o = 18 ∨ o = 19 ∨ o = 20 ∨ o = 21 ∨ o = 22 ∨ o = 23 ∨ o = 24 ∨ o = 25 ∨ o = 26 ∨ o = 27 ∨ o = 28 ∨ o = 29 ∨ o = 30 ∨ o = 31 ∨ o = 32 ∨ o = 33 ∨ o = 34 ∨ o = 35 by omega) with z | z | z | z | z | z | z | z | z | z | z | z | z | z | z | z | z | z | z | z | z | z | z | z | z | z | z | z | z | z | z | z | z | z | z | z
    · subst z
      refine lw_0 E hL hi j op (PR.act j ?_ (fun h1 r1 => rk_Feed E r1 w (mI h 1 (i + 1)) (mI h 1 (i + 2)) (mI h 1 (i + 3)) (mI h 1 (i + 4)) (mI h 1 (i + 5))) (ws_mono (by omega) (ws_Feed w (mI h 1 (i + 1)) (mI h 1 (i + 2)) (mI h 1 (i + 3)) (mI h 1 (i + 4)) (mI h 1 (i + 5)))))
      obtain ⟨h1, e1, c1, m1⟩ := cl_Feed (lv := lv) E j.1 w (mI h 1 (i + 1)) (mI h 1 (i + 2)) (mI h 1 (i + 3)) (mI h 1 (i + 4)) (mI h 1 (i + 5))
      exact ⟨h1, e1, c1, m1.cg⟩
    · subst z
      refine lw_1 E hL hi j op (PR.act j ?_ (fun h1 r1 => rk_End E r1 w (mI h 1 (i + 1))) (ws_mono (by omega) (ws_End w (mI h 1 (i + 1)))))
      obtain ⟨h1, e1, c1, m1⟩ := cl_End (lv := lv) E j.1 w (mI h 1 (i + 1))
      exact ⟨h1, e1, c1, m1.cg⟩
    · subst z
      obtain ⟨a, f⟩ := cl_Field (lv := lv) E j.1 w
      exact lw_2 E hL hi j op (PR.act j a (fun h1 r1 => rk_Field E r1 w f) (ws_mono (by omega) (ws_Field w b3)))
    · subst z
      obtain ⟨a, f⟩ := cl_Rule (lv := lv) E j.1 w hlv
      exact lw_3 E hL hi j op (PR.act j a (fun h1 r1 => rk_Rule E r1 w f) (ws_mono (by omega) (ws_Rule w)))
    · subst z
      refine lw_4 E hL hi j op (PR.act j ?_ (fun h1 r1 => rk_Force E r1 w (mI h 1 (i + 1))) (ws_mono (by omega) (ws_Force w (mI h 1 (i + 1)))))
      obtain ⟨h1, e1, c1, m1⟩ := cl_Force (lv := lv) E j.1 w (mI h 1 (i + 1))
      exact ⟨h1, e1, c1, m1.cg⟩
    · subst z
      exact lw_5 E hL hi j op (PR.look j (cl_Person E j.1 w (mI h 1 (i + 1)) (mI h 1 (i + 2))) (rk_Person E j.2.1 w (mI h 1 (i + 1)) (mI h 1 (i + 2))))
    · subst z
      exact lw_6 E hL hi j op (PR.look j (cl_Spider E j.1 w (mI h 1 (i + 1)) (mI h 1 (i + 2))) (rk_Spider E j.2.1 w (mI h 1 (i + 1)) (mI h 1 (i + 2))))
    · subst z
      exact lw_7 E hL hi j op (PR.look j (cl_Hedge E j.1 w (mI h 1 (i + 1))) (rk_Hedge E j.2.1 w (mI h 1 (i + 1))))
    · subst z
      exact lw_8 E hL hi j op (PR.look j (cl_Work E j.1 w (mI h 1 (i + 1))) (rk_Work E j.2.1 w (mI h 1 (i + 1))))
    · subst z
      refine lw_9 E hL hi j op (PR.act j ?_ (fun h1 r1 => rk_Day E r1 w ) (ws_mono (by omega) (ws_Day w )))
      obtain ⟨h1, e1, c1, m1⟩ := cl_Day (lv := lv) E j.1 w 
      exact ⟨h1, e1, c1, m1.cg⟩
    · subst z
      refine lw_10 E hL hi j op (PR.act j ?_ (fun h1 r1 => rk_Lie E r1 w (mI h 1 (i + 1))) (ws_mono (by omega) (ws_Lie w (mI h 1 (i + 1)))))
      obtain ⟨h1, e1, c1, m1⟩ := cl_Lie (lv := lv) E j.1 w (mI h 1 (i + 1))
      exact ⟨h1, e1, c1, m1.cg⟩
    · subst z
      refine lw_11 E hL hi j op (PR.act j ?_ (fun h1 r1 => rk_Cheer E r1 w (mI h 1 (i + 1)) (mI h 1 (i + 2))) (ws_Cheer w hB (mI h 1 (i + 1)) (mI h 1 (i + 2))))
      obtain ⟨h1, e1, c1, m1⟩ := cl_Cheer (lv := lv) E j.1 w (mI h 1 (i + 1)) (mI h 1 (i + 2))
      exact ⟨h1, e1, c1, m1.cg⟩
    · subst z
      refine lw_12 E hL hi j op (PR.act j ?_ (fun h1 r1 => rk_Give E r1 w (mI h 1 (i + 1)) (mI h 1 (i + 2)) (mI h 1 (i + 3))) (ws_mono (by omega) (ws_Give w hB (mI h 1 (i + 1)) (mI h 1 (i + 2)) (mI h 1 (i + 3)))))
      obtain ⟨h1, e1, c1, m1⟩ := cl_Give (lv := lv) E j.1 w (mI h 1 (i + 1)) (mI h 1 (i + 2)) (mI h 1 (i + 3))
      exact ⟨h1, e1, c1, m1.cg⟩
    · subst z
      refine lw_13 E hL hi j op (PR.act j ?_ (fun h1 r1 => rk_Brush E r1 w (mI h 1 (i + 1)) (mI h 1 (i + 2))) (ws_mono (by omega) (ws_Brush w (mI h 1 (i + 1)) (mI h 1 (i + 2)))))
      obtain ⟨h1, e1, c1, m1⟩ := cl_Brush (lv := lv) E j.1 w (mI h 1 (i + 1)) (mI h 1 (i + 2))
      exact ⟨h1, e1, c1, m1.cg⟩
    · subst z
      refine lw_14 E hL hi j op (PR.act j ?_ (fun h1 r1 => rk_Undo E r1 w ) (ws_mono (by omega) (ws_Undo w )))
      obtain ⟨h1, e1, c1, m1⟩ := cl_Undo (lv := lv) E j.1 w 
      exact ⟨h1, e1, c1, m1.cg⟩
    · subst z
      exact lw_15 E hL hi j op (PR.ask j (cl_Ahead E j.1 w (mI h 1 (i + 1)) (mI h 1 (i + 2)) (mI h 1 (i + 3))) (fun h1 r1 => rk_Ahead E r1 w (mI h 1 (i + 1)) (mI h 1 (i + 2)) (mI h 1 (i + 3))))
    · subst z
      exact lw_16 E hL hi j op (PR.ask j (cl_Made E j.1 w hB (mI h 1 (i + 1))) (fun h1 r1 => rk_Made E r1 w hB (mI h 1 (i + 1))))
    · subst z
      exact lw_17 E hL hi j op (PR.ask j (cl_Even E j.1 w hB (mI h 1 (i + 1))) (fun h1 r1 => rk_Even E r1 w hB (mI h 1 (i + 1))))
    · subst z
      exact lw_18 E hL hi j op (PR.ask j (cl_Home E j.1 w hB (mI h 1 (i + 1)) (mI h 1 (i + 2))) (fun h1 r1 => rk_Home E r1 w hB (mI h 1 (i + 1)) (mI h 1 (i + 2))))
    · subst z
      exact lw_19 E hL hi j op (PR.ask j (cl_Lowest E j.1 w hB (mI h 1 (i + 1)) (mI h 1 (i + 2)) (mI h 1 (i + 3))) (fun h1 r1 => rk_Lowest E r1 w hB (mI h 1 (i + 1)) (mI h 1 (i + 2)) (mI h 1 (i + 3))))
    · subst z
      exact lw_20 E hL hi j op (PR.ask j (cl_Lying E j.1 w hB (mI h 1 (i + 1)) (mI h 1 (i + 2))) (fun h1 r1 => rk_Lying E r1 w hB (mI h 1 (i + 1)) (mI h 1 (i + 2))))
    · subst z
      exact lw_21 E hL hi j op (PR.ask j (cl_Had E j.1 w hB (mI h 1 (i + 1)) (mI h 1 (i + 2)) (mI h 1 (i + 3)) (mI h 1 (i + 4))) (fun h1 r1 => rk_Had E r1 w hB (mI h 1 (i + 1)) (mI h 1 (i + 2)) (mI h 1 (i + 3)) (mI h 1 (i + 4))))
    · subst z
      exact lw_22 E hL hi j op (PR.ask j (cl_Brushed E j.1 w hB (mI h 1 (i + 1)) (mI h 1 (i + 2)) (mI h 1 (i + 3))) (fun h1 r1 => rk_Brushed E r1 w hB (mI h 1 (i + 1)) (mI h 1 (i + 2)) (mI h 1 (i + 3))))
    · subst z
      exact lw_23 E hL hi j op (PR.ask j (cl_Skip E j.1 w hB (mI h 1 (i + 1)) (mI h 1 (i + 2))) (fun h1 r1 => rk_Skip E r1 w hB (mI h 1 (i + 1)) (mI h 1 (i + 2))))
    · subst z
      exact lw_24 E hL hi j op (PR.ask j (cl_Owed E j.1 w hB (mI h 1 (i + 1))) (fun h1 r1 => rk_Owed E r1 w hB (mI h 1 (i + 1))))
    · subst z
      exact lw_25 E hL hi j op (PR.ask j (cl_Rests E j.1 w hB (mI h 1 (i + 1)) (mI h 1 (i + 2)) (mI h 1 (i + 3)) (mI h 1 (i + 4))) (fun h1 r1 => rk_Rests E r1 w hB (mI h 1 (i + 1)) (mI h 1 (i + 2)) (mI h 1 (i + 3)) (mI h 1 (i + 4))))
    · subst z
      exact lw_26 E hL hi j op (PR.ask j (cl_Ring E j.1 w hB (mI h 1 (i + 1))) (fun h1 r1 => rk_Ring E r1 w hB (mI h 1 (i + 1))))
    · subst z
      exact lw_27 E hL hi j op (PR.ask j (cl_Pence E j.1 w hB (mI h 1 (i + 1)) (mI h 1 (i + 2))) (fun h1 r1 => rk_Pence E r1 w hB (mI h 1 (i + 1)) (mI h 1 (i + 2))))
    · subst z
      refine lw_28 E hL hi j op (PR.act j ?_ (fun h1 r1 => rk_Note E r1 w (mI h 1 (i + 1)) (mI h 1 (i + 2)) (mI h 1 (i + 3))) (ws_mono (by omega) (ws_Note w (mI h 1 (i + 1)) (mI h 1 (i + 2)) (mI h 1 (i + 3)))))
      obtain ⟨h1, e1, c1, m1⟩ := cl_Note (lv := lv) E j.1 w (mI h 1 (i + 1)) (mI h 1 (i + 2)) (mI h 1 (i + 3))
      exact ⟨h1, e1, c1, m1.cg⟩
    · subst z
      exact lw_29 E hL hi j op (PR.ask j (cl_Ruled E j.1 w hB (mI h 1 (i + 1))) (fun h1 r1 => rk_Ruled E r1 w hB (mI h 1 (i + 1))))
    · subst z
      exact lw_30 E hL hi j op (PR.ask j (cl_Look E j.1 w hB (mI h 1 (i + 1)) (mI h 1 (i + 2))) (fun h1 r1 => rk_Look E r1 w hB (mI h 1 (i + 1)) (mI h 1 (i + 2))))
    · subst z
      refine lw_31 E hL hi j op (PR.act j ?_ (fun h1 r1 => rk_Seed E r1 (mI h 1 (i + 1))) (ws_mono (by omega) (ws_Seed w (mI h 1 (i + 1)))))
      obtain ⟨h1, e1, c1, m1⟩ := cl_Seed (lv := lv) E j.1 (mI h 1 (i + 1))
      exact ⟨h1, e1, c1, m1.cg⟩
    · subst z
      exact lw_32 E hL hi j op (PR.ask j (cl_Breezes E j.1 w hB (mI h 1 (i + 1)) (mI h 1 (i + 2)) (mI h 1 (i + 3)) (mI h 1 (i + 4))) (fun h1 r1 => rk_Breezes E r1 w hB (mI h 1 (i + 1)) (mI h 1 (i + 2)) (mI h 1 (i + 3)) (mI h 1 (i + 4))))
    · subst z
      exact lw_33 E hL hi j op (PR.look j (cl_Count E j.1 w (mI h 1 (i + 1))) (rk_Count E j.2.1 w (mI h 1 (i + 1))))
    · subst z
      refine lw_34 E hL hi j op (PR.act j ?_ (fun h1 r1 => rk_Image E r1 w (mI h 1 (i + 1))) (ws_mono (by omega) (ws_Image w (mI h 1 (i + 1)))))
      obtain ⟨h1, e1, c1, m1⟩ := cl_Image (lv := lv) E j.1 w (mI h 1 (i + 1))
      exact ⟨h1, e1, c1, m1.cg⟩
    · subst z
      refine lw_35 E hL hi j op (PR.act j ?_ (fun h1 r1 => rk_Back E r1 w (mI h 1 (i + 1))) (ws_mono (by omega) (ws_Back w (mI h 1 (i + 1)))))
      obtain ⟨h1, e1, c1, m1⟩ := cl_Back (lv := lv) E j.1 w (mI h 1 (i + 1))
      exact ⟨h1, e1, c1, m1.cg⟩
theorem ls_end {L i : Nat} (hL : L ≤ 3072) (hi : L < i + 6) (i4 : i ≤ 4000) : nI L - nI 6 < nI i := by
  rw [Int32.lt_iff_toInt_lt, pk_sub_toInt (by omega) (by omega), nI_toInt (by omega)]; omega
theorem lw_loop (E : mjFix ev) (hlv : 10 ≤ lv) (hL : L ≤ 3072) : ∀ (m i B : Nat) (h : mjS) (s : gst), L ≤ i + 6 * m → i ≤ 3078 → JT L B h s → 300 ≤ B → B + 9 * m ≤ 8990 → ∃ h', ev 263 lv 18 [.ref 1, .ref 4, .ref 243, .int (nI i)] [] h = some (.int 1, h') ∧ mX h' ≤ mX h + 5 * m ∧ mZ h' ≤ mZ h + 500 * m := by
  have fin : ∀ (i B : Nat) (h : mjS) (s : gst), L < i + 6 → i ≤ 3078 → JT L B h s → ev 263 lv 18 [.ref 1, .ref 4, .ref 243, .int (nI i)] [] h = some (.int 1, h) := by
    intro i B h s hi h4 j
    have k1 := j.2.2.2.1
    have n1 := j.2.2.2.2
    have lt := ls_end hL hi (by omega)
    rw [e_263_18 E]
    refine ifT k1 (ifT ?_ rfl)
    rw [n1]
    exact lt
  intro m
  induction m with
  | zero =>
    intro i B h s hi h4 j b3 b9
    exact ⟨h, fin i B h s (by omega) h4 j, by omega, by omega⟩
  | succ m ih =>
    intro i B h s hi h4 j b3 b9
    by_cases y : i + 6 ≤ L
    · obtain ⟨h2, s', e2, j2, x2, z2⟩ := lw_any E hlv hL y j b3 (by omega)
      obtain ⟨h', e', x', z'⟩ := ih (i + 6) (B + 9) h2 s' (by omega) (by omega) j2 (by omega) (by omega)
      exact ⟨h', e2.trans e', by omega, by omega⟩
    · exact ⟨h, fin i B h s (by omega) h4 j, by omega, by omega⟩
end LZ
