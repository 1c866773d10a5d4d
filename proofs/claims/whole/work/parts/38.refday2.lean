/-! the reference's day: at the hedge, at home, a day, days -/
theorem five_congr {g g' : Nat → Nat} {a b : Nat} (h : ∀ k, k < 5 → g' (b + k) = g (a + k)) : five g' b = five g a := by
  have h0 := h 0 (by omega)
  have h1 := h 1 (by omega)
  have h2 := h 2 (by omega)
  have h3 := h 3 (by omega)
  have h4 := h 4 (by omega)
  rw [Nat.add_zero, Nat.add_zero] at h0
  unfold five
  omega
theorem lier_congr {g g' : Nat → Nat} : ∀ n p, (∀ k, p ≤ k → k < p + n → g' (37 + k) = g (37 + k)) → lier g' n p = lier g n p := by
  intro n
  induction n with
  | zero => intros; rfl
  | succ n ih =>
    intro p h
    show (if g' (37 + p) = 1 then p else lier g' n (p + 1)) = if g (37 + p) = 1 then p else lier g n (p + 1)
    rw [h p (by omega) (by omega), ih (p + 1) (fun k h1 h2 => h k (by omega) (by omega))]
theorem gld_congr {g g' : Nat → Nat} {m : Nat} (h : ∀ p, p < m → five g' (12 + 5 * p) = five g (12 + 5 * p)) : ∀ n b p, b < m → p + n ≤ m → gld g' n b p = gld g n b p := by
  intro n
  induction n with
  | zero => intros; rfl
  | succ n ih =>
    intro b p hb hp
    show gld g' n (if five g' (12 + 5 * b) < five g' (12 + 5 * p) then p else b) (p + 1) = gld g n (if five g (12 + 5 * b) < five g (12 + 5 * p) then p else b) (p + 1)
    rw [h b hb, h p (by omega)]
    exact ih _ _ (by split <;> omega) (by omega)
theorem glds_congr {g g' : Nat → Nat} (h2 : g' 2 = g 2) (h : ∀ p, p < 5 → five g' (12 + 5 * p) = five g (12 + 5 * p)) (h5 : g 2 ≤ 5) : glds g' = glds g := by
  unfold glds
  rw [h2]
  exact gld_congr h _ _ _ (by omega) (by omega)
theorem neg1 : (-nI 1 : Int32) = -1 := rfl
section RD
variable {ev : mjT} {lv : Nat} {h : mjS} {g : Nat → Nat}
theorem sp_there (E : mjFix ev) (hs : rSh h) (v : V h g) (w : Wb g) {s : Nat} (h3 : s < g 3) : ∃ h', mjCall ev 209 lv [.ref 243, .int (nI s)] h = some (.int (nI (five g (47 + 8 * s + 3))), h') ∧ Fr (fun x _ => x = 253) h h' ∧ V h' (thF g s) := by
  obtain ⟨h6, -, hp5, h25, -⟩ := w.p h3
  have ht := bk_s h6
  have hfv := w.five ht
  obtain ⟨hf1, hf9, hg2, -⟩ := w.far (by omega)
  obtain ⟨h2, e2, f2, v2⟩ := sp_mv (lv := lv) (n := five g (47 + 8 * s + 3)) E hs v (bk_148 ht) (bk_148 bk_h) (by omega) (bk_apart ht bk_h (by omega)) (fun k k1 k2 => by have := w.le bk_h k1 k2; omega) (by omega)
  have w1 := w.mvs (five g (47 + 8 * s + 3)) ht (Or.inr bk_h) (by omega)
  have k1 : Kc g (mvs (five g (47 + 8 * s + 3)) g (47 + 8 * s + 3) 42) := Kc.mvs ht (Or.inr bk_h)
  have hpe : ∀ p, p < 5 → five (mvs (five g (47 + 8 * s + 3)) g (47 + 8 * s + 3) 42) (12 + 5 * p) = five g (12 + 5 * p) := fun p hp => five_congr (fun k hk => mvs_other _ _ (by omega) (by omega))
  unfold thF
  generalize mvs (five g (47 + 8 * s + 3)) g (47 + 8 * s + 3) 42 = g1 at *
  have hs2 := f2.rSh hs
  have z1 : g1 1 = g 1 := k1 1 (by omega)
  have z2 : g1 2 = g 2 := k1 2 (by omega)
  have z3 : g1 (95 + s) = g (95 + s) := k1 (95 + s) (by omega)
  have el : lier g1 (g1 2) 0 = lier g (g 2) 0 := by rw [z2]; exact lier_congr _ _ (fun k _ _ => k1 (37 + k) (by omega))
  have e3 := sp_lier (lv := lv) E hs2 v2 (by omega)
  rw [el] at e3
  have ef : mjCall ev 209 lv [.ref 243, .int (nI s)] h = ev 209 lv 0 [.ref 243, .int (nI s), mjD, mjD, mjD] [] h := rfl
  by_cases q : lier g (g 2) 0 = 9
  · rw [if_pos q]
    rw [q] at e3
    have v3 := v2.up (k := 47 + 8 * s) (x := 2) (by omega)
    have hs3 : rSh (pI h2 253 (47 + 8 * s) (nI 2)) := (Fr.pI (F := fun x _ => x = 253) rfl).rSh hs2
    have e4 := sp_glds (lv := lv) E hs3 v3 (by rw [gup_ne _ _ (by omega)]; omega)
    rw [glds_congr (g := g) (by rw [gup_ne _ _ (by omega)]; exact z2) (fun p hp => by rw [five_gup_out _ _ (by omega)]; exact hpe p hp) h25] at e4
    have hgl := glds_lt hg2
    have f3 : Fr (fun x _ => x = 253) h2 (pI (pI (pI h2 253 (47 + 8 * s) (nI 2)) 253 (47 + 8 * s + 1) (nI (glds g))) 253 (47 + 8 * s + 2) (nI (g 1))) := ((Fr.pI (F := fun x _ => x = 253) rfl).tr (Fr.pI (F := fun x _ => x = 253) rfl)).tr (Fr.pI (F := fun x _ => x = 253) rfl)
    refine ⟨_, ?_, f2.tr f3, (v3.up (by omega)).up (by omega)⟩
    rw [ef, e_209_0 E]
    repeat (first | (apply ifT; focus ((try simp (disch := omega) only [sp_piecesAt E hs v, e2, e3, lI, e4, hs.k, hs.r_said, hs.k_said, hs.n_said, v.at, hs2.k, hs2.r_said, hs2.k_said, hs2.n_said, v2.at, i_lit, mI_pI, mK_pI, mN_pI, mR_pI, nI_ltI, nI_eq, nI_add, nI_mul, mjIn_nI, nI_clamp, neg1_lt0, if_pos, if_neg, if_true, if_false, Bool.false_eq_true, and_true, true_and, and_false, false_and]) <;> omega)) | (apply ifF; focus ((try simp (disch := omega) only [sp_piecesAt E hs v, e2, e3, lI, e4, hs.k, hs.r_said, hs.k_said, hs.n_said, v.at, hs2.k, hs2.r_said, hs2.k_said, hs2.n_said, v2.at, i_lit, mI_pI, mK_pI, mN_pI, mR_pI, nI_ltI, nI_eq, nI_add, nI_mul, mjIn_nI, nI_clamp, neg1_lt0, if_pos, if_neg, if_true, if_false, Bool.false_eq_true, and_true, true_and, and_false, false_and]) <;> omega)) | (apply stI; focus ((try simp (disch := omega) only [sp_piecesAt E hs v, e2, e3, lI, e4, hs.k, hs.r_said, hs.k_said, hs.n_said, v.at, hs2.k, hs2.r_said, hs2.k_said, hs2.n_said, v2.at, i_lit, mI_pI, mK_pI, mN_pI, mR_pI, nI_ltI, nI_eq, nI_add, nI_mul, mjIn_nI, nI_clamp, neg1_lt0, if_pos, if_neg, if_true, if_false, Bool.false_eq_true, and_true, true_and, and_false, false_and]) <;> rfl)) | (apply stV; focus ((try simp (disch := omega) only [sp_piecesAt E hs v, e2, e3, lI, e4, hs.k, hs.r_said, hs.k_said, hs.n_said, v.at, hs2.k, hs2.r_said, hs2.k_said, hs2.n_said, v2.at, i_lit, mI_pI, mK_pI, mN_pI, mR_pI, nI_ltI, nI_eq, nI_add, nI_mul, mjIn_nI, nI_clamp, neg1_lt0, if_pos, if_neg, if_true, if_false, Bool.false_eq_true, and_true, true_and, and_false, false_and]) <;> rfl)))
    try simp (disch := omega) only [sp_piecesAt E hs v, e2, e3, lI, e4, hs.k, hs.r_said, hs.k_said, hs.n_said, v.at, hs2.k, hs2.r_said, hs2.k_said, hs2.n_said, v2.at, i_lit, mI_pI, mK_pI, mN_pI, mR_pI, nI_ltI, nI_eq, nI_add, nI_mul, mjIn_nI, nI_clamp, neg1_lt0, if_pos, if_neg, if_true, if_false, Bool.false_eq_true, and_true, true_and, and_false, false_and]
    rw [e_209_60 E]
    repeat (first | (apply ifT; focus ((try simp (disch := omega) only [z1, hs2.k, hs2.r_said, hs2.k_said, hs2.n_said, v2.at, i_lit, mI_pI, mK_pI, mN_pI, mR_pI, nI_ltI, nI_eq, nI_add, nI_mul, mjIn_nI, nI_clamp, neg1_lt0, if_pos, if_neg, if_true, if_false, Bool.false_eq_true, and_true, true_and, and_false, false_and]) <;> omega)) | (apply ifF; focus ((try simp (disch := omega) only [z1, hs2.k, hs2.r_said, hs2.k_said, hs2.n_said, v2.at, i_lit, mI_pI, mK_pI, mN_pI, mR_pI, nI_ltI, nI_eq, nI_add, nI_mul, mjIn_nI, nI_clamp, neg1_lt0, if_pos, if_neg, if_true, if_false, Bool.false_eq_true, and_true, true_and, and_false, false_and]) <;> omega)) | (apply stI; focus ((try simp (disch := omega) only [z1, hs2.k, hs2.r_said, hs2.k_said, hs2.n_said, v2.at, i_lit, mI_pI, mK_pI, mN_pI, mR_pI, nI_ltI, nI_eq, nI_add, nI_mul, mjIn_nI, nI_clamp, neg1_lt0, if_pos, if_neg, if_true, if_false, Bool.false_eq_true, and_true, true_and, and_false, false_and]) <;> rfl)) | (apply stV; focus ((try simp (disch := omega) only [z1, hs2.k, hs2.r_said, hs2.k_said, hs2.n_said, v2.at, i_lit, mI_pI, mK_pI, mN_pI, mR_pI, nI_ltI, nI_eq, nI_add, nI_mul, mjIn_nI, nI_clamp, neg1_lt0, if_pos, if_neg, if_true, if_false, Bool.false_eq_true, and_true, true_and, and_false, false_and]) <;> rfl)))
    try simp (disch := omega) only [z1, hs2.k, hs2.r_said, hs2.k_said, hs2.n_said, v2.at, i_lit, mI_pI, mK_pI, mN_pI, mR_pI, nI_ltI, nI_eq, nI_add, nI_mul, mjIn_nI, nI_clamp, neg1_lt0, if_pos, if_neg, if_true, if_false, Bool.false_eq_true, and_true, true_and, and_false, false_and]
  · rw [if_neg q]
    have hll := lier_lt h25 q
    have e3' : lI (lier g (g 2) 0) = nI (lier g (g 2) 0) := by unfold lI; rw [if_neg q]
    rw [e3'] at e3
    have v4 : V (pI (pI (pI h2 253 (47 + 8 * s) (nI 2)) 253 (47 + 8 * s + 1) (nI (lier g (g 2) 0))) 253 (47 + 8 * s + 2) (nI (g 1))) (gsp g1 s 2 (lier g (g 2) 0) (g 1)) := ((v2.up (by omega)).up (by omega)).up (by omega)
    have w4 := w1.gsp (s := s) (a := 2) (b := lier g (g 2) 0) (c := g 1) (by rw [k1 3 (by omega)]; exact h3) (by omega) (by omega) hf9
    have f3 : Fr (fun x _ => x = 253) h2 (pI (pI (pI h2 253 (47 + 8 * s) (nI 2)) 253 (47 + 8 * s + 1) (nI (lier g (g 2) 0))) 253 (47 + 8 * s + 2) (nI (g 1))) := ((Fr.pI (F := fun x _ => x = 253) rfl).tr (Fr.pI (F := fun x _ => x = 253) rfl)).tr (Fr.pI (F := fun x _ => x = 253) rfl)
    have hs4 := f3.rSh hs2
    have hc := w.1.2.1 s h6
    obtain ⟨h5, e5, f5, v5⟩ := sp_mv (lv := lv) (n := g (95 + s)) E hs4 v4 (bk_148 bk_h) (bk_148 ht) (by omega) (bk_apart bk_h ht (by omega)) (fun k k1 k2 => by have := w4.le ht k1 k2; omega) (by omega)
    refine ⟨h5, ?_, (f2.tr f3).tr f5, v5⟩
    rw [ef, e_209_0 E]
    repeat (first | (apply ifT; focus ((try simp (disch := omega) only [sp_piecesAt E hs v, e2, e3, hs.k, hs.r_said, hs.k_said, hs.n_said, v.at, hs2.k, hs2.r_said, hs2.k_said, hs2.n_said, v2.at, i_lit, mI_pI, mK_pI, mN_pI, mR_pI, nI_ltI, nI_eq, nI_add, nI_mul, mjIn_nI, nI_clamp, neg1_lt0, if_pos, if_neg, if_true, if_false, Bool.false_eq_true, and_true, true_and, and_false, false_and]) <;> omega)) | (apply ifF; focus ((try simp (disch := omega) only [sp_piecesAt E hs v, e2, e3, hs.k, hs.r_said, hs.k_said, hs.n_said, v.at, hs2.k, hs2.r_said, hs2.k_said, hs2.n_said, v2.at, i_lit, mI_pI, mK_pI, mN_pI, mR_pI, nI_ltI, nI_eq, nI_add, nI_mul, mjIn_nI, nI_clamp, neg1_lt0, if_pos, if_neg, if_true, if_false, Bool.false_eq_true, and_true, true_and, and_false, false_and]) <;> omega)) | (apply stI; focus ((try simp (disch := omega) only [sp_piecesAt E hs v, e2, e3, hs.k, hs.r_said, hs.k_said, hs.n_said, v.at, hs2.k, hs2.r_said, hs2.k_said, hs2.n_said, v2.at, i_lit, mI_pI, mK_pI, mN_pI, mR_pI, nI_ltI, nI_eq, nI_add, nI_mul, mjIn_nI, nI_clamp, neg1_lt0, if_pos, if_neg, if_true, if_false, Bool.false_eq_true, and_true, true_and, and_false, false_and]) <;> rfl)) | (apply stV; focus ((try simp (disch := omega) only [sp_piecesAt E hs v, e2, e3, hs.k, hs.r_said, hs.k_said, hs.n_said, v.at, hs2.k, hs2.r_said, hs2.k_said, hs2.n_said, v2.at, i_lit, mI_pI, mK_pI, mN_pI, mR_pI, nI_ltI, nI_eq, nI_add, nI_mul, mjIn_nI, nI_clamp, neg1_lt0, if_pos, if_neg, if_true, if_false, Bool.false_eq_true, and_true, true_and, and_false, false_and]) <;> rfl)))
    try simp (disch := omega) only [sp_piecesAt E hs v, e2, e3, hs.k, hs.r_said, hs.k_said, hs.n_said, v.at, hs2.k, hs2.r_said, hs2.k_said, hs2.n_said, v2.at, i_lit, mI_pI, mK_pI, mN_pI, mR_pI, nI_ltI, nI_eq, nI_add, nI_mul, mjIn_nI, nI_clamp, neg1_lt0, if_pos, if_neg, if_true, if_false, Bool.false_eq_true, and_true, true_and, and_false, false_and]
    rw [e_209_60 E]
    repeat (first | (apply ifT; focus ((try simp (disch := omega) only [z1, z3, e5, hs2.k, hs2.r_said, hs2.k_said, hs2.n_said, v2.at, i_lit, mI_pI, mK_pI, mN_pI, mR_pI, nI_ltI, nI_eq, nI_add, nI_mul, mjIn_nI, nI_clamp, neg1_lt0, if_pos, if_neg, if_true, if_false, Bool.false_eq_true, and_true, true_and, and_false, false_and]) <;> omega)) | (apply ifF; focus ((try simp (disch := omega) only [z1, z3, e5, hs2.k, hs2.r_said, hs2.k_said, hs2.n_said, v2.at, i_lit, mI_pI, mK_pI, mN_pI, mR_pI, nI_ltI, nI_eq, nI_add, nI_mul, mjIn_nI, nI_clamp, neg1_lt0, if_pos, if_neg, if_true, if_false, Bool.false_eq_true, and_true, true_and, and_false, false_and]) <;> omega)) | (apply stI; focus ((try simp (disch := omega) only [z1, z3, e5, hs2.k, hs2.r_said, hs2.k_said, hs2.n_said, v2.at, i_lit, mI_pI, mK_pI, mN_pI, mR_pI, nI_ltI, nI_eq, nI_add, nI_mul, mjIn_nI, nI_clamp, neg1_lt0, if_pos, if_neg, if_true, if_false, Bool.false_eq_true, and_true, true_and, and_false, false_and]) <;> rfl)) | (apply stV; focus ((try simp (disch := omega) only [z1, z3, e5, hs2.k, hs2.r_said, hs2.k_said, hs2.n_said, v2.at, i_lit, mI_pI, mK_pI, mN_pI, mR_pI, nI_ltI, nI_eq, nI_add, nI_mul, mjIn_nI, nI_clamp, neg1_lt0, if_pos, if_neg, if_true, if_false, Bool.false_eq_true, and_true, true_and, and_false, false_and]) <;> rfl)))
    try simp (disch := omega) only [z1, z3, e5, hs2.k, hs2.r_said, hs2.k_said, hs2.n_said, v2.at, i_lit, mI_pI, mK_pI, mN_pI, mR_pI, nI_ltI, nI_eq, nI_add, nI_mul, mjIn_nI, nI_clamp, neg1_lt0, if_pos, if_neg, if_true, if_false, Bool.false_eq_true, and_true, true_and, and_false, false_and]
theorem sp_home (E : mjFix ev) (hs : rSh h) (v : V h g) (w : Wb g) {s : Nat} (h3 : s < g 3) : ∃ h', mjCall ev 210 lv [.ref 243, .int (nI s)] h = some (.ref 0, h') ∧ Fr (fun x _ => x = 253) h h' ∧ V h' (hoF g s) := by
  obtain ⟨h6, -, hp5, h25, -⟩ := w.p h3
  have ht := bk_s h6
  have ha := bk_p hp5
  have hfv := w.five ht
  obtain ⟨h2, e2, f2, v2⟩ := sp_mv (lv := lv) (n := five g (47 + 8 * s + 3)) E hs v (bk_148 ht) (bk_148 ha) (by omega) (bk_apart ht ha (by omega)) (fun k k1 k2 => by have := w.le ha k1 k2; omega) (by omega)
  have hs2 := f2.rSh hs
  have ef : mjCall ev 210 lv [.ref 243, .int (nI s)] h = ev 210 lv 0 [.ref 243, .int (nI s), mjD] [] h := rfl
  refine ⟨pI h2 253 (47 + 8 * s) (nI 0), ?_, f2.tr (Fr.pI (F := fun x _ => x = 253) rfl), v2.up (by omega)⟩
  rw [ef, e_210_0 E]
  repeat (first | (apply ifT; focus ((try simp (disch := omega) only [sp_piecesAt E hs v, e2, hs.k, hs.r_said, hs.k_said, hs.n_said, v.at, hs2.k, hs2.r_said, hs2.k_said, hs2.n_said, v2.at, i_lit, mI_pI, mK_pI, mN_pI, mR_pI, nI_ltI, nI_eq, nI_add, nI_mul, mjIn_nI, nI_clamp, neg1_lt0, if_pos, if_neg, if_true, if_false, Bool.false_eq_true, and_true, true_and, and_false, false_and]) <;> omega)) | (apply ifF; focus ((try simp (disch := omega) only [sp_piecesAt E hs v, e2, hs.k, hs.r_said, hs.k_said, hs.n_said, v.at, hs2.k, hs2.r_said, hs2.k_said, hs2.n_said, v2.at, i_lit, mI_pI, mK_pI, mN_pI, mR_pI, nI_ltI, nI_eq, nI_add, nI_mul, mjIn_nI, nI_clamp, neg1_lt0, if_pos, if_neg, if_true, if_false, Bool.false_eq_true, and_true, true_and, and_false, false_and]) <;> omega)) | (apply stI; focus ((try simp (disch := omega) only [sp_piecesAt E hs v, e2, hs.k, hs.r_said, hs.k_said, hs.n_said, v.at, hs2.k, hs2.r_said, hs2.k_said, hs2.n_said, v2.at, i_lit, mI_pI, mK_pI, mN_pI, mR_pI, nI_ltI, nI_eq, nI_add, nI_mul, mjIn_nI, nI_clamp, neg1_lt0, if_pos, if_neg, if_true, if_false, Bool.false_eq_true, and_true, true_and, and_false, false_and]) <;> rfl)) | (apply stV; focus ((try simp (disch := omega) only [sp_piecesAt E hs v, e2, hs.k, hs.r_said, hs.k_said, hs.n_said, v.at, hs2.k, hs2.r_said, hs2.k_said, hs2.n_said, v2.at, i_lit, mI_pI, mK_pI, mN_pI, mR_pI, nI_ltI, nI_eq, nI_add, nI_mul, mjIn_nI, nI_clamp, neg1_lt0, if_pos, if_neg, if_true, if_false, Bool.false_eq_true, and_true, true_and, and_false, false_and]) <;> rfl)))
  try simp (disch := omega) only [sp_piecesAt E hs v, e2, hs.k, hs.r_said, hs.k_said, hs.n_said, v.at, hs2.k, hs2.r_said, hs2.k_said, hs2.n_said, v2.at, i_lit, mI_pI, mK_pI, mN_pI, mR_pI, nI_ltI, nI_eq, nI_add, nI_mul, mjIn_nI, nI_clamp, neg1_lt0, if_pos, if_neg, if_true, if_false, Bool.false_eq_true, and_true, true_and, and_false, false_and]
theorem sp_runs (E : mjFix ev) (hs : rSh h) (v : V h g) (w : Wg g) {L : (Nat → Nat) → Nat → Bool} (lo : LO ev lv h L) {s : Nat} (h3 : s < g 3) : ∃ h', mjCall ev 211 lv [.ref 243, .int (nI s)] h = some (.int (nI (ruN g s)), h') ∧ Fr FD h h' ∧ V h' (ruF L g s) := by
  obtain ⟨h6, -, hp5, h25, h9⟩ := w.1.p h3
  have hst := (w.1.2.1 s h6).1
  have ef : mjCall ev 211 lv [.ref 243, .int (nI s)] h = ev 211 lv 0 [.ref 243, .int (nI s), mjD] [] h := rfl
  unfold ruF
  by_cases q0 : g (47 + 8 * s) = 0
  · rw [if_pos q0, show ruN g s = 0 by unfold ruN; rw [if_neg (by omega)]]
    obtain ⟨h', e1, f1, v1⟩ := sp_starts (lv := lv) E hs v w.1 lo h3 q0
    refine ⟨h', ?_, f1, v1⟩
    rw [ef, e_211_0 E]
    repeat (first | (apply ifT; focus ((try simp (disch := omega) only [e1, hs.k, hs.r_said, hs.k_said, hs.n_said, v.at, i_lit, mI_pI, mK_pI, mN_pI, mR_pI, nI_ltI, nI_eq, nI_add, nI_mul, mjIn_nI, nI_clamp, neg1_lt0, if_pos, if_neg, if_true, if_false, Bool.false_eq_true, and_true, true_and, and_false, false_and]) <;> omega)) | (apply ifF; focus ((try simp (disch := omega) only [e1, hs.k, hs.r_said, hs.k_said, hs.n_said, v.at, i_lit, mI_pI, mK_pI, mN_pI, mR_pI, nI_ltI, nI_eq, nI_add, nI_mul, mjIn_nI, nI_clamp, neg1_lt0, if_pos, if_neg, if_true, if_false, Bool.false_eq_true, and_true, true_and, and_false, false_and]) <;> omega)) | (apply stI; focus ((try simp (disch := omega) only [e1, hs.k, hs.r_said, hs.k_said, hs.n_said, v.at, i_lit, mI_pI, mK_pI, mN_pI, mR_pI, nI_ltI, nI_eq, nI_add, nI_mul, mjIn_nI, nI_clamp, neg1_lt0, if_pos, if_neg, if_true, if_false, Bool.false_eq_true, and_true, true_and, and_false, false_and]) <;> rfl)) | (apply stV; focus ((try simp (disch := omega) only [e1, hs.k, hs.r_said, hs.k_said, hs.n_said, v.at, i_lit, mI_pI, mK_pI, mN_pI, mR_pI, nI_ltI, nI_eq, nI_add, nI_mul, mjIn_nI, nI_clamp, neg1_lt0, if_pos, if_neg, if_true, if_false, Bool.false_eq_true, and_true, true_and, and_false, false_and]) <;> rfl)))
    try simp (disch := omega) only [e1, hs.k, hs.r_said, hs.k_said, hs.n_said, v.at, i_lit, mI_pI, mK_pI, mN_pI, mR_pI, nI_ltI, nI_eq, nI_add, nI_mul, mjIn_nI, nI_clamp, neg1_lt0, if_pos, if_neg, if_true, if_false, Bool.false_eq_true, and_true, true_and, and_false, false_and]
  · rw [if_neg q0]
    have hl := w.2 s h6 q0
    have v1 := v.up (k := 47 + 8 * s + 2) (x := g (47 + 8 * s + 2) - 1) (by omega)
    have f1 : Fr (fun x _ => x = 253) h (pI h 253 (47 + 8 * s + 2) (nI (g (47 + 8 * s + 2) - 1))) := Fr.pI (F := fun x _ => x = 253) rfl
    have hs1 := f1.rSh hs
    have kd : Kc g (dec g s) := Kc.dec h6
    have h3' : s < dec g s 3 := by rw [kd 3 (by omega)]; exact h3
    by_cases q1 : 1 < g (47 + 8 * s + 2)
    · rw [if_pos q1, show ruN g s = 0 by unfold ruN; rw [if_neg (by omega)]]
      refine ⟨_, ?_, f1.mono (fun x k hx => Or.inl hx), v1⟩
      rw [ef, e_211_0 E]
      repeat (first | (apply ifT; focus ((try simp (disch := omega) only [nI_sub, hs.k, hs.r_said, hs.k_said, hs.n_said, v.at, i_lit, mI_pI, mK_pI, mN_pI, mR_pI, nI_ltI, nI_eq, nI_add, nI_mul, mjIn_nI, nI_clamp, neg1_lt0, if_pos, if_neg, if_true, if_false, Bool.false_eq_true, and_true, true_and, and_false, false_and]) <;> omega)) | (apply ifF; focus ((try simp (disch := omega) only [nI_sub, hs.k, hs.r_said, hs.k_said, hs.n_said, v.at, i_lit, mI_pI, mK_pI, mN_pI, mR_pI, nI_ltI, nI_eq, nI_add, nI_mul, mjIn_nI, nI_clamp, neg1_lt0, if_pos, if_neg, if_true, if_false, Bool.false_eq_true, and_true, true_and, and_false, false_and]) <;> omega)) | (apply stI; focus ((try simp (disch := omega) only [nI_sub, hs.k, hs.r_said, hs.k_said, hs.n_said, v.at, i_lit, mI_pI, mK_pI, mN_pI, mR_pI, nI_ltI, nI_eq, nI_add, nI_mul, mjIn_nI, nI_clamp, neg1_lt0, if_pos, if_neg, if_true, if_false, Bool.false_eq_true, and_true, true_and, and_false, false_and]) <;> rfl)) | (apply stV; focus ((try simp (disch := omega) only [nI_sub, hs.k, hs.r_said, hs.k_said, hs.n_said, v.at, i_lit, mI_pI, mK_pI, mN_pI, mR_pI, nI_ltI, nI_eq, nI_add, nI_mul, mjIn_nI, nI_clamp, neg1_lt0, if_pos, if_neg, if_true, if_false, Bool.false_eq_true, and_true, true_and, and_false, false_and]) <;> rfl)))
      try simp (disch := omega) only [nI_sub, hs.k, hs.r_said, hs.k_said, hs.n_said, v.at, i_lit, mI_pI, mK_pI, mN_pI, mR_pI, nI_ltI, nI_eq, nI_add, nI_mul, mjIn_nI, nI_clamp, neg1_lt0, if_pos, if_neg, if_true, if_false, Bool.false_eq_true, and_true, true_and, and_false, false_and]
    · rw [if_neg q1]
      by_cases q2 : g (47 + 8 * s) = 1
      · rw [if_pos q2, show ruN g s = five g (47 + 8 * s + 3) by unfold ruN; rw [if_pos ⟨q2, q1⟩]]
        obtain ⟨h', e2, f2, v2⟩ := sp_there (lv := lv) E hs1 v1 (w.1.dec h3) h3'
        rw [show five (gup g (47 + 8 * s + 2) (g (47 + 8 * s + 2) - 1)) (47 + 8 * s + 3) = five g (47 + 8 * s + 3) from five_gup_out _ _ (by omega)] at e2
        refine ⟨h', ?_, (f1.tr f2).mono (fun x k hx => Or.inl hx), v2⟩
        rw [ef, e_211_0 E]
        repeat (first | (apply ifT; focus ((try simp (disch := omega) only [nI_sub, e2, hs.k, hs.r_said, hs.k_said, hs.n_said, v.at, i_lit, mI_pI, mK_pI, mN_pI, mR_pI, nI_ltI, nI_eq, nI_add, nI_mul, mjIn_nI, nI_clamp, neg1_lt0, if_pos, if_neg, if_true, if_false, Bool.false_eq_true, and_true, true_and, and_false, false_and]) <;> omega)) | (apply ifF; focus ((try simp (disch := omega) only [nI_sub, e2, hs.k, hs.r_said, hs.k_said, hs.n_said, v.at, i_lit, mI_pI, mK_pI, mN_pI, mR_pI, nI_ltI, nI_eq, nI_add, nI_mul, mjIn_nI, nI_clamp, neg1_lt0, if_pos, if_neg, if_true, if_false, Bool.false_eq_true, and_true, true_and, and_false, false_and]) <;> omega)) | (apply stI; focus ((try simp (disch := omega) only [nI_sub, e2, hs.k, hs.r_said, hs.k_said, hs.n_said, v.at, i_lit, mI_pI, mK_pI, mN_pI, mR_pI, nI_ltI, nI_eq, nI_add, nI_mul, mjIn_nI, nI_clamp, neg1_lt0, if_pos, if_neg, if_true, if_false, Bool.false_eq_true, and_true, true_and, and_false, false_and]) <;> rfl)) | (apply stV; focus ((try simp (disch := omega) only [nI_sub, e2, hs.k, hs.r_said, hs.k_said, hs.n_said, v.at, i_lit, mI_pI, mK_pI, mN_pI, mR_pI, nI_ltI, nI_eq, nI_add, nI_mul, mjIn_nI, nI_clamp, neg1_lt0, if_pos, if_neg, if_true, if_false, Bool.false_eq_true, and_true, true_and, and_false, false_and]) <;> rfl)))
        try simp (disch := omega) only [nI_sub, e2, hs.k, hs.r_said, hs.k_said, hs.n_said, v.at, i_lit, mI_pI, mK_pI, mN_pI, mR_pI, nI_ltI, nI_eq, nI_add, nI_mul, mjIn_nI, nI_clamp, neg1_lt0, if_pos, if_neg, if_true, if_false, Bool.false_eq_true, and_true, true_and, and_false, false_and]
      · rw [if_neg q2, show ruN g s = 0 by unfold ruN; rw [if_neg (fun z => q2 z.1)]]
        obtain ⟨h', e2, f2, v2⟩ := sp_home (lv := lv) E hs1 v1 (w.1.dec h3) h3'
        refine ⟨h', ?_, (f1.tr f2).mono (fun x k hx => Or.inl hx), v2⟩
        rw [ef, e_211_0 E]
        repeat (first | (apply ifT; focus ((try simp (disch := omega) only [nI_sub, e2, hs.k, hs.r_said, hs.k_said, hs.n_said, v.at, i_lit, mI_pI, mK_pI, mN_pI, mR_pI, nI_ltI, nI_eq, nI_add, nI_mul, mjIn_nI, nI_clamp, neg1_lt0, if_pos, if_neg, if_true, if_false, Bool.false_eq_true, and_true, true_and, and_false, false_and]) <;> omega)) | (apply ifF; focus ((try simp (disch := omega) only [nI_sub, e2, hs.k, hs.r_said, hs.k_said, hs.n_said, v.at, i_lit, mI_pI, mK_pI, mN_pI, mR_pI, nI_ltI, nI_eq, nI_add, nI_mul, mjIn_nI, nI_clamp, neg1_lt0, if_pos, if_neg, if_true, if_false, Bool.false_eq_true, and_true, true_and, and_false, false_and]) <;> omega)) | (apply stI; focus ((try simp (disch := omega) only [nI_sub, e2, hs.k, hs.r_said, hs.k_said, hs.n_said, v.at, i_lit, mI_pI, mK_pI, mN_pI, mR_pI, nI_ltI, nI_eq, nI_add, nI_mul, mjIn_nI, nI_clamp, neg1_lt0, if_pos, if_neg, if_true, if_false, Bool.false_eq_true, and_true, true_and, and_false, false_and]) <;> rfl)) | (apply stV; focus ((try simp (disch := omega) only [nI_sub, e2, hs.k, hs.r_said, hs.k_said, hs.n_said, v.at, i_lit, mI_pI, mK_pI, mN_pI, mR_pI, nI_ltI, nI_eq, nI_add, nI_mul, mjIn_nI, nI_clamp, neg1_lt0, if_pos, if_neg, if_true, if_false, Bool.false_eq_true, and_true, true_and, and_false, false_and]) <;> rfl)))
        try simp (disch := omega) only [nI_sub, e2, hs.k, hs.r_said, hs.k_said, hs.n_said, v.at, i_lit, mI_pI, mK_pI, mN_pI, mR_pI, nI_ltI, nI_eq, nI_add, nI_mul, mjIn_nI, nI_clamp, neg1_lt0, if_pos, if_neg, if_true, if_false, Bool.false_eq_true, and_true, true_and, and_false, false_and]
theorem sp_build (E : mjFix ev) (hs : rSh h) (v : V h g) (w : Wg g) (hd : g 10 ≤ 20000) {n : Nat} (hn : g 3 ≤ n) (h6 : n < 1000) (m : Int32) : ∃ h', ev 212 lv 4 [.ref 243, .int m, .int (nI n)] [] h = some (.int m, h') ∧ Fr (fun x _ => x = 253) h h' ∧ V h' (gup (buF g) 10 (buF g 10 + 1)) := by
  obtain ⟨⟨h0, -, -, h1, h2, h3, h4, -⟩, -, hn60, -⟩ := w.1.1
  have hb := v.five_lt (a := 42) (by omega)
  have h11 := w.1.2.2.2.1
  have k1 : Kc g (mvs (g (101 + g 11)) g 42 0) := Kc.mvs bk_h (Or.inl rfl)
  unfold buF
  by_cases q : g 11 < g 4
  · have hq := hn60 (g 11) (by omega)
    by_cases q2 : five g 42 < g (101 + g 11)
    · rw [if_neg (fun z => z.2 q2)]
      refine ⟨pI h 253 10 (nI (g 10 + 1)), ?_, Fr.pI (F := fun x _ => x = 253) rfl, v.up (by omega)⟩
      rw [e_212_4 E]
      repeat (first | (apply ifT; focus ((try simp (disch := omega) only [sp_piecesAt E hs v, hs.k, hs.r_said, hs.k_said, hs.n_said, v.at, i_lit, mI_pI, mK_pI, mN_pI, mR_pI, nI_ltI, nI_eq, nI_add, nI_mul, mjIn_nI, nI_clamp, neg1_lt0, if_pos, if_neg, if_true, if_false, Bool.false_eq_true, and_true, true_and, and_false, false_and]) <;> omega)) | (apply ifF; focus ((try simp (disch := omega) only [sp_piecesAt E hs v, hs.k, hs.r_said, hs.k_said, hs.n_said, v.at, i_lit, mI_pI, mK_pI, mN_pI, mR_pI, nI_ltI, nI_eq, nI_add, nI_mul, mjIn_nI, nI_clamp, neg1_lt0, if_pos, if_neg, if_true, if_false, Bool.false_eq_true, and_true, true_and, and_false, false_and]) <;> omega)) | (apply stI; focus ((try simp (disch := omega) only [sp_piecesAt E hs v, hs.k, hs.r_said, hs.k_said, hs.n_said, v.at, i_lit, mI_pI, mK_pI, mN_pI, mR_pI, nI_ltI, nI_eq, nI_add, nI_mul, mjIn_nI, nI_clamp, neg1_lt0, if_pos, if_neg, if_true, if_false, Bool.false_eq_true, and_true, true_and, and_false, false_and]) <;> rfl)) | (apply stV; focus ((try simp (disch := omega) only [sp_piecesAt E hs v, hs.k, hs.r_said, hs.k_said, hs.n_said, v.at, i_lit, mI_pI, mK_pI, mN_pI, mR_pI, nI_ltI, nI_eq, nI_add, nI_mul, mjIn_nI, nI_clamp, neg1_lt0, if_pos, if_neg, if_true, if_false, Bool.false_eq_true, and_true, true_and, and_false, false_and]) <;> rfl)))
      try simp (disch := omega) only [sp_piecesAt E hs v, hs.k, hs.r_said, hs.k_said, hs.n_said, v.at, i_lit, mI_pI, mK_pI, mN_pI, mR_pI, nI_ltI, nI_eq, nI_add, nI_mul, mjIn_nI, nI_clamp, neg1_lt0, if_pos, if_neg, if_true, if_false, Bool.false_eq_true, and_true, true_and, and_false, false_and]
    · rw [if_pos ⟨q, q2⟩]
      obtain ⟨hh, e2, f2, v2⟩ := sp_mvOff (lv := lv) (n := g (101 + g 11)) E hs v (bk_148 bk_h) (fun k hk => by have := v.lt (k := k) (by omega); rcases (show k = 0 ∨ k = 1 ∨ k = 2 ∨ k = 3 ∨ k = 4 by omega) with rfl | rfl | rfl | rfl | rfl <;> omega) (by omega)
      have hs2 := f2.rSh hs
      have z11 : mvs (g (101 + g 11)) g 42 0 11 = g 11 := mvs_npc _ _ bk_h (Or.inl rfl) (by decide)
      have z10 : mvs (g (101 + g 11)) g 42 0 10 = g 10 := mvs_npc _ _ bk_h (Or.inl rfl) (by decide)
      rw [gup_ne (j := 10) _ _ (by omega), z10]
      refine ⟨pI (pI hh 253 11 (nI (g 11 + 1))) 253 10 (nI (g 10 + 1)), ?_, f2.tr ((Fr.pI (F := fun x _ => x = 253) rfl).tr (Fr.pI (F := fun x _ => x = 253) rfl)), (v2.up (by omega)).up (by omega)⟩
      rw [e_212_4 E]
      repeat (first | (apply ifT; focus ((try simp (disch := omega) only [sp_piecesAt E hs v, neg1, e2, z11, z10, hs.k, hs.r_said, hs.k_said, hs.n_said, v.at, hs2.k, hs2.r_said, hs2.k_said, hs2.n_said, v2.at, i_lit, mI_pI, mK_pI, mN_pI, mR_pI, nI_ltI, nI_eq, nI_add, nI_mul, mjIn_nI, nI_clamp, neg1_lt0, if_pos, if_neg, if_true, if_false, Bool.false_eq_true, and_true, true_and, and_false, false_and]) <;> omega)) | (apply ifF; focus ((try simp (disch := omega) only [sp_piecesAt E hs v, neg1, e2, z11, z10, hs.k, hs.r_said, hs.k_said, hs.n_said, v.at, hs2.k, hs2.r_said, hs2.k_said, hs2.n_said, v2.at, i_lit, mI_pI, mK_pI, mN_pI, mR_pI, nI_ltI, nI_eq, nI_add, nI_mul, mjIn_nI, nI_clamp, neg1_lt0, if_pos, if_neg, if_true, if_false, Bool.false_eq_true, and_true, true_and, and_false, false_and]) <;> omega)) | (apply stI; focus ((try simp (disch := omega) only [sp_piecesAt E hs v, neg1, e2, z11, z10, hs.k, hs.r_said, hs.k_said, hs.n_said, v.at, hs2.k, hs2.r_said, hs2.k_said, hs2.n_said, v2.at, i_lit, mI_pI, mK_pI, mN_pI, mR_pI, nI_ltI, nI_eq, nI_add, nI_mul, mjIn_nI, nI_clamp, neg1_lt0, if_pos, if_neg, if_true, if_false, Bool.false_eq_true, and_true, true_and, and_false, false_and]) <;> rfl)) | (apply stV; focus ((try simp (disch := omega) only [sp_piecesAt E hs v, neg1, e2, z11, z10, hs.k, hs.r_said, hs.k_said, hs.n_said, v.at, hs2.k, hs2.r_said, hs2.k_said, hs2.n_said, v2.at, i_lit, mI_pI, mK_pI, mN_pI, mR_pI, nI_ltI, nI_eq, nI_add, nI_mul, mjIn_nI, nI_clamp, neg1_lt0, if_pos, if_neg, if_true, if_false, Bool.false_eq_true, and_true, true_and, and_false, false_and]) <;> rfl)))
      try simp (disch := omega) only [sp_piecesAt E hs v, neg1, e2, z11, z10, hs.k, hs.r_said, hs.k_said, hs.n_said, v.at, hs2.k, hs2.r_said, hs2.k_said, hs2.n_said, v2.at, i_lit, mI_pI, mK_pI, mN_pI, mR_pI, nI_ltI, nI_eq, nI_add, nI_mul, mjIn_nI, nI_clamp, neg1_lt0, if_pos, if_neg, if_true, if_false, Bool.false_eq_true, and_true, true_and, and_false, false_and]
  · rw [if_neg (fun z => q z.1)]
    refine ⟨pI h 253 10 (nI (g 10 + 1)), ?_, Fr.pI (F := fun x _ => x = 253) rfl, v.up (by omega)⟩
    rw [e_212_4 E]
    repeat (first | (apply ifT; focus ((try simp (disch := omega) only [hs.k, hs.r_said, hs.k_said, hs.n_said, v.at, i_lit, mI_pI, mK_pI, mN_pI, mR_pI, nI_ltI, nI_eq, nI_add, nI_mul, mjIn_nI, nI_clamp, neg1_lt0, if_pos, if_neg, if_true, if_false, Bool.false_eq_true, and_true, true_and, and_false, false_and]) <;> omega)) | (apply ifF; focus ((try simp (disch := omega) only [hs.k, hs.r_said, hs.k_said, hs.n_said, v.at, i_lit, mI_pI, mK_pI, mN_pI, mR_pI, nI_ltI, nI_eq, nI_add, nI_mul, mjIn_nI, nI_clamp, neg1_lt0, if_pos, if_neg, if_true, if_false, Bool.false_eq_true, and_true, true_and, and_false, false_and]) <;> omega)) | (apply stI; focus ((try simp (disch := omega) only [hs.k, hs.r_said, hs.k_said, hs.n_said, v.at, i_lit, mI_pI, mK_pI, mN_pI, mR_pI, nI_ltI, nI_eq, nI_add, nI_mul, mjIn_nI, nI_clamp, neg1_lt0, if_pos, if_neg, if_true, if_false, Bool.false_eq_true, and_true, true_and, and_false, false_and]) <;> rfl)) | (apply stV; focus ((try simp (disch := omega) only [hs.k, hs.r_said, hs.k_said, hs.n_said, v.at, i_lit, mI_pI, mK_pI, mN_pI, mR_pI, nI_ltI, nI_eq, nI_add, nI_mul, mjIn_nI, nI_clamp, neg1_lt0, if_pos, if_neg, if_true, if_false, Bool.false_eq_true, and_true, true_and, and_false, false_and]) <;> rfl)))
    try simp (disch := omega) only [hs.k, hs.r_said, hs.k_said, hs.n_said, v.at, i_lit, mI_pI, mK_pI, mN_pI, mR_pI, nI_ltI, nI_eq, nI_add, nI_mul, mjIn_nI, nI_clamp, neg1_lt0, if_pos, if_neg, if_true, if_false, Bool.false_eq_true, and_true, true_and, and_false, false_and]
theorem sp_passes (E : mjFix ev) (hs : rSh h) (v : V h g) (w : Wg g) {L : (Nat → Nat) → Nat → Bool} (lo : LO ev lv h L) (hd : g 10 ≤ 20000) : ∃ h', mjCall ev 212 lv [.ref 243] h = some (.int (nI (dayN L g)), h') ∧ Fr FD h h' ∧ V h' (dayF L g) := by
  have at_ : ∀ (n s m : Nat) (h : mjS) (g : Nat → Nat), rSh h → V h g → Wg g → LO ev lv h L → g 10 ≤ 20000 → s + n = g 3 → ∃ h', ev 212 lv 4 [.ref 243, .int (nI m), .int (nI s)] [] h = some (.int (nI (came L n s g m)), h') ∧ Fr FD h h' ∧ V h' (gup (buF (runs L n s g)) 10 (buF (runs L n s g) 10 + 1)) := by
    intro n
    induction n with
    | zero =>
      intro s m h g hs v w lo hd hn
      have h3 : g 3 ≤ 6 := w.1.1.1.2.2.2.2.2.1
      obtain ⟨h', e, f, v'⟩ := sp_build (lv := lv) E hs v w hd (n := s) (by omega) (by omega) (nI m)
      exact ⟨h', e, f.mono (fun x k hx => Or.inl hx), v'⟩
    | succ n ih =>
      intro s m h g hs v w lo hd hn
      have h3 : g 3 ≤ 6 := w.1.1.1.2.2.2.2.2.1
      obtain ⟨h1, e1, f1, v1⟩ := sp_runs (lv := lv) E hs v w lo (s := s) (by omega)
      have kk := ru_keeps (L := L) w (s := s) (by omega)
      obtain ⟨h2, e2, f2, v2⟩ := ih (s + 1) (m + ruN g s) h1 (ruF L g s) (f1.rSh hs) v1 kk.1 (lo.fr f1) (by rw [kk.2 10 (by omega)]; exact hd) (by rw [kk.2 3 (by omega)]; omega)
      refine ⟨h2, ?_, f1.tr f2, v2⟩
      show _ = some (Value.int (nI (came L n (s + 1) (ruF L g s) (m + ruN g s))), h2)
      rw [← e2, e_212_4 E]
      repeat (first | (apply ifT; focus ((try simp (disch := omega) only [e1, hs.k, hs.r_said, hs.k_said, hs.n_said, v.at, i_lit, mI_pI, mK_pI, mN_pI, mR_pI, nI_ltI, nI_eq, nI_add, nI_mul, mjIn_nI, nI_clamp, neg1_lt0, if_pos, if_neg, if_true, if_false, Bool.false_eq_true, and_true, true_and, and_false, false_and]) <;> omega)) | (apply ifF; focus ((try simp (disch := omega) only [e1, hs.k, hs.r_said, hs.k_said, hs.n_said, v.at, i_lit, mI_pI, mK_pI, mN_pI, mR_pI, nI_ltI, nI_eq, nI_add, nI_mul, mjIn_nI, nI_clamp, neg1_lt0, if_pos, if_neg, if_true, if_false, Bool.false_eq_true, and_true, true_and, and_false, false_and]) <;> omega)) | (apply stI; focus ((try simp (disch := omega) only [e1, hs.k, hs.r_said, hs.k_said, hs.n_said, v.at, i_lit, mI_pI, mK_pI, mN_pI, mR_pI, nI_ltI, nI_eq, nI_add, nI_mul, mjIn_nI, nI_clamp, neg1_lt0, if_pos, if_neg, if_true, if_false, Bool.false_eq_true, and_true, true_and, and_false, false_and]) <;> rfl)) | (apply stV; focus ((try simp (disch := omega) only [e1, hs.k, hs.r_said, hs.k_said, hs.n_said, v.at, i_lit, mI_pI, mK_pI, mN_pI, mR_pI, nI_ltI, nI_eq, nI_add, nI_mul, mjIn_nI, nI_clamp, neg1_lt0, if_pos, if_neg, if_true, if_false, Bool.false_eq_true, and_true, true_and, and_false, false_and]) <;> rfl)))
      try simp (disch := omega) only [e1, hs.k, hs.r_said, hs.k_said, hs.n_said, v.at, i_lit, mI_pI, mK_pI, mN_pI, mR_pI, nI_ltI, nI_eq, nI_add, nI_mul, mjIn_nI, nI_clamp, neg1_lt0, if_pos, if_neg, if_true, if_false, Bool.false_eq_true, and_true, true_and, and_false, false_and]
  obtain ⟨h', e, f, v'⟩ := at_ (g 3) 0 0 h g hs v w lo hd (by omega)
  refine ⟨h', ?_, f, v'⟩
  show ev 212 lv 0 [.ref 243, mjD, mjD] [] h = _
  rw [e_212_0 E]
  exact e
/-- so many days -/
def days (L : (Nat → Nat) → Nat → Bool) : Nat → (Nat → Nat) → (Nat → Nat)
  | 0, g => g
  | n + 1, g => days L n (dayF L g)
theorem sp_passesAll (E : mjFix ev) (hs : rSh h) (v : V h g) (w : Wg g) {L : (Nat → Nat) → Nat → Bool} (lo : LO ev lv h L) {n : Nat} (hd : g 10 + n ≤ 20000) : ∃ h', mjCall ev 213 lv [.ref 243, .int (nI n)] h = some (.ref 0, h') ∧ Fr FD h h' ∧ V h' (days L n g) := by
  have at_ : ∀ (m k : Nat) (h : mjS) (g : Nat → Nat), rSh h → V h g → Wg g → LO ev lv h L → g 10 + m ≤ 20000 → k + m = n → ∃ h', ev 213 lv 2 [.ref 243, .int (nI n), .int (nI k)] [] h = some (.ref 0, h') ∧ Fr FD h h' ∧ V h' (days L m g) := by
    intro m
    induction m with
    | zero =>
      intro k h g hs v w lo hd hn
      refine ⟨h, ?_, Fr.rf, v⟩
      rw [e_213_2 E]
      repeat (first | (apply ifT; focus ((try simp (disch := omega) only [hs.k, hs.r_said, hs.k_said, hs.n_said, v.at, i_lit, mI_pI, mK_pI, mN_pI, mR_pI, nI_ltI, nI_eq, nI_add, nI_mul, mjIn_nI, nI_clamp, neg1_lt0, if_pos, if_neg, if_true, if_false, Bool.false_eq_true, and_true, true_and, and_false, false_and]) <;> omega)) | (apply ifF; focus ((try simp (disch := omega) only [hs.k, hs.r_said, hs.k_said, hs.n_said, v.at, i_lit, mI_pI, mK_pI, mN_pI, mR_pI, nI_ltI, nI_eq, nI_add, nI_mul, mjIn_nI, nI_clamp, neg1_lt0, if_pos, if_neg, if_true, if_false, Bool.false_eq_true, and_true, true_and, and_false, false_and]) <;> omega)) | (apply stI; focus ((try simp (disch := omega) only [hs.k, hs.r_said, hs.k_said, hs.n_said, v.at, i_lit, mI_pI, mK_pI, mN_pI, mR_pI, nI_ltI, nI_eq, nI_add, nI_mul, mjIn_nI, nI_clamp, neg1_lt0, if_pos, if_neg, if_true, if_false, Bool.false_eq_true, and_true, true_and, and_false, false_and]) <;> rfl)) | (apply stV; focus ((try simp (disch := omega) only [hs.k, hs.r_said, hs.k_said, hs.n_said, v.at, i_lit, mI_pI, mK_pI, mN_pI, mR_pI, nI_ltI, nI_eq, nI_add, nI_mul, mjIn_nI, nI_clamp, neg1_lt0, if_pos, if_neg, if_true, if_false, Bool.false_eq_true, and_true, true_and, and_false, false_and]) <;> rfl)))
      try simp (disch := omega) only [hs.k, hs.r_said, hs.k_said, hs.n_said, v.at, i_lit, mI_pI, mK_pI, mN_pI, mR_pI, nI_ltI, nI_eq, nI_add, nI_mul, mjIn_nI, nI_clamp, neg1_lt0, if_pos, if_neg, if_true, if_false, Bool.false_eq_true, and_true, true_and, and_false, false_and]
    | succ m ih =>
      intro k h g hs v w lo hd hn
      obtain ⟨h1, e1, f1, v1⟩ := sp_passes (lv := lv) E hs v w lo (by omega)
      have kk := day_keeps (L := L) w
      obtain ⟨h2, e2, f2, v2⟩ := ih (k + 1) h1 (dayF L g) (f1.rSh hs) v1 kk.1 (lo.fr f1) (by rw [kk.2.2]; omega) (by omega)
      refine ⟨h2, ?_, f1.tr f2, v2⟩
      rw [← e2, e_213_2 E]
      repeat (first | (apply ifT; focus ((try simp (disch := omega) only [e1, hs.k, hs.r_said, hs.k_said, hs.n_said, v.at, i_lit, mI_pI, mK_pI, mN_pI, mR_pI, nI_ltI, nI_eq, nI_add, nI_mul, mjIn_nI, nI_clamp, neg1_lt0, if_pos, if_neg, if_true, if_false, Bool.false_eq_true, and_true, true_and, and_false, false_and]) <;> omega)) | (apply ifF; focus ((try simp (disch := omega) only [e1, hs.k, hs.r_said, hs.k_said, hs.n_said, v.at, i_lit, mI_pI, mK_pI, mN_pI, mR_pI, nI_ltI, nI_eq, nI_add, nI_mul, mjIn_nI, nI_clamp, neg1_lt0, if_pos, if_neg, if_true, if_false, Bool.false_eq_true, and_true, true_and, and_false, false_and]) <;> omega)) | (apply stI; focus ((try simp (disch := omega) only [e1, hs.k, hs.r_said, hs.k_said, hs.n_said, v.at, i_lit, mI_pI, mK_pI, mN_pI, mR_pI, nI_ltI, nI_eq, nI_add, nI_mul, mjIn_nI, nI_clamp, neg1_lt0, if_pos, if_neg, if_true, if_false, Bool.false_eq_true, and_true, true_and, and_false, false_and]) <;> rfl)) | (apply stV; focus ((try simp (disch := omega) only [e1, hs.k, hs.r_said, hs.k_said, hs.n_said, v.at, i_lit, mI_pI, mK_pI, mN_pI, mR_pI, nI_ltI, nI_eq, nI_add, nI_mul, mjIn_nI, nI_clamp, neg1_lt0, if_pos, if_neg, if_true, if_false, Bool.false_eq_true, and_true, true_and, and_false, false_and]) <;> rfl)))
      try simp (disch := omega) only [e1, hs.k, hs.r_said, hs.k_said, hs.n_said, v.at, i_lit, mI_pI, mK_pI, mN_pI, mR_pI, nI_ltI, nI_eq, nI_add, nI_mul, mjIn_nI, nI_clamp, neg1_lt0, if_pos, if_neg, if_true, if_false, Bool.false_eq_true, and_true, true_and, and_false, false_and]
  obtain ⟨h', e, f, v'⟩ := at_ n 0 h g hs v w lo hd (by omega)
  refine ⟨h', ?_, f, v'⟩
  show ev 213 lv 0 [.ref 243, .int (nI n), mjD] [] h = _
  rw [e_213_0 E]
  exact e
theorem days_keeps {L : (Nat → Nat) → Nat → Bool} : ∀ (n : Nat) {g : Nat → Nat}, Wg g → Wg (days L n g) ∧ Kd g (days L n g) ∧ days L n g 10 = g 10 + n := by
  intro n
  induction n with
  | zero => intro g w; exact ⟨w, Kd.rf, rfl⟩
  | succ n ih =>
    intro g w
    have k := day_keeps (L := L) w
    have i := ih k.1
    exact ⟨i.1, k.2.1.tr i.2.1, by have := i.2.2; show days L n (dayF L g) 10 = _; omega⟩
end RD
