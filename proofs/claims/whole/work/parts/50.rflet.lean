/-! the reference: the sum of a rule, who lies, whether a spider is let go -/
/-- who lies, as bits, of so many people -/
def mkp (g : Nat → Nat) : Nat → Nat
  | 0 => 0
  | p + 1 => mkp g p + if g (37 + p) = 1 then 2 ^ p else 0
theorem mkp_lt (g : Nat → Nat) : ∀ p, mkp g p < 2 ^ p := by
  intro p
  induction p with
  | zero => exact Nat.one_pos
  | succ p ih =>
    show mkp g p + _ < 2 ^ (p + 1)
    rw [Nat.pow_succ]
    split <;> omega
theorem mkp_msk {g : Nat → Nat} (w : Wb g) : mkp g (g 2) = msk g := by
  have h25 : g 2 ≤ 5 := w.1.1.2.2.2.2.1
  have h0 := w.2.2.1 0 (by omega)
  have h1 := w.2.2.1 1 (by omega)
  have h2 := w.2.2.1 2 (by omega)
  have h3 := w.2.2.1 3 (by omega)
  have h4 := w.2.2.1 4 (by omega)
  simp only [Nat.reduceAdd] at h0 h1 h2 h3 h4
  have b : ∀ x : Nat, x ≤ 1 → ∀ k : Nat, (if x = 1 then k else 0) = k * x := by
    intro x hx k
    rcases (show x = 0 ∨ x = 1 by omega) with rfl | rfl <;> simp
  have e0 := b (g 37) h0.1
  have e1 := b (g 38) h1.1
  have e2 := b (g 39) h2.1
  have e3 := b (g 40) h3.1
  have e4 := b (g 41) h4.1
  unfold msk
  rcases (show g 2 = 0 ∨ g 2 = 1 ∨ g 2 = 2 ∨ g 2 = 3 ∨ g 2 = 4 ∨ g 2 = 5 by omega) with e | e | e | e | e | e <;> rw [e]
  · show 0 = _; have := h0.2; have := h1.2; have := h2.2; have := h3.2; have := h4.2; omega
  · show 0 + (if g 37 = 1 then 1 else 0) = _; rw [e0]; have := h1.2; have := h2.2; have := h3.2; have := h4.2; omega
  · show 0 + (if g 37 = 1 then 1 else 0) + (if g 38 = 1 then 2 else 0) = _; rw [e0, e1]; have := h2.2; have := h3.2; have := h4.2; omega
  · show 0 + (if g 37 = 1 then 1 else 0) + (if g 38 = 1 then 2 else 0) + (if g 39 = 1 then 4 else 0) = _; rw [e0, e1, e2]; have := h3.2; have := h4.2; omega
  · show 0 + (if g 37 = 1 then 1 else 0) + (if g 38 = 1 then 2 else 0) + (if g 39 = 1 then 4 else 0) + (if g 40 = 1 then 8 else 0) = _; rw [e0, e1, e2, e3]; have := h4.2; omega
  · show 0 + (if g 37 = 1 then 1 else 0) + (if g 38 = 1 then 2 else 0) + (if g 39 = 1 then 4 else 0) + (if g 40 = 1 then 8 else 0) + (if g 41 = 1 then 16 else 0) = _; rw [e0, e1, e2, e3, e4]; omega
theorem or_bit : ∀ p, p < 5 → ∀ m, m < 32 → m < 2 ^ p → nI m ||| (nI 1 <<< (nI p &&& nI 31)) = nI (m + 2 ^ p) := by decide +kernel
theorem or_0 : ∀ m, m < 32 → nI m ||| nI 0 = nI m := by decide +kernel
section RL
variable {ev : mjT} {lv : Nat} {h : mjS} {g : Nat → Nat}
theorem sp_liers (E : mjFix ev) (hs : rSh h) (v : V h g) (w : Wb g) : mjCall ev 192 lv [.ref 243] h = some (.int (nI (msk g)), h) := by
  have h25 : g 2 ≤ 5 := w.1.1.2.2.2.2.1
  have at_ : ∀ n p, p + n = g 2 → ev 192 lv 4 [.ref 243, .int (nI (mkp g p)), .int (nI p)] [] h = some (.int (nI (msk g)), h) := by
    intro n
    induction n with
    | zero =>
      intro p hp
      rw [e_192_4 E, ← mkp_msk w, show p = g 2 by omega]
      repeat (first | (apply ifT; focus ((try simp (disch := omega) only [hs.k, hs.r_said, hs.k_said, hs.n_said, v.at, i_lit, mI_pI, mK_pI, mN_pI, mR_pI, nI_ltI, nI_eq, nI_add, nI_mul, mjIn_nI, nI_clamp, neg1_lt0, if_pos, if_neg, if_true, if_false, Bool.false_eq_true, and_true, true_and, and_false, false_and]) <;> omega)) | (apply ifF; focus ((try simp (disch := omega) only [hs.k, hs.r_said, hs.k_said, hs.n_said, v.at, i_lit, mI_pI, mK_pI, mN_pI, mR_pI, nI_ltI, nI_eq, nI_add, nI_mul, mjIn_nI, nI_clamp, neg1_lt0, if_pos, if_neg, if_true, if_false, Bool.false_eq_true, and_true, true_and, and_false, false_and]) <;> omega)) | (apply stI; focus ((try simp (disch := omega) only [hs.k, hs.r_said, hs.k_said, hs.n_said, v.at, i_lit, mI_pI, mK_pI, mN_pI, mR_pI, nI_ltI, nI_eq, nI_add, nI_mul, mjIn_nI, nI_clamp, neg1_lt0, if_pos, if_neg, if_true, if_false, Bool.false_eq_true, and_true, true_and, and_false, false_and]) <;> rfl)) | (apply stV; focus ((try simp (disch := omega) only [hs.k, hs.r_said, hs.k_said, hs.n_said, v.at, i_lit, mI_pI, mK_pI, mN_pI, mR_pI, nI_ltI, nI_eq, nI_add, nI_mul, mjIn_nI, nI_clamp, neg1_lt0, if_pos, if_neg, if_true, if_false, Bool.false_eq_true, and_true, true_and, and_false, false_and]) <;> rfl)))
      try simp (disch := omega) only [hs.k, hs.r_said, hs.k_said, hs.n_said, v.at, i_lit, mI_pI, mK_pI, mN_pI, mR_pI, nI_ltI, nI_eq, nI_add, nI_mul, mjIn_nI, nI_clamp, neg1_lt0, if_pos, if_neg, if_true, if_false, Bool.false_eq_true, and_true, true_and, and_false, false_and]
    | succ n ih =>
      intro p hp
      have hm := mkp_lt g p
      have h32 : mkp g p < 32 := Nat.lt_of_lt_of_le hm (Nat.pow_le_pow_right (n := 2) (by omega) (show p ≤ 5 by omega))
      have o1 := or_bit p (by omega) (mkp g p) h32 hm
      have o2 := or_0 (mkp g p) h32
      rw [e_192_4 E, ← ih (p + 1) (by omega)]
      by_cases q : g (37 + p) = 1
      · rw [show mkp g (p + 1) = mkp g p + 2 ^ p by show mkp g p + _ = _; rw [if_pos q]]
        repeat (first | (apply ifT; focus ((try simp (disch := omega) only [sp_lies E hs v, q, o1, hs.k, hs.r_said, hs.k_said, hs.n_said, v.at, i_lit, mI_pI, mK_pI, mN_pI, mR_pI, nI_ltI, nI_eq, nI_add, nI_mul, mjIn_nI, nI_clamp, neg1_lt0, if_pos, if_neg, if_true, if_false, Bool.false_eq_true, and_true, true_and, and_false, false_and]) <;> omega)) | (apply ifF; focus ((try simp (disch := omega) only [sp_lies E hs v, q, o1, hs.k, hs.r_said, hs.k_said, hs.n_said, v.at, i_lit, mI_pI, mK_pI, mN_pI, mR_pI, nI_ltI, nI_eq, nI_add, nI_mul, mjIn_nI, nI_clamp, neg1_lt0, if_pos, if_neg, if_true, if_false, Bool.false_eq_true, and_true, true_and, and_false, false_and]) <;> omega)) | (apply stI; focus ((try simp (disch := omega) only [sp_lies E hs v, q, o1, hs.k, hs.r_said, hs.k_said, hs.n_said, v.at, i_lit, mI_pI, mK_pI, mN_pI, mR_pI, nI_ltI, nI_eq, nI_add, nI_mul, mjIn_nI, nI_clamp, neg1_lt0, if_pos, if_neg, if_true, if_false, Bool.false_eq_true, and_true, true_and, and_false, false_and]) <;> rfl)) | (apply stV; focus ((try simp (disch := omega) only [sp_lies E hs v, q, o1, hs.k, hs.r_said, hs.k_said, hs.n_said, v.at, i_lit, mI_pI, mK_pI, mN_pI, mR_pI, nI_ltI, nI_eq, nI_add, nI_mul, mjIn_nI, nI_clamp, neg1_lt0, if_pos, if_neg, if_true, if_false, Bool.false_eq_true, and_true, true_and, and_false, false_and]) <;> rfl)))
        try simp (disch := omega) only [sp_lies E hs v, q, o1, hs.k, hs.r_said, hs.k_said, hs.n_said, v.at, i_lit, mI_pI, mK_pI, mN_pI, mR_pI, nI_ltI, nI_eq, nI_add, nI_mul, mjIn_nI, nI_clamp, neg1_lt0, if_pos, if_neg, if_true, if_false, Bool.false_eq_true, and_true, true_and, and_false, false_and]
      · rw [show mkp g (p + 1) = mkp g p by show mkp g p + _ = _; rw [if_neg q]; rfl]
        repeat (first | (apply ifT; focus ((try simp (disch := omega) only [sp_lies E hs v, q, o2, hs.k, hs.r_said, hs.k_said, hs.n_said, v.at, i_lit, mI_pI, mK_pI, mN_pI, mR_pI, nI_ltI, nI_eq, nI_add, nI_mul, mjIn_nI, nI_clamp, neg1_lt0, if_pos, if_neg, if_true, if_false, Bool.false_eq_true, and_true, true_and, and_false, false_and]) <;> omega)) | (apply ifF; focus ((try simp (disch := omega) only [sp_lies E hs v, q, o2, hs.k, hs.r_said, hs.k_said, hs.n_said, v.at, i_lit, mI_pI, mK_pI, mN_pI, mR_pI, nI_ltI, nI_eq, nI_add, nI_mul, mjIn_nI, nI_clamp, neg1_lt0, if_pos, if_neg, if_true, if_false, Bool.false_eq_true, and_true, true_and, and_false, false_and]) <;> omega)) | (apply stI; focus ((try simp (disch := omega) only [sp_lies E hs v, q, o2, hs.k, hs.r_said, hs.k_said, hs.n_said, v.at, i_lit, mI_pI, mK_pI, mN_pI, mR_pI, nI_ltI, nI_eq, nI_add, nI_mul, mjIn_nI, nI_clamp, neg1_lt0, if_pos, if_neg, if_true, if_false, Bool.false_eq_true, and_true, true_and, and_false, false_and]) <;> rfl)) | (apply stV; focus ((try simp (disch := omega) only [sp_lies E hs v, q, o2, hs.k, hs.r_said, hs.k_said, hs.n_said, v.at, i_lit, mI_pI, mK_pI, mN_pI, mR_pI, nI_ltI, nI_eq, nI_add, nI_mul, mjIn_nI, nI_clamp, neg1_lt0, if_pos, if_neg, if_true, if_false, Bool.false_eq_true, and_true, true_and, and_false, false_and]) <;> rfl)))
        try simp (disch := omega) only [sp_lies E hs v, q, o2, hs.k, hs.r_said, hs.k_said, hs.n_said, v.at, i_lit, mI_pI, mK_pI, mN_pI, mR_pI, nI_ltI, nI_eq, nI_add, nI_mul, mjIn_nI, nI_clamp, neg1_lt0, if_pos, if_neg, if_true, if_false, Bool.false_eq_true, and_true, true_and, and_false, false_and]
  show ev 192 lv 0 [.ref 243, mjD, mjD] [] h = _
  rw [e_192_0 E]
  exact at_ (g 2) 0 (by omega)
theorem sp_bits (E : mjFix ev) (h : mjS) : ∀ m, m < 32 → mjCall ev 141 lv [.int (nI m)] h = some (.int (nI (m % 2 + m / 2 % 2 + m / 4 % 2 + m / 8 % 2 + m / 16 % 2)), h) := by
  intro m hm
  show ev 141 lv 0 [.int (nI m), mjD, mjD] [] h = _
  rcases (show m = 0 ∨ m = 1 ∨ m = 2 ∨ m = 3 ∨ m = 4 ∨ m = 5 ∨ m = 6 ∨ m = 7 ∨ m = 8 ∨ m = 9 ∨ m = 10 ∨ m = 11 ∨ m = 12 ∨ m = 13 ∨ m = 14 ∨ m = 15 ∨ m = 16 ∨ m = 17 ∨ m = 18 ∨ m = 19 ∨ m = 20 ∨ m = 21 ∨ m = 22 ∨ m = 23 ∨ m = 24 ∨ m = 25 ∨ m = 26 ∨ m = 27 ∨ m = 28 ∨ m = 29 ∨ m = 30 ∨ m = 31 by omega) with rfl | rfl | rfl | rfl | rfl | rfl | rfl | rfl | rfl | rfl | rfl | rfl | rfl | rfl | rfl | rfl | rfl | rfl | rfl | rfl | rfl | rfl | rfl | rfl | rfl | rfl | rfl | rfl | rfl | rfl | rfl | rfl
  all_goals (rw [e_141_0 E]; repeat (rw [e_141_4 E]; first | (apply ifT; focus decide) | (apply ifF; focus decide)))
  all_goals exact congrArg (fun x => some (Value.int x, h)) (by decide)
theorem sp_summed (E : mjFix ev) (hs : rSh h) {k : Nat} {r : rul} {wr : Nat → Nat} (rr : RR h k r) (hw : ∀ j, j < 11 → mL h 252 j = nL (wr j)) : ∃ h', mjCall ev 202 lv [.ref 243, .int (nI k)] h = some (.long (sumR (fun w => nL (wr w)) r), h') ∧ Fr FK h h' := by
  obtain ⟨⟨k6, hl, h12, hsn⟩, rc, ok⟩ := rr
  have at_ : ∀ (m : rul) (c i : Nat) (h1 : mjS) (w3 : Value), Fr FK h h1 → RCl h k c i m → c + m.length = r.length → i + signsN m ≤ 400 → okR m → ∃ h', ev 202 lv 2 [.ref 243, .int (nI k), .int (nI c), w3] [] h1 = some (.long (sumR (fun w => nL (wr w)) m), h') ∧ Fr FK h h' := by
    intro m
    induction m with
    | nil =>
      intro c i h1 w3 f1 _ hc _ _
      have hc : c + 0 = r.length := hc
      have hs1 := f1.rSh hs
      have HL : mI h1 248 k = nI r.length := by rw [f1.I (by unfold FK; omega)]; exact hl
      refine ⟨h1, ?_, f1⟩
      rw [e_202_2 E]
      repeat (first | (apply ifT; focus ((try simp (disch := omega) only [hs1.k, hs1.r_clauses, hs1.k_clauses, hs1.n_clauses, HL, i_lit, mI_pI, mK_pI, mN_pI, mR_pI, nI_ltI, nI_eq, nI_add, nI_mul, mjIn_nI, nI_clamp, neg1_lt0, if_pos, if_neg, if_true, if_false, Bool.false_eq_true, and_true, true_and, and_false, false_and]) <;> omega)) | (apply ifF; focus ((try simp (disch := omega) only [hs1.k, hs1.r_clauses, hs1.k_clauses, hs1.n_clauses, HL, i_lit, mI_pI, mK_pI, mN_pI, mR_pI, nI_ltI, nI_eq, nI_add, nI_mul, mjIn_nI, nI_clamp, neg1_lt0, if_pos, if_neg, if_true, if_false, Bool.false_eq_true, and_true, true_and, and_false, false_and]) <;> omega)) | (apply stI; focus ((try simp (disch := omega) only [hs1.k, hs1.r_clauses, hs1.k_clauses, hs1.n_clauses, HL, i_lit, mI_pI, mK_pI, mN_pI, mR_pI, nI_ltI, nI_eq, nI_add, nI_mul, mjIn_nI, nI_clamp, neg1_lt0, if_pos, if_neg, if_true, if_false, Bool.false_eq_true, and_true, true_and, and_false, false_and]) <;> rfl)) | (apply stV; focus ((try simp (disch := omega) only [hs1.k, hs1.r_clauses, hs1.k_clauses, hs1.n_clauses, HL, i_lit, mI_pI, mK_pI, mN_pI, mR_pI, nI_ltI, nI_eq, nI_add, nI_mul, mjIn_nI, nI_clamp, neg1_lt0, if_pos, if_neg, if_true, if_false, Bool.false_eq_true, and_true, true_and, and_false, false_and]) <;> rfl)) | (apply stL; focus ((try simp (disch := omega) only [hs1.k, hs1.r_clauses, hs1.k_clauses, hs1.n_clauses, HL, i_lit, mI_pI, mK_pI, mN_pI, mR_pI, nI_ltI, nI_eq, nI_add, nI_mul, mjIn_nI, nI_clamp, neg1_lt0, if_pos, if_neg, if_true, if_false, Bool.false_eq_true, and_true, true_and, and_false, false_and]) <;> rfl)))
      try simp (disch := omega) only [hs1.k, hs1.r_clauses, hs1.k_clauses, hs1.n_clauses, HL, i_lit, mI_pI, mK_pI, mN_pI, mR_pI, nI_ltI, nI_eq, nI_add, nI_mul, mjIn_nI, nI_clamp, neg1_lt0, if_pos, if_neg, if_true, if_false, Bool.false_eq_true, and_true, true_and, and_false, false_and]
      rfl
    | cons d m ih =>
      intro c i h1 w3 f1 rc hc hi ok
      obtain ⟨s, t⟩ := d
      obtain ⟨⟨a1, a2, a3⟩, a4, a5⟩ := rc
      obtain ⟨o1, o2, o3, o4, o5, o6⟩ := ok (s, t) List.mem_cons_self
      have hc : c + (m.length + 1) = r.length := hc
      have hi : i + (s.length + (t.getD []).length + signsN m) ≤ 400 := hi
      have hs1 := f1.rSh hs
      have HL : mI h1 248 k = nI r.length := by rw [f1.I (by unfold FK; omega)]; exact hl
      have A1 : mI h1 247 (48 * k + 4 * c) = nI i := by rw [f1.I (by unfold FK; omega)]; exact a1
      have A2 : mI h1 247 (48 * k + 4 * c + 1) = nI (i + s.length) := by rw [f1.I (by unfold FK; omega)]; exact a2
      rw [List.map_append] at a4
      obtain ⟨b1, b2⟩ := Rw.app.mp a4
      rw [List.length_map] at b2
      have o4 : npush s + npush (t.getD []) ≤ 60 := o4
      have hw1 : ∀ j, j < 11 → mL h1 252 j = nL (wr j) := fun j hj => by rw [f1.L (by unfold FK; omega)]; exact hw j hj
      cases t with
      | none =>
        have a3 : mI h 247 (48 * k + 4 * c + 2) = -nI 1 := a3
        have A3 : mI h1 247 (48 * k + 4 * c + 2) = -nI 1 := by rw [f1.I (by unfold FK; omega)]; exact a3
        obtain ⟨h2, e2, f2⟩ := sp_reckons (lv := lv) (i := i) (en := i + s.length) E hs1 hw1 (by omega) k6 o1 o2 (by omega) (b1.keep (fun k _ _ => f1.I (by unfold FK; omega))) rfl
        refine ⟨h2, ?_, f1.tr f2⟩
        rw [e_202_2 E]
        show _ = some (Value.long (one1 (xops (fun w => nL (wr w)) s [])), h2)
        repeat (first | (apply ifT; focus ((try simp (disch := omega) only [hs1.k, hs1.r_clauses, hs1.k_clauses, hs1.n_clauses, hs1.r_clause, hs1.k_clause, hs1.n_clause, HL, A1, A2, A3, e2, i_lit, mI_pI, mK_pI, mN_pI, mR_pI, nI_ltI, nI_eq, nI_add, nI_mul, mjIn_nI, nI_clamp, neg1_lt0, if_pos, if_neg, if_true, if_false, Bool.false_eq_true, and_true, true_and, and_false, false_and]) <;> omega)) | (apply ifF; focus ((try simp (disch := omega) only [hs1.k, hs1.r_clauses, hs1.k_clauses, hs1.n_clauses, hs1.r_clause, hs1.k_clause, hs1.n_clause, HL, A1, A2, A3, e2, i_lit, mI_pI, mK_pI, mN_pI, mR_pI, nI_ltI, nI_eq, nI_add, nI_mul, mjIn_nI, nI_clamp, neg1_lt0, if_pos, if_neg, if_true, if_false, Bool.false_eq_true, and_true, true_and, and_false, false_and]) <;> omega)) | (apply stI; focus ((try simp (disch := omega) only [hs1.k, hs1.r_clauses, hs1.k_clauses, hs1.n_clauses, hs1.r_clause, hs1.k_clause, hs1.n_clause, HL, A1, A2, A3, e2, i_lit, mI_pI, mK_pI, mN_pI, mR_pI, nI_ltI, nI_eq, nI_add, nI_mul, mjIn_nI, nI_clamp, neg1_lt0, if_pos, if_neg, if_true, if_false, Bool.false_eq_true, and_true, true_and, and_false, false_and]) <;> rfl)) | (apply stV; focus ((try simp (disch := omega) only [hs1.k, hs1.r_clauses, hs1.k_clauses, hs1.n_clauses, hs1.r_clause, hs1.k_clause, hs1.n_clause, HL, A1, A2, A3, e2, i_lit, mI_pI, mK_pI, mN_pI, mR_pI, nI_ltI, nI_eq, nI_add, nI_mul, mjIn_nI, nI_clamp, neg1_lt0, if_pos, if_neg, if_true, if_false, Bool.false_eq_true, and_true, true_and, and_false, false_and]) <;> rfl)) | (apply stL; focus ((try simp (disch := omega) only [hs1.k, hs1.r_clauses, hs1.k_clauses, hs1.n_clauses, hs1.r_clause, hs1.k_clause, hs1.n_clause, HL, A1, A2, A3, e2, i_lit, mI_pI, mK_pI, mN_pI, mR_pI, nI_ltI, nI_eq, nI_add, nI_mul, mjIn_nI, nI_clamp, neg1_lt0, if_pos, if_neg, if_true, if_false, Bool.false_eq_true, and_true, true_and, and_false, false_and]) <;> rfl)))
        try simp (disch := omega) only [hs1.k, hs1.r_clauses, hs1.k_clauses, hs1.n_clauses, hs1.r_clause, hs1.k_clause, hs1.n_clause, HL, A1, A2, A3, e2, i_lit, mI_pI, mK_pI, mN_pI, mR_pI, nI_ltI, nI_eq, nI_add, nI_mul, mjIn_nI, nI_clamp, neg1_lt0, if_pos, if_neg, if_true, if_false, Bool.false_eq_true, and_true, true_and, and_false, false_and]
      | some t =>
        obtain ⟨a3, a3'⟩ : mI h 247 (48 * k + 4 * c + 2) = nI (i + s.length) ∧ mI h 247 (48 * k + 4 * c + 3) = nI (i + s.length + t.length) := a3
        have A3 : mI h1 247 (48 * k + 4 * c + 2) = nI (i + s.length) := by rw [f1.I (by unfold FK; omega)]; exact a3
        have A4 : mI h1 247 (48 * k + 4 * c + 3) = nI (i + s.length + t.length) := by rw [f1.I (by unfold FK; omega)]; exact a3'
        have hi : i + (s.length + t.length + signsN m) ≤ 400 := hi
        have b2 : Rw h 245 (400 * k + i + s.length) (t.map nI) := b2
        have o4 : npush s + npush t ≤ 60 := o4
        obtain ⟨h2, e2, f2⟩ := sp_reckons (lv := lv) (i := i + s.length) (en := i + s.length + t.length) E hs1 hw1 (by omega) k6 (l := t) o5 (o6 t rfl) (by omega) (by rw [show 400 * k + (i + s.length) = 400 * k + i + s.length by omega]; exact b2.keep (fun k _ _ => f1.I (by unfold FK; omega))) rfl
        have f12 := f1.tr f2
        have hs2 := f2.rSh hs1
        by_cases z : one1 (xops (fun w => nL (wr w)) t []) = 1
        · obtain ⟨h3, e3, f3⟩ := sp_reckons (lv := lv) (i := i) (en := i + s.length) E hs2 (wr := wr) (fun j hj => by rw [f12.L (by unfold FK; omega)]; exact hw j hj) (by omega) k6 o1 o2 (by omega) (b1.keep (fun k _ _ => f12.I (by unfold FK; omega))) rfl
          have B1 : mI h2 247 (48 * k + 4 * c) = nI i := by rw [f12.I (by unfold FK; omega)]; exact a1
          have B2 : mI h2 247 (48 * k + 4 * c + 1) = nI (i + s.length) := by rw [f12.I (by unfold FK; omega)]; exact a2
          have zc : ¬ one1 (xops (fun w => nL (wr w)) t []) < 1 := by rw [z]; decide
          refine ⟨h3, ?_, f12.tr f3⟩
          rw [e_202_2 E]
          show _ = some (Value.long (if one1 (xops (fun w => nL (wr w)) t []) = 1 then one1 (xops (fun w => nL (wr w)) s []) else _), h3)
          rw [if_pos z]
          repeat (first | (apply ifT; focus ((try simp (disch := omega) only [hs1.k, hs1.r_clauses, hs1.k_clauses, hs1.n_clauses, hs1.r_clause, hs1.k_clause, hs1.n_clause, HL, A1, A2, A3, A4, e2, zc, hs2.k, hs2.r_clause, hs2.k_clause, hs2.n_clause, B1, B2, e3, i_lit, mI_pI, mK_pI, mN_pI, mR_pI, nI_ltI, nI_eq, nI_add, nI_mul, mjIn_nI, nI_clamp, neg1_lt0, if_pos, if_neg, if_true, if_false, Bool.false_eq_true, and_true, true_and, and_false, false_and]) <;> omega)) | (apply ifF; focus ((try simp (disch := omega) only [hs1.k, hs1.r_clauses, hs1.k_clauses, hs1.n_clauses, hs1.r_clause, hs1.k_clause, hs1.n_clause, HL, A1, A2, A3, A4, e2, zc, hs2.k, hs2.r_clause, hs2.k_clause, hs2.n_clause, B1, B2, e3, i_lit, mI_pI, mK_pI, mN_pI, mR_pI, nI_ltI, nI_eq, nI_add, nI_mul, mjIn_nI, nI_clamp, neg1_lt0, if_pos, if_neg, if_true, if_false, Bool.false_eq_true, and_true, true_and, and_false, false_and]) <;> omega)) | (apply stI; focus ((try simp (disch := omega) only [hs1.k, hs1.r_clauses, hs1.k_clauses, hs1.n_clauses, hs1.r_clause, hs1.k_clause, hs1.n_clause, HL, A1, A2, A3, A4, e2, zc, hs2.k, hs2.r_clause, hs2.k_clause, hs2.n_clause, B1, B2, e3, i_lit, mI_pI, mK_pI, mN_pI, mR_pI, nI_ltI, nI_eq, nI_add, nI_mul, mjIn_nI, nI_clamp, neg1_lt0, if_pos, if_neg, if_true, if_false, Bool.false_eq_true, and_true, true_and, and_false, false_and]) <;> rfl)) | (apply stV; focus ((try simp (disch := omega) only [hs1.k, hs1.r_clauses, hs1.k_clauses, hs1.n_clauses, hs1.r_clause, hs1.k_clause, hs1.n_clause, HL, A1, A2, A3, A4, e2, zc, hs2.k, hs2.r_clause, hs2.k_clause, hs2.n_clause, B1, B2, e3, i_lit, mI_pI, mK_pI, mN_pI, mR_pI, nI_ltI, nI_eq, nI_add, nI_mul, mjIn_nI, nI_clamp, neg1_lt0, if_pos, if_neg, if_true, if_false, Bool.false_eq_true, and_true, true_and, and_false, false_and]) <;> rfl)) | (apply stL; focus ((try simp (disch := omega) only [hs1.k, hs1.r_clauses, hs1.k_clauses, hs1.n_clauses, hs1.r_clause, hs1.k_clause, hs1.n_clause, HL, A1, A2, A3, A4, e2, zc, hs2.k, hs2.r_clause, hs2.k_clause, hs2.n_clause, B1, B2, e3, i_lit, mI_pI, mK_pI, mN_pI, mR_pI, nI_ltI, nI_eq, nI_add, nI_mul, mjIn_nI, nI_clamp, neg1_lt0, if_pos, if_neg, if_true, if_false, Bool.false_eq_true, and_true, true_and, and_false, false_and]) <;> rfl)))
          try simp (disch := omega) only [hs1.k, hs1.r_clauses, hs1.k_clauses, hs1.n_clauses, hs1.r_clause, hs1.k_clause, hs1.n_clause, HL, A1, A2, A3, A4, e2, zc, hs2.k, hs2.r_clause, hs2.k_clause, hs2.n_clause, B1, B2, e3, i_lit, mI_pI, mK_pI, mN_pI, mR_pI, nI_ltI, nI_eq, nI_add, nI_mul, mjIn_nI, nI_clamp, neg1_lt0, if_pos, if_neg, if_true, if_false, Bool.false_eq_true, and_true, true_and, and_false, false_and]
        · obtain ⟨h3, e3, f3⟩ := ih (c + 1) (i + s.length + t.length) h2 (.int (nI (48 * k + 4 * c))) f12 a5 (by omega) (by omega) (fun c hc => ok c (List.mem_cons_of_mem _ hc))
          refine ⟨h3, ?_, f3⟩
          show _ = some (Value.long (if one1 (xops (fun w => nL (wr w)) t []) = 1 then one1 (xops (fun w => nL (wr w)) s []) else sumR (fun w => nL (wr w)) m), h3)
          rw [if_neg z, ← e3, e_202_2 E]
          by_cases zc : one1 (xops (fun w => nL (wr w)) t []) < 1
          · repeat (first | (apply ifT; focus ((try simp (disch := omega) only [hs1.k, hs1.r_clauses, hs1.k_clauses, hs1.n_clauses, hs1.r_clause, hs1.k_clause, hs1.n_clause, HL, A1, A2, A3, A4, e2, zc, ng_ne', i_lit, mI_pI, mK_pI, mN_pI, mR_pI, nI_ltI, nI_eq, nI_add, nI_mul, mjIn_nI, nI_clamp, neg1_lt0, if_pos, if_neg, if_true, if_false, Bool.false_eq_true, and_true, true_and, and_false, false_and]) <;> omega)) | (apply ifF; focus ((try simp (disch := omega) only [hs1.k, hs1.r_clauses, hs1.k_clauses, hs1.n_clauses, hs1.r_clause, hs1.k_clause, hs1.n_clause, HL, A1, A2, A3, A4, e2, zc, ng_ne', i_lit, mI_pI, mK_pI, mN_pI, mR_pI, nI_ltI, nI_eq, nI_add, nI_mul, mjIn_nI, nI_clamp, neg1_lt0, if_pos, if_neg, if_true, if_false, Bool.false_eq_true, and_true, true_and, and_false, false_and]) <;> omega)) | (apply stI; focus ((try simp (disch := omega) only [hs1.k, hs1.r_clauses, hs1.k_clauses, hs1.n_clauses, hs1.r_clause, hs1.k_clause, hs1.n_clause, HL, A1, A2, A3, A4, e2, zc, ng_ne', i_lit, mI_pI, mK_pI, mN_pI, mR_pI, nI_ltI, nI_eq, nI_add, nI_mul, mjIn_nI, nI_clamp, neg1_lt0, if_pos, if_neg, if_true, if_false, Bool.false_eq_true, and_true, true_and, and_false, false_and]) <;> rfl)) | (apply stV; focus ((try simp (disch := omega) only [hs1.k, hs1.r_clauses, hs1.k_clauses, hs1.n_clauses, hs1.r_clause, hs1.k_clause, hs1.n_clause, HL, A1, A2, A3, A4, e2, zc, ng_ne', i_lit, mI_pI, mK_pI, mN_pI, mR_pI, nI_ltI, nI_eq, nI_add, nI_mul, mjIn_nI, nI_clamp, neg1_lt0, if_pos, if_neg, if_true, if_false, Bool.false_eq_true, and_true, true_and, and_false, false_and]) <;> rfl)) | (apply stL; focus ((try simp (disch := omega) only [hs1.k, hs1.r_clauses, hs1.k_clauses, hs1.n_clauses, hs1.r_clause, hs1.k_clause, hs1.n_clause, HL, A1, A2, A3, A4, e2, zc, ng_ne', i_lit, mI_pI, mK_pI, mN_pI, mR_pI, nI_ltI, nI_eq, nI_add, nI_mul, mjIn_nI, nI_clamp, neg1_lt0, if_pos, if_neg, if_true, if_false, Bool.false_eq_true, and_true, true_and, and_false, false_and]) <;> rfl)))
            try simp (disch := omega) only [hs1.k, hs1.r_clauses, hs1.k_clauses, hs1.n_clauses, hs1.r_clause, hs1.k_clause, hs1.n_clause, HL, A1, A2, A3, A4, e2, zc, ng_ne', i_lit, mI_pI, mK_pI, mN_pI, mR_pI, nI_ltI, nI_eq, nI_add, nI_mul, mjIn_nI, nI_clamp, neg1_lt0, if_pos, if_neg, if_true, if_false, Bool.false_eq_true, and_true, true_and, and_false, false_and]
          · repeat (first | (apply ifT; focus ((try simp (disch := omega) only [hs1.k, hs1.r_clauses, hs1.k_clauses, hs1.n_clauses, hs1.r_clause, hs1.k_clause, hs1.n_clause, HL, A1, A2, A3, A4, e2, zc, z, i_lit, mI_pI, mK_pI, mN_pI, mR_pI, nI_ltI, nI_eq, nI_add, nI_mul, mjIn_nI, nI_clamp, neg1_lt0, if_pos, if_neg, if_true, if_false, Bool.false_eq_true, and_true, true_and, and_false, false_and]) <;> omega)) | (apply ifF; focus ((try simp (disch := omega) only [hs1.k, hs1.r_clauses, hs1.k_clauses, hs1.n_clauses, hs1.r_clause, hs1.k_clause, hs1.n_clause, HL, A1, A2, A3, A4, e2, zc, z, i_lit, mI_pI, mK_pI, mN_pI, mR_pI, nI_ltI, nI_eq, nI_add, nI_mul, mjIn_nI, nI_clamp, neg1_lt0, if_pos, if_neg, if_true, if_false, Bool.false_eq_true, and_true, true_and, and_false, false_and]) <;> omega)) | (apply stI; focus ((try simp (disch := omega) only [hs1.k, hs1.r_clauses, hs1.k_clauses, hs1.n_clauses, hs1.r_clause, hs1.k_clause, hs1.n_clause, HL, A1, A2, A3, A4, e2, zc, z, i_lit, mI_pI, mK_pI, mN_pI, mR_pI, nI_ltI, nI_eq, nI_add, nI_mul, mjIn_nI, nI_clamp, neg1_lt0, if_pos, if_neg, if_true, if_false, Bool.false_eq_true, and_true, true_and, and_false, false_and]) <;> rfl)) | (apply stV; focus ((try simp (disch := omega) only [hs1.k, hs1.r_clauses, hs1.k_clauses, hs1.n_clauses, hs1.r_clause, hs1.k_clause, hs1.n_clause, HL, A1, A2, A3, A4, e2, zc, z, i_lit, mI_pI, mK_pI, mN_pI, mR_pI, nI_ltI, nI_eq, nI_add, nI_mul, mjIn_nI, nI_clamp, neg1_lt0, if_pos, if_neg, if_true, if_false, Bool.false_eq_true, and_true, true_and, and_false, false_and]) <;> rfl)) | (apply stL; focus ((try simp (disch := omega) only [hs1.k, hs1.r_clauses, hs1.k_clauses, hs1.n_clauses, hs1.r_clause, hs1.k_clause, hs1.n_clause, HL, A1, A2, A3, A4, e2, zc, z, i_lit, mI_pI, mK_pI, mN_pI, mR_pI, nI_ltI, nI_eq, nI_add, nI_mul, mjIn_nI, nI_clamp, neg1_lt0, if_pos, if_neg, if_true, if_false, Bool.false_eq_true, and_true, true_and, and_false, false_and]) <;> rfl)))
            try simp (disch := omega) only [hs1.k, hs1.r_clauses, hs1.k_clauses, hs1.n_clauses, hs1.r_clause, hs1.k_clause, hs1.n_clause, HL, A1, A2, A3, A4, e2, zc, z, i_lit, mI_pI, mK_pI, mN_pI, mR_pI, nI_ltI, nI_eq, nI_add, nI_mul, mjIn_nI, nI_clamp, neg1_lt0, if_pos, if_neg, if_true, if_false, Bool.false_eq_true, and_true, true_and, and_false, false_and]
  obtain ⟨h', e, f⟩ := at_ r 0 0 h mjD Fr.rf rc (by omega) (by omega) ok
  refine ⟨h', ?_, f⟩
  show ev 202 lv 0 [.ref 243, .int (nI k), mjD, mjD] [] h = _
  rw [e_202_0 E]
  exact e
end RL
