/-! the class lays its tokens out; it looks at one, takes one, marks a fault -/
/-- the tokens that lie from a place of the rows on -/
def Tr (h : mjS) (tl : Nat) : Nat → List tok → Prop
  | i, [] => mI h 7 i = nI 1 ∧ mI h 8 i = nI tl ∧ mI h 9 i = nI 0 ∧ mI h 5 5 = nI (i + 1)
  | i, (k, p, v) :: r => mI h 7 i = nI k ∧ mI h 8 i = nI p ∧ mI h 9 i = vI v ∧ Tr h tl (i + 1) r
abbrev FKt (a k : Nat) : Prop := a = 7 ∨ a = 8 ∨ a = 9 ∨ (a = 5 ∧ k = 5)
theorem tkz_step (tb : Nat → Int32) (tl m p : Nat) : tkz tb tl (m + 1) p = if p < tl then (if tb p = nI 32 then tkz tb tl m (p + 1) else (kiT tb tl p, p, vaT tb tl p) :: tkz tb tl m (ndT tb tl p)) else [] := rfl
theorem tkz_end (tb : Nat → Int32) (tl m : Nat) : tkz tb tl m tl = [] := by
  cases m with
  | zero => rfl
  | succ m => rw [tkz_step, if_neg (Nat.lt_irrefl _)]
theorem tkz_fuel (tb : Nat → Int32) (tl : Nat) : ∀ m m' p, p ≤ tl → tl ≤ p + m → tl ≤ p + m' → tkz tb tl m p = tkz tb tl m' p := by
  intro m
  induction m with
  | zero =>
    intro m' p h0 h1 h2
    rw [show p = tl by omega, tkz_end, tkz_end]
  | succ m ih =>
    intro m' p h0 h1 h2
    by_cases y : p < tl
    · obtain ⟨m2, rfl⟩ : ∃ m2, m' = m2 + 1 := ⟨m' - 1, by omega⟩
      have g := ndT_ge (tb := tb) y
      rw [tkz_step, tkz_step, if_pos y, if_pos y, ih m2 (p + 1) (by omega) (by omega) (by omega), ih m2 (ndT tb tl p) (by omega) (by omega) (by omega)]
    · rw [show p = tl by omega, tkz_end, tkz_end]
theorem tkz_len (tb : Nat → Int32) (tl : Nat) : ∀ m p, p ≤ tl → (tkz tb tl m p).length + p ≤ tl := by
  intro m
  induction m with
  | zero => intro p h0; show 0 + p ≤ tl; omega
  | succ m ih =>
    intro p h0
    by_cases y : p < tl
    · have g := ndT_ge (tb := tb) y
      rw [tkz_step, if_pos y]
      split
      · have := ih (p + 1) (by omega); omega
      · have := ih (ndT tb tl p) (by omega)
        rw [List.length_cons]; omega
    · rw [show p = tl by omega, tkz_end]; show 0 + tl ≤ tl; omega
/-- the tokens of a whole tape -/
def tks (tb : Nat → Int32) (tl : Nat) : List tok := tkz tb tl tl 0
theorem Tr.keep {h h' : mjS} {tl : Nat} (e : ∀ k, mI h' 7 k = mI h 7 k ∧ mI h' 8 k = mI h 8 k ∧ mI h' 9 k = mI h 9 k) (e5 : mI h' 5 5 = mI h 5 5) : ∀ {ts : List tok} {i : Nat}, Tr h tl i ts → Tr h' tl i ts := by
  intro ts
  induction ts with
  | nil => intro i a; exact ⟨(e i).1.trans a.1, (e i).2.1.trans a.2.1, (e i).2.2.trans a.2.2.1, e5.trans a.2.2.2⟩
  | cons x r ih => intro i a; obtain ⟨k, p, v⟩ := x; exact ⟨(e i).1.trans a.1, (e i).2.1.trans a.2.1, (e i).2.2.trans a.2.2.1, ih a.2.2.2⟩
theorem ltr_dgt {b : Int32} (h : ltr b = true) : dgt b = false := by
  cases e : dgt b with
  | false => rfl
  | true =>
    have a := (ltr_iff b).mp h
    have c := (dgt_iff b).mp e
    omega
section TL
variable {ev : mjT} {lv : Nat} {h : mjS} {tb : Nat → Int32} {tl : Nat}
theorem tz_lay (E : mjFix ev) (t : tSh h) {n : Nat} (hn : n < 401) (c5 : mI h 5 5 = nI n) (a b c : Int32) : mjCall ev 87 lv [.ref 5, .int a, .int b, .int c] h = some (.ref 0, pI (pI (pI (pI h 7 n a) 8 n b) 9 n c) 5 5 (nI (n + 1))) := by
  show ev 87 lv 0 [.ref 5, .int a, .int b, .int c] [] h = _
  rw [e_87_0 E]
  repeat (first | (apply ifT; focus ((try simp (disch := omega) only [t.k5, t.r5_2, t.k7, t.n7, t.r5_3, t.k8, t.n8, t.r5_4, t.k9, t.n9, c5, ofNat_nI, i_lit, mI_pI, mK_pI, mN_pI, mR_pI, nI_ltI, nI_eq, nI_add, nI_mul, mjIn_nI, nI_clamp, neg1_lt0, if_pos, if_neg, if_true, if_false, Bool.false_eq_true, and_true, true_and, and_false, false_and, mI_pL, mK_pL, mN_pL, mR_pL, mL_pL, mL_pI, mI_pR, mL_pR, mK_pR, mN_pR, mR_pR, mI_pC, mL_pC, mK_pC, mN_pC, mR_pC]) <;> first | omega | decide)) | (apply ifF; focus ((try simp (disch := omega) only [t.k5, t.r5_2, t.k7, t.n7, t.r5_3, t.k8, t.n8, t.r5_4, t.k9, t.n9, c5, ofNat_nI, i_lit, mI_pI, mK_pI, mN_pI, mR_pI, nI_ltI, nI_eq, nI_add, nI_mul, mjIn_nI, nI_clamp, neg1_lt0, if_pos, if_neg, if_true, if_false, Bool.false_eq_true, and_true, true_and, and_false, false_and, mI_pL, mK_pL, mN_pL, mR_pL, mL_pL, mL_pI, mI_pR, mL_pR, mK_pR, mN_pR, mR_pR, mI_pC, mL_pC, mK_pC, mN_pC, mR_pC]) <;> first | omega | decide)) | (apply stI; focus ((try simp (disch := omega) only [t.k5, t.r5_2, t.k7, t.n7, t.r5_3, t.k8, t.n8, t.r5_4, t.k9, t.n9, c5, ofNat_nI, i_lit, mI_pI, mK_pI, mN_pI, mR_pI, nI_ltI, nI_eq, nI_add, nI_mul, mjIn_nI, nI_clamp, neg1_lt0, if_pos, if_neg, if_true, if_false, Bool.false_eq_true, and_true, true_and, and_false, false_and, mI_pL, mK_pL, mN_pL, mR_pL, mL_pL, mL_pI, mI_pR, mL_pR, mK_pR, mN_pR, mR_pR, mI_pC, mL_pC, mK_pC, mN_pC, mR_pC]) <;> rfl)) | (apply stV; focus ((try simp (disch := omega) only [t.k5, t.r5_2, t.k7, t.n7, t.r5_3, t.k8, t.n8, t.r5_4, t.k9, t.n9, c5, ofNat_nI, i_lit, mI_pI, mK_pI, mN_pI, mR_pI, nI_ltI, nI_eq, nI_add, nI_mul, mjIn_nI, nI_clamp, neg1_lt0, if_pos, if_neg, if_true, if_false, Bool.false_eq_true, and_true, true_and, and_false, false_and, mI_pL, mK_pL, mN_pL, mR_pL, mL_pL, mL_pI, mI_pR, mL_pR, mK_pR, mN_pR, mR_pR, mI_pC, mL_pC, mK_pC, mN_pC, mR_pC]) <;> rfl)) | (apply stL; focus ((try simp (disch := omega) only [t.k5, t.r5_2, t.k7, t.n7, t.r5_3, t.k8, t.n8, t.r5_4, t.k9, t.n9, c5, ofNat_nI, i_lit, mI_pI, mK_pI, mN_pI, mR_pI, nI_ltI, nI_eq, nI_add, nI_mul, mjIn_nI, nI_clamp, neg1_lt0, if_pos, if_neg, if_true, if_false, Bool.false_eq_true, and_true, true_and, and_false, false_and, mI_pL, mK_pL, mN_pL, mR_pL, mL_pL, mL_pI, mI_pR, mL_pR, mK_pR, mN_pR, mR_pR, mI_pC, mL_pC, mK_pC, mN_pC, mR_pC]) <;> rfl)) | (apply stA; focus ((try simp (disch := omega) only [t.k5, t.r5_2, t.k7, t.n7, t.r5_3, t.k8, t.n8, t.r5_4, t.k9, t.n9, c5, ofNat_nI, i_lit, mI_pI, mK_pI, mN_pI, mR_pI, nI_ltI, nI_eq, nI_add, nI_mul, mjIn_nI, nI_clamp, neg1_lt0, if_pos, if_neg, if_true, if_false, Bool.false_eq_true, and_true, true_and, and_false, false_and, mI_pL, mK_pL, mN_pL, mR_pL, mL_pL, mL_pI, mI_pR, mL_pR, mK_pR, mN_pR, mR_pR, mI_pC, mL_pC, mK_pC, mN_pC, mR_pC]) <;> rfl)))
  try simp (disch := omega) only [t.k5, t.r5_2, t.k7, t.n7, t.r5_3, t.k8, t.n8, t.r5_4, t.k9, t.n9, c5, ofNat_nI, i_lit, mI_pI, mK_pI, mN_pI, mR_pI, nI_ltI, nI_eq, nI_add, nI_mul, mjIn_nI, nI_clamp, neg1_lt0, if_pos, if_neg, if_true, if_false, Bool.false_eq_true, and_true, true_and, and_false, false_and, mI_pL, mK_pL, mN_pL, mR_pL, mL_pL, mL_pI, mI_pR, mL_pR, mK_pR, mN_pR, mR_pR, mI_pC, mL_pC, mK_pC, mN_pC, mR_pC]
theorem tz_lays (E : mjFix ev) (l4 : tl ≤ 400) : ∀ (m p n v2 : Nat) (w : Value) (h : mjS), tSh h → c3 h tb tl → mI h 5 5 = nI n → n ≤ v2 → v2 ≤ p → p ≤ tl → tl ≤ p + m →
    ∃ h', ev 82 lv 19 [.ref 5, .int (nI p), .int (nI v2), w] [] h = some (.ref 0, h') ∧ Fr FKt h h' ∧ Tr h' tl n (tkz tb tl m p) ∧ ∀ j, j < n → mI h' 7 j = mI h 7 j ∧ mI h' 8 j = mI h 8 j ∧ mI h' 9 j = mI h 9 j := by
  have last : ∀ (m p n v2 : Nat) (w : Value) (h : mjS), tSh h → c3 h tb tl → mI h 5 5 = nI n → n ≤ v2 → v2 ≤ p → p = tl →
    ∃ h', ev 82 lv 19 [.ref 5, .int (nI p), .int (nI v2), w] [] h = some (.ref 0, h') ∧ Fr FKt h h' ∧ Tr h' tl n (tkz tb tl m p) ∧ ∀ j, j < n → mI h' 7 j = mI h 7 j ∧ mI h' 8 j = mI h 8 j ∧ mI h' 9 j = mI h 9 j := by
    intro m p n v2 w h t c c5 h1 h2 h3
    subst h3
    have e := tz_lay (lv := lv) E t (show n < 401 by omega) c5 (nI 1) (nI p) (nI 0)
    have c1 := c.1
    have f4 : Fr FKt h (pI (pI (pI (pI h 7 n (nI 1)) 8 n (nI p)) 9 n (nI 0)) 5 5 (nI (n + 1))) := (((Fr.pI (F := FKt) (by unfold FKt; omega)).tr (Fr.pI (F := FKt) (by unfold FKt; omega))).tr (Fr.pI (F := FKt) (by unfold FKt; omega))).tr (Fr.pI (F := FKt) (by unfold FKt; omega))
    refine ⟨_, ?_, f4, ?_, fun j hj => ⟨?_, ?_, ?_⟩⟩
    · rw [e_82_19 E]
      by_cases y : v2 < 400
      · repeat (first | (apply ifT; focus ((try simp (disch := omega) only [t.k5, c1, e, ofNat_nI, i_lit, mI_pI, mK_pI, mN_pI, mR_pI, nI_ltI, nI_eq, nI_add, nI_mul, mjIn_nI, nI_clamp, neg1_lt0, if_pos, if_neg, if_true, if_false, Bool.false_eq_true, and_true, true_and, and_false, false_and, mI_pL, mK_pL, mN_pL, mR_pL, mL_pL, mL_pI, mI_pR, mL_pR, mK_pR, mN_pR, mR_pR, mI_pC, mL_pC, mK_pC, mN_pC, mR_pC]) <;> first | omega | decide)) | (apply ifF; focus ((try simp (disch := omega) only [t.k5, c1, e, ofNat_nI, i_lit, mI_pI, mK_pI, mN_pI, mR_pI, nI_ltI, nI_eq, nI_add, nI_mul, mjIn_nI, nI_clamp, neg1_lt0, if_pos, if_neg, if_true, if_false, Bool.false_eq_true, and_true, true_and, and_false, false_and, mI_pL, mK_pL, mN_pL, mR_pL, mL_pL, mL_pI, mI_pR, mL_pR, mK_pR, mN_pR, mR_pR, mI_pC, mL_pC, mK_pC, mN_pC, mR_pC]) <;> first | omega | decide)) | (apply stI; focus ((try simp (disch := omega) only [t.k5, c1, e, ofNat_nI, i_lit, mI_pI, mK_pI, mN_pI, mR_pI, nI_ltI, nI_eq, nI_add, nI_mul, mjIn_nI, nI_clamp, neg1_lt0, if_pos, if_neg, if_true, if_false, Bool.false_eq_true, and_true, true_and, and_false, false_and, mI_pL, mK_pL, mN_pL, mR_pL, mL_pL, mL_pI, mI_pR, mL_pR, mK_pR, mN_pR, mR_pR, mI_pC, mL_pC, mK_pC, mN_pC, mR_pC]) <;> rfl)) | (apply stV; focus ((try simp (disch := omega) only [t.k5, c1, e, ofNat_nI, i_lit, mI_pI, mK_pI, mN_pI, mR_pI, nI_ltI, nI_eq, nI_add, nI_mul, mjIn_nI, nI_clamp, neg1_lt0, if_pos, if_neg, if_true, if_false, Bool.false_eq_true, and_true, true_and, and_false, false_and, mI_pL, mK_pL, mN_pL, mR_pL, mL_pL, mL_pI, mI_pR, mL_pR, mK_pR, mN_pR, mR_pR, mI_pC, mL_pC, mK_pC, mN_pC, mR_pC]) <;> rfl)) | (apply stL; focus ((try simp (disch := omega) only [t.k5, c1, e, ofNat_nI, i_lit, mI_pI, mK_pI, mN_pI, mR_pI, nI_ltI, nI_eq, nI_add, nI_mul, mjIn_nI, nI_clamp, neg1_lt0, if_pos, if_neg, if_true, if_false, Bool.false_eq_true, and_true, true_and, and_false, false_and, mI_pL, mK_pL, mN_pL, mR_pL, mL_pL, mL_pI, mI_pR, mL_pR, mK_pR, mN_pR, mR_pR, mI_pC, mL_pC, mK_pC, mN_pC, mR_pC]) <;> rfl)) | (apply stA; focus ((try simp (disch := omega) only [t.k5, c1, e, ofNat_nI, i_lit, mI_pI, mK_pI, mN_pI, mR_pI, nI_ltI, nI_eq, nI_add, nI_mul, mjIn_nI, nI_clamp, neg1_lt0, if_pos, if_neg, if_true, if_false, Bool.false_eq_true, and_true, true_and, and_false, false_and, mI_pL, mK_pL, mN_pL, mR_pL, mL_pL, mL_pI, mI_pR, mL_pR, mK_pR, mN_pR, mR_pR, mI_pC, mL_pC, mK_pC, mN_pC, mR_pC]) <;> rfl)))
        try simp (disch := omega) only [t.k5, c1, e, ofNat_nI, i_lit, mI_pI, mK_pI, mN_pI, mR_pI, nI_ltI, nI_eq, nI_add, nI_mul, mjIn_nI, nI_clamp, neg1_lt0, if_pos, if_neg, if_true, if_false, Bool.false_eq_true, and_true, true_and, and_false, false_and, mI_pL, mK_pL, mN_pL, mR_pL, mL_pL, mL_pI, mI_pR, mL_pR, mK_pR, mN_pR, mR_pR, mI_pC, mL_pC, mK_pC, mN_pC, mR_pC]
      · repeat (first | (apply ifT; focus ((try simp (disch := omega) only [t.k5, c1, e, ofNat_nI, i_lit, mI_pI, mK_pI, mN_pI, mR_pI, nI_ltI, nI_eq, nI_add, nI_mul, mjIn_nI, nI_clamp, neg1_lt0, if_pos, if_neg, if_true, if_false, Bool.false_eq_true, and_true, true_and, and_false, false_and, mI_pL, mK_pL, mN_pL, mR_pL, mL_pL, mL_pI, mI_pR, mL_pR, mK_pR, mN_pR, mR_pR, mI_pC, mL_pC, mK_pC, mN_pC, mR_pC]) <;> first | omega | decide)) | (apply ifF; focus ((try simp (disch := omega) only [t.k5, c1, e, ofNat_nI, i_lit, mI_pI, mK_pI, mN_pI, mR_pI, nI_ltI, nI_eq, nI_add, nI_mul, mjIn_nI, nI_clamp, neg1_lt0, if_pos, if_neg, if_true, if_false, Bool.false_eq_true, and_true, true_and, and_false, false_and, mI_pL, mK_pL, mN_pL, mR_pL, mL_pL, mL_pI, mI_pR, mL_pR, mK_pR, mN_pR, mR_pR, mI_pC, mL_pC, mK_pC, mN_pC, mR_pC]) <;> first | omega | decide)) | (apply stI; focus ((try simp (disch := omega) only [t.k5, c1, e, ofNat_nI, i_lit, mI_pI, mK_pI, mN_pI, mR_pI, nI_ltI, nI_eq, nI_add, nI_mul, mjIn_nI, nI_clamp, neg1_lt0, if_pos, if_neg, if_true, if_false, Bool.false_eq_true, and_true, true_and, and_false, false_and, mI_pL, mK_pL, mN_pL, mR_pL, mL_pL, mL_pI, mI_pR, mL_pR, mK_pR, mN_pR, mR_pR, mI_pC, mL_pC, mK_pC, mN_pC, mR_pC]) <;> rfl)) | (apply stV; focus ((try simp (disch := omega) only [t.k5, c1, e, ofNat_nI, i_lit, mI_pI, mK_pI, mN_pI, mR_pI, nI_ltI, nI_eq, nI_add, nI_mul, mjIn_nI, nI_clamp, neg1_lt0, if_pos, if_neg, if_true, if_false, Bool.false_eq_true, and_true, true_and, and_false, false_and, mI_pL, mK_pL, mN_pL, mR_pL, mL_pL, mL_pI, mI_pR, mL_pR, mK_pR, mN_pR, mR_pR, mI_pC, mL_pC, mK_pC, mN_pC, mR_pC]) <;> rfl)) | (apply stL; focus ((try simp (disch := omega) only [t.k5, c1, e, ofNat_nI, i_lit, mI_pI, mK_pI, mN_pI, mR_pI, nI_ltI, nI_eq, nI_add, nI_mul, mjIn_nI, nI_clamp, neg1_lt0, if_pos, if_neg, if_true, if_false, Bool.false_eq_true, and_true, true_and, and_false, false_and, mI_pL, mK_pL, mN_pL, mR_pL, mL_pL, mL_pI, mI_pR, mL_pR, mK_pR, mN_pR, mR_pR, mI_pC, mL_pC, mK_pC, mN_pC, mR_pC]) <;> rfl)) | (apply stA; focus ((try simp (disch := omega) only [t.k5, c1, e, ofNat_nI, i_lit, mI_pI, mK_pI, mN_pI, mR_pI, nI_ltI, nI_eq, nI_add, nI_mul, mjIn_nI, nI_clamp, neg1_lt0, if_pos, if_neg, if_true, if_false, Bool.false_eq_true, and_true, true_and, and_false, false_and, mI_pL, mK_pL, mN_pL, mR_pL, mL_pL, mL_pI, mI_pR, mL_pR, mK_pR, mN_pR, mR_pR, mI_pC, mL_pC, mK_pC, mN_pC, mR_pC]) <;> rfl)))
        try simp (disch := omega) only [t.k5, c1, e, ofNat_nI, i_lit, mI_pI, mK_pI, mN_pI, mR_pI, nI_ltI, nI_eq, nI_add, nI_mul, mjIn_nI, nI_clamp, neg1_lt0, if_pos, if_neg, if_true, if_false, Bool.false_eq_true, and_true, true_and, and_false, false_and, mI_pL, mK_pL, mN_pL, mR_pL, mL_pL, mL_pI, mI_pR, mL_pR, mK_pR, mN_pR, mR_pR, mI_pC, mL_pC, mK_pC, mN_pC, mR_pC]
    · rw [tkz_end]
      exact ⟨by rw [pI_ne (by omega), pI_ne (by omega), pI_ne (by omega), pI_at], by rw [pI_ne (by omega), pI_ne (by omega), pI_at], by rw [pI_ne (by omega), pI_at], pI_at⟩
    · rw [pI_ne (by omega), pI_ne (by omega), pI_ne (by omega), pI_nk (by omega)]
    · rw [pI_ne (by omega), pI_ne (by omega), pI_nk (by omega), pI_ne (by omega)]
    · rw [pI_ne (by omega), pI_nk (by omega), pI_ne (by omega), pI_ne (by omega)]
  intro m
  induction m with
  | zero => intro p n v2 w h t c c5 h1 h2 h3 h4; exact last 0 p n v2 w h t c c5 h1 h2 (by omega)
  | succ m ih =>
    intro p n v2 w h t c c5 h1 h2 h3 h4
    by_cases y : p < tl
    · have g := ndT_ge (tb := tb) y
      have c1 := c.1
      have cp := c.2 p y
      have e1 := tz_end (lv := lv) E t c l4 y
      by_cases yb : tb p = nI 32
      · have q : tkz tb tl (m + 1) p = tkz tb tl m (p + 1) := by rw [tkz_step, if_pos y, if_pos yb]
        have nd : ndT tb tl p = p + 1 := by
          unfold ndT
          rw [yb, if_neg (by decide), if_neg (by decide), if_neg (fun z => absurd z.1 (by decide))]
        obtain ⟨h', e, r⟩ := ih (p + 1) n (v2 + 1) (.int (nI (p + 1))) h t c c5 (by omega) (by omega) (by omega) (by omega)
        rw [q]
        refine ⟨h', ?_, r⟩
        rw [← e, e_82_19 E]
        rw [nd] at e1
        repeat (first | (apply ifT; focus ((try simp (disch := omega) only [t.k5, c1, e1, t.r5_0, t.k6, t.n6, cp, yb, ofNat_nI, i_lit, mI_pI, mK_pI, mN_pI, mR_pI, nI_ltI, nI_eq, nI_add, nI_mul, mjIn_nI, nI_clamp, neg1_lt0, if_pos, if_neg, if_true, if_false, Bool.false_eq_true, and_true, true_and, and_false, false_and, mI_pL, mK_pL, mN_pL, mR_pL, mL_pL, mL_pI, mI_pR, mL_pR, mK_pR, mN_pR, mR_pR, mI_pC, mL_pC, mK_pC, mN_pC, mR_pC]) <;> first | omega | decide)) | (apply ifF; focus ((try simp (disch := omega) only [t.k5, c1, e1, t.r5_0, t.k6, t.n6, cp, yb, ofNat_nI, i_lit, mI_pI, mK_pI, mN_pI, mR_pI, nI_ltI, nI_eq, nI_add, nI_mul, mjIn_nI, nI_clamp, neg1_lt0, if_pos, if_neg, if_true, if_false, Bool.false_eq_true, and_true, true_and, and_false, false_and, mI_pL, mK_pL, mN_pL, mR_pL, mL_pL, mL_pI, mI_pR, mL_pR, mK_pR, mN_pR, mR_pR, mI_pC, mL_pC, mK_pC, mN_pC, mR_pC]) <;> first | omega | decide)) | (apply stI; focus ((try simp (disch := omega) only [t.k5, c1, e1, t.r5_0, t.k6, t.n6, cp, yb, ofNat_nI, i_lit, mI_pI, mK_pI, mN_pI, mR_pI, nI_ltI, nI_eq, nI_add, nI_mul, mjIn_nI, nI_clamp, neg1_lt0, if_pos, if_neg, if_true, if_false, Bool.false_eq_true, and_true, true_and, and_false, false_and, mI_pL, mK_pL, mN_pL, mR_pL, mL_pL, mL_pI, mI_pR, mL_pR, mK_pR, mN_pR, mR_pR, mI_pC, mL_pC, mK_pC, mN_pC, mR_pC]) <;> rfl)) | (apply stV; focus ((try simp (disch := omega) only [t.k5, c1, e1, t.r5_0, t.k6, t.n6, cp, yb, ofNat_nI, i_lit, mI_pI, mK_pI, mN_pI, mR_pI, nI_ltI, nI_eq, nI_add, nI_mul, mjIn_nI, nI_clamp, neg1_lt0, if_pos, if_neg, if_true, if_false, Bool.false_eq_true, and_true, true_and, and_false, false_and, mI_pL, mK_pL, mN_pL, mR_pL, mL_pL, mL_pI, mI_pR, mL_pR, mK_pR, mN_pR, mR_pR, mI_pC, mL_pC, mK_pC, mN_pC, mR_pC]) <;> rfl)) | (apply stL; focus ((try simp (disch := omega) only [t.k5, c1, e1, t.r5_0, t.k6, t.n6, cp, yb, ofNat_nI, i_lit, mI_pI, mK_pI, mN_pI, mR_pI, nI_ltI, nI_eq, nI_add, nI_mul, mjIn_nI, nI_clamp, neg1_lt0, if_pos, if_neg, if_true, if_false, Bool.false_eq_true, and_true, true_and, and_false, false_and, mI_pL, mK_pL, mN_pL, mR_pL, mL_pL, mL_pI, mI_pR, mL_pR, mK_pR, mN_pR, mR_pR, mI_pC, mL_pC, mK_pC, mN_pC, mR_pC]) <;> rfl)) | (apply stA; focus ((try simp (disch := omega) only [t.k5, c1, e1, t.r5_0, t.k6, t.n6, cp, yb, ofNat_nI, i_lit, mI_pI, mK_pI, mN_pI, mR_pI, nI_ltI, nI_eq, nI_add, nI_mul, mjIn_nI, nI_clamp, neg1_lt0, if_pos, if_neg, if_true, if_false, Bool.false_eq_true, and_true, true_and, and_false, false_and, mI_pL, mK_pL, mN_pL, mR_pL, mL_pL, mL_pI, mI_pR, mL_pR, mK_pR, mN_pR, mR_pR, mI_pC, mL_pC, mK_pC, mN_pC, mR_pC]) <;> rfl)))
        try simp (disch := omega) only [t.k5, c1, e1, t.r5_0, t.k6, t.n6, cp, yb, ofNat_nI, i_lit, mI_pI, mK_pI, mN_pI, mR_pI, nI_ltI, nI_eq, nI_add, nI_mul, mjIn_nI, nI_clamp, neg1_lt0, if_pos, if_neg, if_true, if_false, Bool.false_eq_true, and_true, true_and, and_false, false_and, mI_pL, mK_pL, mN_pL, mR_pL, mL_pL, mL_pI, mI_pR, mL_pR, mK_pR, mN_pR, mR_pR, mI_pC, mL_pC, mK_pC, mN_pC, mR_pC]
      · have q : tkz tb tl (m + 1) p = (kiT tb tl p, p, vaT tb tl p) :: tkz tb tl m (ndT tb tl p) := by rw [tkz_step, if_pos y, if_neg yb]
        have e2 := tz_kind (lv := lv) E t c l4 y
        have e3 := tz_val (lv := lv) E t c l4 y ltr_dgt
        have e4 := tz_lay (lv := lv) E t (show n < 401 by omega) c5 (nI (kiT tb tl p)) (nI p) (vI (vaT tb tl p))
        have f4 : Fr FKt h (pI (pI (pI (pI h 7 n (nI (kiT tb tl p))) 8 n (nI p)) 9 n (vI (vaT tb tl p))) 5 5 (nI (n + 1))) := (((Fr.pI (F := FKt) (by unfold FKt; omega)).tr (Fr.pI (F := FKt) (by unfold FKt; omega))).tr (Fr.pI (F := FKt) (by unfold FKt; omega))).tr (Fr.pI (F := FKt) (by unfold FKt; omega))
        have t4 := t.ft2 f4.t (fun x hx => by unfold FKt; omega)
        have c4 : c3 _ tb tl := c.ft f4.t ⟨by unfold FKt; omega, fun k => by unfold FKt; omega⟩
        obtain ⟨h', e, f, r, o⟩ := ih (ndT tb tl p) (n + 1) (v2 + 1) (.int (nI (ndT tb tl p))) _ t4 c4 pI_at (by omega) (by omega) (by omega) (by omega)
        rw [q]
        obtain ⟨o1, o2, o3⟩ := o n (by omega)
        refine ⟨h', ?_, f4.tr f, ⟨?_, ?_, ?_, r⟩, fun j hj => ?_⟩
        · rw [← e, e_82_19 E]
          repeat (first | (apply ifT; focus ((try simp (disch := omega) only [t.k5, c1, e1, t.r5_0, t.k6, t.n6, cp, yb, e2, e3, e4, ofNat_nI, i_lit, mI_pI, mK_pI, mN_pI, mR_pI, nI_ltI, nI_eq, nI_add, nI_mul, mjIn_nI, nI_clamp, neg1_lt0, if_pos, if_neg, if_true, if_false, Bool.false_eq_true, and_true, true_and, and_false, false_and, mI_pL, mK_pL, mN_pL, mR_pL, mL_pL, mL_pI, mI_pR, mL_pR, mK_pR, mN_pR, mR_pR, mI_pC, mL_pC, mK_pC, mN_pC, mR_pC]) <;> first | omega | decide)) | (apply ifF; focus ((try simp (disch := omega) only [t.k5, c1, e1, t.r5_0, t.k6, t.n6, cp, yb, e2, e3, e4, ofNat_nI, i_lit, mI_pI, mK_pI, mN_pI, mR_pI, nI_ltI, nI_eq, nI_add, nI_mul, mjIn_nI, nI_clamp, neg1_lt0, if_pos, if_neg, if_true, if_false, Bool.false_eq_true, and_true, true_and, and_false, false_and, mI_pL, mK_pL, mN_pL, mR_pL, mL_pL, mL_pI, mI_pR, mL_pR, mK_pR, mN_pR, mR_pR, mI_pC, mL_pC, mK_pC, mN_pC, mR_pC]) <;> first | omega | decide)) | (apply stI; focus ((try simp (disch := omega) only [t.k5, c1, e1, t.r5_0, t.k6, t.n6, cp, yb, e2, e3, e4, ofNat_nI, i_lit, mI_pI, mK_pI, mN_pI, mR_pI, nI_ltI, nI_eq, nI_add, nI_mul, mjIn_nI, nI_clamp, neg1_lt0, if_pos, if_neg, if_true, if_false, Bool.false_eq_true, and_true, true_and, and_false, false_and, mI_pL, mK_pL, mN_pL, mR_pL, mL_pL, mL_pI, mI_pR, mL_pR, mK_pR, mN_pR, mR_pR, mI_pC, mL_pC, mK_pC, mN_pC, mR_pC]) <;> rfl)) | (apply stV; focus ((try simp (disch := omega) only [t.k5, c1, e1, t.r5_0, t.k6, t.n6, cp, yb, e2, e3, e4, ofNat_nI, i_lit, mI_pI, mK_pI, mN_pI, mR_pI, nI_ltI, nI_eq, nI_add, nI_mul, mjIn_nI, nI_clamp, neg1_lt0, if_pos, if_neg, if_true, if_false, Bool.false_eq_true, and_true, true_and, and_false, false_and, mI_pL, mK_pL, mN_pL, mR_pL, mL_pL, mL_pI, mI_pR, mL_pR, mK_pR, mN_pR, mR_pR, mI_pC, mL_pC, mK_pC, mN_pC, mR_pC]) <;> rfl)) | (apply stL; focus ((try simp (disch := omega) only [t.k5, c1, e1, t.r5_0, t.k6, t.n6, cp, yb, e2, e3, e4, ofNat_nI, i_lit, mI_pI, mK_pI, mN_pI, mR_pI, nI_ltI, nI_eq, nI_add, nI_mul, mjIn_nI, nI_clamp, neg1_lt0, if_pos, if_neg, if_true, if_false, Bool.false_eq_true, and_true, true_and, and_false, false_and, mI_pL, mK_pL, mN_pL, mR_pL, mL_pL, mL_pI, mI_pR, mL_pR, mK_pR, mN_pR, mR_pR, mI_pC, mL_pC, mK_pC, mN_pC, mR_pC]) <;> rfl)) | (apply stA; focus ((try simp (disch := omega) only [t.k5, c1, e1, t.r5_0, t.k6, t.n6, cp, yb, e2, e3, e4, ofNat_nI, i_lit, mI_pI, mK_pI, mN_pI, mR_pI, nI_ltI, nI_eq, nI_add, nI_mul, mjIn_nI, nI_clamp, neg1_lt0, if_pos, if_neg, if_true, if_false, Bool.false_eq_true, and_true, true_and, and_false, false_and, mI_pL, mK_pL, mN_pL, mR_pL, mL_pL, mL_pI, mI_pR, mL_pR, mK_pR, mN_pR, mR_pR, mI_pC, mL_pC, mK_pC, mN_pC, mR_pC]) <;> rfl)))
          try simp (disch := omega) only [t.k5, c1, e1, t.r5_0, t.k6, t.n6, cp, yb, e2, e3, e4, ofNat_nI, i_lit, mI_pI, mK_pI, mN_pI, mR_pI, nI_ltI, nI_eq, nI_add, nI_mul, mjIn_nI, nI_clamp, neg1_lt0, if_pos, if_neg, if_true, if_false, Bool.false_eq_true, and_true, true_and, and_false, false_and, mI_pL, mK_pL, mN_pL, mR_pL, mL_pL, mL_pI, mI_pR, mL_pR, mK_pR, mN_pR, mR_pR, mI_pC, mL_pC, mK_pC, mN_pC, mR_pC]
        · rw [o1, pI_ne (by omega), pI_ne (by omega), pI_ne (by omega), pI_at]
        · rw [o2, pI_ne (by omega), pI_ne (by omega), pI_at]
        · rw [o3, pI_ne (by omega), pI_at]
        · obtain ⟨u1, u2, u3⟩ := o j (by omega)
          refine ⟨?_, ?_, ?_⟩
          · rw [u1, pI_ne (by omega), pI_ne (by omega), pI_ne (by omega), pI_nk (by omega)]
          · rw [u2, pI_ne (by omega), pI_ne (by omega), pI_nk (by omega), pI_ne (by omega)]
          · rw [u3, pI_ne (by omega), pI_nk (by omega), pI_ne (by omega), pI_ne (by omega)]
    · exact last (m + 1) p n v2 w h t c c5 h1 h2 (by omega)
/-- what laying out changes -/
abbrev FKu (a k : Nat) : Prop := a = 7 ∨ a = 8 ∨ a = 9 ∨ (a = 5 ∧ 5 ≤ k)
/-- where the reader of tokens is: what is left, the fault -/
def Tp (h : mjS) (tb : Nat → Int32) (tl : Nat) (i : Nat) (ts : List tok) (ft : Nat) : Prop := tSh h ∧ c3 h tb tl ∧ tl ≤ 400 ∧ mI h 5 6 = nI i ∧ i + ts.length ≤ 400 ∧ Tr h tl i ts ∧ mI h 5 7 = nI ft
theorem tz_all (E : mjFix ev) (t : tSh h) (c : c3 h tb tl) (l4 : tl ≤ 400) : ∃ h', mjCall ev 82 lv [.ref 5] h = some (.ref 0, h') ∧ Fr FKu h h' ∧ Tp h' tb tl 0 (tks tb tl) 0 := by
  have f0 : Fr FKu h (pI (pI (pI h 5 6 (nI 0)) 5 7 (nI 0)) 5 5 (nI 0)) := ((Fr.pI (F := FKu) (by unfold FKu; omega)).tr (Fr.pI (F := FKu) (by unfold FKu; omega))).tr (Fr.pI (F := FKu) (by unfold FKu; omega))
  have t0 := t.ft2 f0.t (fun x hx => by unfold FKu; omega)
  have c0 : c3 _ tb tl := c.ft f0.t ⟨by unfold FKu; omega, fun k => by unfold FKu; omega⟩
  obtain ⟨h', e, f, r, -⟩ := tz_lays (lv := lv) (tb := tb) E l4 tl 0 0 0 mjD _ t0 c0 pI_at (by omega) (by omega) (by omega) (by omega)
  have f' : Fr FKu _ h' := f.mono (fun x k hx => by unfold FKt at hx; unfold FKu; omega)
  have ln := tkz_len tb tl tl 0 (by omega)
  refine ⟨h', ?_, f0.tr f', t0.ft2 f.t (fun x hx => by unfold FKt; omega), c0.ft f.t ⟨by unfold FKt; omega, fun k => by unfold FKt; omega⟩, l4, ?_, by unfold tks; omega, r, ?_⟩
  · show ev 82 lv 0 [.ref 5, mjD, mjD, mjD] [] h = _
    rw [← e, e_82_0 E]
    repeat (first | (apply ifT; focus ((try simp (disch := omega) only [t.k5, ofNat_nI, i_lit, mI_pI, mK_pI, mN_pI, mR_pI, nI_ltI, nI_eq, nI_add, nI_mul, mjIn_nI, nI_clamp, neg1_lt0, if_pos, if_neg, if_true, if_false, Bool.false_eq_true, and_true, true_and, and_false, false_and, mI_pL, mK_pL, mN_pL, mR_pL, mL_pL, mL_pI, mI_pR, mL_pR, mK_pR, mN_pR, mR_pR, mI_pC, mL_pC, mK_pC, mN_pC, mR_pC]) <;> first | omega | decide)) | (apply ifF; focus ((try simp (disch := omega) only [t.k5, ofNat_nI, i_lit, mI_pI, mK_pI, mN_pI, mR_pI, nI_ltI, nI_eq, nI_add, nI_mul, mjIn_nI, nI_clamp, neg1_lt0, if_pos, if_neg, if_true, if_false, Bool.false_eq_true, and_true, true_and, and_false, false_and, mI_pL, mK_pL, mN_pL, mR_pL, mL_pL, mL_pI, mI_pR, mL_pR, mK_pR, mN_pR, mR_pR, mI_pC, mL_pC, mK_pC, mN_pC, mR_pC]) <;> first | omega | decide)) | (apply stI; focus ((try simp (disch := omega) only [t.k5, ofNat_nI, i_lit, mI_pI, mK_pI, mN_pI, mR_pI, nI_ltI, nI_eq, nI_add, nI_mul, mjIn_nI, nI_clamp, neg1_lt0, if_pos, if_neg, if_true, if_false, Bool.false_eq_true, and_true, true_and, and_false, false_and, mI_pL, mK_pL, mN_pL, mR_pL, mL_pL, mL_pI, mI_pR, mL_pR, mK_pR, mN_pR, mR_pR, mI_pC, mL_pC, mK_pC, mN_pC, mR_pC]) <;> rfl)) | (apply stV; focus ((try simp (disch := omega) only [t.k5, ofNat_nI, i_lit, mI_pI, mK_pI, mN_pI, mR_pI, nI_ltI, nI_eq, nI_add, nI_mul, mjIn_nI, nI_clamp, neg1_lt0, if_pos, if_neg, if_true, if_false, Bool.false_eq_true, and_true, true_and, and_false, false_and, mI_pL, mK_pL, mN_pL, mR_pL, mL_pL, mL_pI, mI_pR, mL_pR, mK_pR, mN_pR, mR_pR, mI_pC, mL_pC, mK_pC, mN_pC, mR_pC]) <;> rfl)) | (apply stL; focus ((try simp (disch := omega) only [t.k5, ofNat_nI, i_lit, mI_pI, mK_pI, mN_pI, mR_pI, nI_ltI, nI_eq, nI_add, nI_mul, mjIn_nI, nI_clamp, neg1_lt0, if_pos, if_neg, if_true, if_false, Bool.false_eq_true, and_true, true_and, and_false, false_and, mI_pL, mK_pL, mN_pL, mR_pL, mL_pL, mL_pI, mI_pR, mL_pR, mK_pR, mN_pR, mR_pR, mI_pC, mL_pC, mK_pC, mN_pC, mR_pC]) <;> rfl)) | (apply stA; focus ((try simp (disch := omega) only [t.k5, ofNat_nI, i_lit, mI_pI, mK_pI, mN_pI, mR_pI, nI_ltI, nI_eq, nI_add, nI_mul, mjIn_nI, nI_clamp, neg1_lt0, if_pos, if_neg, if_true, if_false, Bool.false_eq_true, and_true, true_and, and_false, false_and, mI_pL, mK_pL, mN_pL, mR_pL, mL_pL, mL_pI, mI_pR, mL_pR, mK_pR, mN_pR, mR_pR, mI_pC, mL_pC, mK_pC, mN_pC, mR_pC]) <;> rfl)))
    try simp (disch := omega) only [t.k5, ofNat_nI, i_lit, mI_pI, mK_pI, mN_pI, mR_pI, nI_ltI, nI_eq, nI_add, nI_mul, mjIn_nI, nI_clamp, neg1_lt0, if_pos, if_neg, if_true, if_false, Bool.false_eq_true, and_true, true_and, and_false, false_and, mI_pL, mK_pL, mN_pL, mR_pL, mL_pL, mL_pI, mI_pR, mL_pR, mK_pR, mN_pR, mR_pR, mI_pC, mL_pC, mK_pC, mN_pC, mR_pC]
  · rw [f.I (by unfold FKt; omega), pI_nk (by omega), pI_nk (by omega), pI_at]
  · rw [f.I (by unfold FKt; omega), pI_nk (by omega), pI_at]
end TL
