/-! looking at a token, taking it, marking a fault -/
def kd (ts : List tok) : Nat := match ts with
  | [] => 1
  | x :: _ => x.1
def pl (tl : Nat) (ts : List tok) : Nat := match ts with
  | [] => tl
  | x :: _ => x.2.1
def va (ts : List tok) : Option Nat := match ts with
  | [] => some 0
  | x :: _ => x.2.2
def okT (tl : Nat) (ts : List tok) : Prop := ∀ x, x ∈ ts → (2 ≤ x.1 ∧ x.1 < 200) ∧ x.2.1 < tl ∧ ∀ v, x.2.2 = some v → v < 100000
theorem kwF_lt (tb : Nat → Int32) (p e : Nat) : ∀ n k, 2 ≤ kwF tb p e n k ∧ kwF tb p e n k < 129 + k + n := by
  intro n
  induction n with
  | zero => intro k; show 2 ≤ 2 ∧ 2 < 129 + k + 0; omega
  | succ n ih =>
    intro k
    have := ih (k + 1)
    show 2 ≤ (if wL k = e - p ∧ mtW tb p k (wL k) 0 = true then 128 + k else kwF tb p e n (k + 1)) ∧ (if wL k = e - p ∧ mtW tb p k (wL k) 0 = true then 128 + k else kwF tb p e n (k + 1)) < 129 + k + (n + 1)
    split <;> omega
theorem kiS_lt (b : Int32) : 2 ≤ kiS b ∧ kiS b < 200 := by
  unfold kiS
  have all : ∀ y ∈ mjTx 3, 2 ≤ y.toNatClampNeg ∧ y.toNatClampNeg < 200 := by decide
  by_cases m : uB b ∈ mjTx 3
  · have := all _ m
    split <;> omega
  · rw [find_no m, if_pos (by decide)]; omega
theorem kiT_lt (tb : Nat → Int32) (tl p : Nat) : 2 ≤ kiT tb tl p ∧ kiT tb tl p < 200 := by
  have a := kwF_lt tb p (ndT tb tl p) 18 0
  have b := kiS_lt (tb p)
  unfold kiT
  split
  · omega
  · split
    · omega
    · split
      · split <;> omega
      · omega
theorem dv_lt (tb : Nat → Int32) : ∀ m j a k, (∀ i, j ≤ i → i < j + m → dgt (tb i) = true) → a < 10 ^ k → dv tb m j a < 10 ^ (k + m) := by
  intro m
  induction m with
  | zero => intro j a k _ ha; exact ha
  | succ m ih =>
    intro j a k hd ha
    have d := dgt_nat (hd j (by omega) (by omega))
    show dv tb m (j + 1) (10 * a + dn (tb j)) < _
    have := ih (j + 1) (10 * a + dn (tb j)) (k + 1) (fun i h1 h2 => hd i (by omega) (by omega)) (by rw [Nat.pow_succ]; omega)
    rw [show k + (m + 1) = k + 1 + m by omega]
    exact this
theorem vaT_lt {tb : Nat → Int32} {tl p : Nat} (hp : p < tl) : ∀ v, vaT tb tl p = some v → v < 100000 := by
  intro v e
  unfold vaT at e
  by_cases y : dgt (tb p) = true
  · rw [if_pos y] at e
    by_cases y2 : 5 < ndT tb tl p - p
    · rw [if_pos y2] at e; cases e
    · rw [if_neg y2] at e
      cases e
      have nl : ¬ ltr (tb p) = true := fun z => by have := ltr_dgt z; rw [this] at y; exact Bool.noConfusion y
      have g := ndT_ge (tb := tb) hp
      have := dv_lt tb (ndT tb tl p - p) p 0 0 (fun i h1 h2 => ndT_dgt (tl := tl) y nl i h1 (by omega)) (by decide)
      have p5 : 10 ^ (0 + (ndT tb tl p - p)) ≤ 10 ^ 5 := Nat.pow_le_pow_right (by omega) (by omega)
      exact Nat.lt_of_lt_of_le this p5
  · rw [if_neg y] at e; cases e; omega
theorem tkz_ok (tb : Nat → Int32) (tl : Nat) : ∀ m p, p ≤ tl → okT tl (tkz tb tl m p) := by
  intro m
  induction m with
  | zero => intro p _ x hx; exact absurd hx List.not_mem_nil
  | succ m ih =>
    intro p h0
    by_cases y : p < tl
    · have g := ndT_ge (tb := tb) y
      rw [tkz_step, if_pos y]
      split
      · exact ih (p + 1) (by omega)
      · intro x hx
        rcases List.mem_cons.mp hx with e | e
        · subst e; exact ⟨kiT_lt tb tl p, y, vaT_lt y⟩
        · exact ih (ndT tb tl p) (by omega) x e
    · rw [show p = tl by omega, tkz_end]; intro x hx; exact absurd hx List.not_mem_nil
theorem kd_lt {tl : Nat} {ts : List tok} (o : okT tl ts) : 1 ≤ kd ts ∧ kd ts < 200 := by
  cases ts with
  | nil => exact ⟨by show 1 ≤ 1; omega, by show 1 < 200; omega⟩
  | cons x r => have := (o x List.mem_cons_self).1; exact ⟨by show 1 ≤ x.1; omega, by show x.1 < 200; omega⟩
theorem pl_le {tl : Nat} {ts : List tok} (o : okT tl ts) : pl tl ts ≤ tl := by
  cases ts with
  | nil => exact Nat.le_refl _
  | cons x r => exact Nat.le_of_lt (o x List.mem_cons_self).2.1
theorem okT.tail {tl : Nat} {ts : List tok} (o : okT tl ts) : okT tl ts.tail := fun x hx => o x (List.mem_of_mem_tail hx)
theorem Tr.cnt {h : mjS} {tl : Nat} : ∀ {ts : List tok} {i : Nat}, Tr h tl i ts → mI h 5 5 = nI (i + ts.length + 1) := by
  intro ts
  induction ts with
  | nil => intro i a; exact a.2.2.2
  | cons x r ih => intro i a; obtain ⟨k, p, v⟩ := x; rw [ih a.2.2.2]; rw [List.length_cons]; congr 1; omega
theorem Tr.head {h : mjS} {tl i : Nat} {ts : List tok} (a : Tr h tl i ts) : mI h 7 i = nI (kd ts) ∧ mI h 8 i = nI (pl tl ts) ∧ mI h 9 i = vI (va ts) := by
  cases ts with
  | nil => exact ⟨a.1, a.2.1, a.2.2.1⟩
  | cons x r => obtain ⟨k, p, v⟩ := x; exact ⟨a.1, a.2.1, a.2.2.1⟩
/-- where a reader is, with what can stand there -/
def Tq (h : mjS) (tb : Nat → Int32) (tl : Nat) (i : Nat) (ts : List tok) (ft : Nat) : Prop := Tp h tb tl i ts ft ∧ okT tl ts ∧ ft < 5000
/-- what readers change of the tape -/
abbrev FTp (a k : Nat) : Prop := a = 5 ∧ (k = 6 ∨ k = 7)
section TQ
variable {ev : mjT} {lv : Nat} {h : mjS} {tb : Nat → Int32} {tl i ft : Nat} {ts : List tok}
theorem Tq.fr {F : Nat → Nat → Prop} {h' : mjS} (a : Fr F h h') (hF : ∀ x k, 5 ≤ x ∧ x < 10 → ¬ F x k) (h0 : ∀ x, x = 4 ∨ x = 10 ∨ x = 11 ∨ x = 26 → ¬ F x 0) (q : Tq h tb tl i ts ft) : Tq h' tb tl i ts ft := by
  obtain ⟨⟨t, c, l4, a6, ln, tr, a7⟩, o, fl⟩ := q
  exact ⟨⟨t.ft2 a.t (fun x hx => by by_cases y : x = 5; exact hF x 0 (by omega); exact h0 x (by omega)), c.ft a.t ⟨hF _ _ (by omega), fun k => hF _ _ (by omega)⟩, l4, by rw [a.I (hF _ _ (by omega))]; exact a6, ln, tr.keep (fun k => ⟨a.I (hF _ _ (by omega)), a.I (hF _ _ (by omega)), a.I (hF _ _ (by omega))⟩) (a.I (hF _ _ (by omega))), by rw [a.I (hF _ _ (by omega))]; exact a7⟩, o, fl⟩
theorem tq_peek (E : mjFix ev) (q : Tq h tb tl i ts ft) : mjCall ev 83 lv [.ref 5] h = some (.int (nI (kd ts)), h) := by
  obtain ⟨⟨t, c, l4, a6, ln, tr, a7⟩, o, fl⟩ := q
  have hd := tr.head.1
  show ev 83 lv 0 [.ref 5] [] h = _
  rw [e_83_0 E]
  repeat (first | (apply ifT; focus ((try simp (disch := omega) only [t.k5, t.r5_2, t.k7, t.n7, a6, hd, ofNat_nI, i_lit, mI_pI, mK_pI, mN_pI, mR_pI, nI_ltI, nI_eq, nI_add, nI_mul, mjIn_nI, nI_clamp, neg1_lt0, if_pos, if_neg, if_true, if_false, Bool.false_eq_true, and_true, true_and, and_false, false_and, mI_pL, mK_pL, mN_pL, mR_pL, mL_pL, mL_pI, mI_pR, mL_pR, mK_pR, mN_pR, mR_pR, mI_pC, mL_pC, mK_pC, mN_pC, mR_pC]) <;> first | omega | decide)) | (apply ifF; focus ((try simp (disch := omega) only [t.k5, t.r5_2, t.k7, t.n7, a6, hd, ofNat_nI, i_lit, mI_pI, mK_pI, mN_pI, mR_pI, nI_ltI, nI_eq, nI_add, nI_mul, mjIn_nI, nI_clamp, neg1_lt0, if_pos, if_neg, if_true, if_false, Bool.false_eq_true, and_true, true_and, and_false, false_and, mI_pL, mK_pL, mN_pL, mR_pL, mL_pL, mL_pI, mI_pR, mL_pR, mK_pR, mN_pR, mR_pR, mI_pC, mL_pC, mK_pC, mN_pC, mR_pC]) <;> first | omega | decide)) | (apply stI; focus ((try simp (disch := omega) only [t.k5, t.r5_2, t.k7, t.n7, a6, hd, ofNat_nI, i_lit, mI_pI, mK_pI, mN_pI, mR_pI, nI_ltI, nI_eq, nI_add, nI_mul, mjIn_nI, nI_clamp, neg1_lt0, if_pos, if_neg, if_true, if_false, Bool.false_eq_true, and_true, true_and, and_false, false_and, mI_pL, mK_pL, mN_pL, mR_pL, mL_pL, mL_pI, mI_pR, mL_pR, mK_pR, mN_pR, mR_pR, mI_pC, mL_pC, mK_pC, mN_pC, mR_pC]) <;> rfl)) | (apply stV; focus ((try simp (disch := omega) only [t.k5, t.r5_2, t.k7, t.n7, a6, hd, ofNat_nI, i_lit, mI_pI, mK_pI, mN_pI, mR_pI, nI_ltI, nI_eq, nI_add, nI_mul, mjIn_nI, nI_clamp, neg1_lt0, if_pos, if_neg, if_true, if_false, Bool.false_eq_true, and_true, true_and, and_false, false_and, mI_pL, mK_pL, mN_pL, mR_pL, mL_pL, mL_pI, mI_pR, mL_pR, mK_pR, mN_pR, mR_pR, mI_pC, mL_pC, mK_pC, mN_pC, mR_pC]) <;> rfl)) | (apply stL; focus ((try simp (disch := omega) only [t.k5, t.r5_2, t.k7, t.n7, a6, hd, ofNat_nI, i_lit, mI_pI, mK_pI, mN_pI, mR_pI, nI_ltI, nI_eq, nI_add, nI_mul, mjIn_nI, nI_clamp, neg1_lt0, if_pos, if_neg, if_true, if_false, Bool.false_eq_true, and_true, true_and, and_false, false_and, mI_pL, mK_pL, mN_pL, mR_pL, mL_pL, mL_pI, mI_pR, mL_pR, mK_pR, mN_pR, mR_pR, mI_pC, mL_pC, mK_pC, mN_pC, mR_pC]) <;> rfl)) | (apply stA; focus ((try simp (disch := omega) only [t.k5, t.r5_2, t.k7, t.n7, a6, hd, ofNat_nI, i_lit, mI_pI, mK_pI, mN_pI, mR_pI, nI_ltI, nI_eq, nI_add, nI_mul, mjIn_nI, nI_clamp, neg1_lt0, if_pos, if_neg, if_true, if_false, Bool.false_eq_true, and_true, true_and, and_false, false_and, mI_pL, mK_pL, mN_pL, mR_pL, mL_pL, mL_pI, mI_pR, mL_pR, mK_pR, mN_pR, mR_pR, mI_pC, mL_pC, mK_pC, mN_pC, mR_pC]) <;> rfl)))
  try simp (disch := omega) only [t.k5, t.r5_2, t.k7, t.n7, a6, hd, ofNat_nI, i_lit, mI_pI, mK_pI, mN_pI, mR_pI, nI_ltI, nI_eq, nI_add, nI_mul, mjIn_nI, nI_clamp, neg1_lt0, if_pos, if_neg, if_true, if_false, Bool.false_eq_true, and_true, true_and, and_false, false_and, mI_pL, mK_pL, mN_pL, mR_pL, mL_pL, mL_pI, mI_pR, mL_pR, mK_pR, mN_pR, mR_pR, mI_pC, mL_pC, mK_pC, mN_pC, mR_pC]
theorem tq_val (E : mjFix ev) (q : Tq h tb tl i ts ft) : mjCall ev 84 lv [.ref 5] h = some (.int (vI (va ts)), h) := by
  obtain ⟨⟨t, c, l4, a6, ln, tr, a7⟩, o, fl⟩ := q
  have hd := tr.head.2.2
  show ev 84 lv 0 [.ref 5] [] h = _
  rw [e_84_0 E]
  repeat (first | (apply ifT; focus ((try simp (disch := omega) only [t.k5, t.r5_4, t.k9, t.n9, a6, hd, ofNat_nI, i_lit, mI_pI, mK_pI, mN_pI, mR_pI, nI_ltI, nI_eq, nI_add, nI_mul, mjIn_nI, nI_clamp, neg1_lt0, if_pos, if_neg, if_true, if_false, Bool.false_eq_true, and_true, true_and, and_false, false_and, mI_pL, mK_pL, mN_pL, mR_pL, mL_pL, mL_pI, mI_pR, mL_pR, mK_pR, mN_pR, mR_pR, mI_pC, mL_pC, mK_pC, mN_pC, mR_pC]) <;> first | omega | decide)) | (apply ifF; focus ((try simp (disch := omega) only [t.k5, t.r5_4, t.k9, t.n9, a6, hd, ofNat_nI, i_lit, mI_pI, mK_pI, mN_pI, mR_pI, nI_ltI, nI_eq, nI_add, nI_mul, mjIn_nI, nI_clamp, neg1_lt0, if_pos, if_neg, if_true, if_false, Bool.false_eq_true, and_true, true_and, and_false, false_and, mI_pL, mK_pL, mN_pL, mR_pL, mL_pL, mL_pI, mI_pR, mL_pR, mK_pR, mN_pR, mR_pR, mI_pC, mL_pC, mK_pC, mN_pC, mR_pC]) <;> first | omega | decide)) | (apply stI; focus ((try simp (disch := omega) only [t.k5, t.r5_4, t.k9, t.n9, a6, hd, ofNat_nI, i_lit, mI_pI, mK_pI, mN_pI, mR_pI, nI_ltI, nI_eq, nI_add, nI_mul, mjIn_nI, nI_clamp, neg1_lt0, if_pos, if_neg, if_true, if_false, Bool.false_eq_true, and_true, true_and, and_false, false_and, mI_pL, mK_pL, mN_pL, mR_pL, mL_pL, mL_pI, mI_pR, mL_pR, mK_pR, mN_pR, mR_pR, mI_pC, mL_pC, mK_pC, mN_pC, mR_pC]) <;> rfl)) | (apply stV; focus ((try simp (disch := omega) only [t.k5, t.r5_4, t.k9, t.n9, a6, hd, ofNat_nI, i_lit, mI_pI, mK_pI, mN_pI, mR_pI, nI_ltI, nI_eq, nI_add, nI_mul, mjIn_nI, nI_clamp, neg1_lt0, if_pos, if_neg, if_true, if_false, Bool.false_eq_true, and_true, true_and, and_false, false_and, mI_pL, mK_pL, mN_pL, mR_pL, mL_pL, mL_pI, mI_pR, mL_pR, mK_pR, mN_pR, mR_pR, mI_pC, mL_pC, mK_pC, mN_pC, mR_pC]) <;> rfl)) | (apply stL; focus ((try simp (disch := omega) only [t.k5, t.r5_4, t.k9, t.n9, a6, hd, ofNat_nI, i_lit, mI_pI, mK_pI, mN_pI, mR_pI, nI_ltI, nI_eq, nI_add, nI_mul, mjIn_nI, nI_clamp, neg1_lt0, if_pos, if_neg, if_true, if_false, Bool.false_eq_true, and_true, true_and, and_false, false_and, mI_pL, mK_pL, mN_pL, mR_pL, mL_pL, mL_pI, mI_pR, mL_pR, mK_pR, mN_pR, mR_pR, mI_pC, mL_pC, mK_pC, mN_pC, mR_pC]) <;> rfl)) | (apply stA; focus ((try simp (disch := omega) only [t.k5, t.r5_4, t.k9, t.n9, a6, hd, ofNat_nI, i_lit, mI_pI, mK_pI, mN_pI, mR_pI, nI_ltI, nI_eq, nI_add, nI_mul, mjIn_nI, nI_clamp, neg1_lt0, if_pos, if_neg, if_true, if_false, Bool.false_eq_true, and_true, true_and, and_false, false_and, mI_pL, mK_pL, mN_pL, mR_pL, mL_pL, mL_pI, mI_pR, mL_pR, mK_pR, mN_pR, mR_pR, mI_pC, mL_pC, mK_pC, mN_pC, mR_pC]) <;> rfl)))
  try simp (disch := omega) only [t.k5, t.r5_4, t.k9, t.n9, a6, hd, ofNat_nI, i_lit, mI_pI, mK_pI, mN_pI, mR_pI, nI_ltI, nI_eq, nI_add, nI_mul, mjIn_nI, nI_clamp, neg1_lt0, if_pos, if_neg, if_true, if_false, Bool.false_eq_true, and_true, true_and, and_false, false_and, mI_pL, mK_pL, mN_pL, mR_pL, mL_pL, mL_pI, mI_pR, mL_pR, mK_pR, mN_pR, mR_pR, mI_pC, mL_pC, mK_pC, mN_pC, mR_pC]
/-- a fault stands: nothing is taken -/
theorem tq_stuck (E : mjFix ev) (q : Tq h tb tl i ts ft) (hf : ft ≠ 0) (k : Int32) : mjCall ev 85 lv [.ref 5, .int k] h = some (.int (nI 0), h) := by
  obtain ⟨⟨t, c, l4, a6, ln, tr, a7⟩, o, fl⟩ := q
  show ev 85 lv 0 [.ref 5, .int k] [] h = _
  rw [e_85_0 E]
  repeat (first | (apply ifT; focus ((try simp (disch := omega) only [t.k5, a7, ofNat_nI, i_lit, mI_pI, mK_pI, mN_pI, mR_pI, nI_ltI, nI_eq, nI_add, nI_mul, mjIn_nI, nI_clamp, neg1_lt0, if_pos, if_neg, if_true, if_false, Bool.false_eq_true, and_true, true_and, and_false, false_and, mI_pL, mK_pL, mN_pL, mR_pL, mL_pL, mL_pI, mI_pR, mL_pR, mK_pR, mN_pR, mR_pR, mI_pC, mL_pC, mK_pC, mN_pC, mR_pC]) <;> first | omega | decide)) | (apply ifF; focus ((try simp (disch := omega) only [t.k5, a7, ofNat_nI, i_lit, mI_pI, mK_pI, mN_pI, mR_pI, nI_ltI, nI_eq, nI_add, nI_mul, mjIn_nI, nI_clamp, neg1_lt0, if_pos, if_neg, if_true, if_false, Bool.false_eq_true, and_true, true_and, and_false, false_and, mI_pL, mK_pL, mN_pL, mR_pL, mL_pL, mL_pI, mI_pR, mL_pR, mK_pR, mN_pR, mR_pR, mI_pC, mL_pC, mK_pC, mN_pC, mR_pC]) <;> first | omega | decide)) | (apply stI; focus ((try simp (disch := omega) only [t.k5, a7, ofNat_nI, i_lit, mI_pI, mK_pI, mN_pI, mR_pI, nI_ltI, nI_eq, nI_add, nI_mul, mjIn_nI, nI_clamp, neg1_lt0, if_pos, if_neg, if_true, if_false, Bool.false_eq_true, and_true, true_and, and_false, false_and, mI_pL, mK_pL, mN_pL, mR_pL, mL_pL, mL_pI, mI_pR, mL_pR, mK_pR, mN_pR, mR_pR, mI_pC, mL_pC, mK_pC, mN_pC, mR_pC]) <;> rfl)) | (apply stV; focus ((try simp (disch := omega) only [t.k5, a7, ofNat_nI, i_lit, mI_pI, mK_pI, mN_pI, mR_pI, nI_ltI, nI_eq, nI_add, nI_mul, mjIn_nI, nI_clamp, neg1_lt0, if_pos, if_neg, if_true, if_false, Bool.false_eq_true, and_true, true_and, and_false, false_and, mI_pL, mK_pL, mN_pL, mR_pL, mL_pL, mL_pI, mI_pR, mL_pR, mK_pR, mN_pR, mR_pR, mI_pC, mL_pC, mK_pC, mN_pC, mR_pC]) <;> rfl)) | (apply stL; focus ((try simp (disch := omega) only [t.k5, a7, ofNat_nI, i_lit, mI_pI, mK_pI, mN_pI, mR_pI, nI_ltI, nI_eq, nI_add, nI_mul, mjIn_nI, nI_clamp, neg1_lt0, if_pos, if_neg, if_true, if_false, Bool.false_eq_true, and_true, true_and, and_false, false_and, mI_pL, mK_pL, mN_pL, mR_pL, mL_pL, mL_pI, mI_pR, mL_pR, mK_pR, mN_pR, mR_pR, mI_pC, mL_pC, mK_pC, mN_pC, mR_pC]) <;> rfl)) | (apply stA; focus ((try simp (disch := omega) only [t.k5, a7, ofNat_nI, i_lit, mI_pI, mK_pI, mN_pI, mR_pI, nI_ltI, nI_eq, nI_add, nI_mul, mjIn_nI, nI_clamp, neg1_lt0, if_pos, if_neg, if_true, if_false, Bool.false_eq_true, and_true, true_and, and_false, false_and, mI_pL, mK_pL, mN_pL, mR_pL, mL_pL, mL_pI, mI_pR, mL_pR, mK_pR, mN_pR, mR_pR, mI_pC, mL_pC, mK_pC, mN_pC, mR_pC]) <;> rfl)))
  try simp (disch := omega) only [t.k5, a7, ofNat_nI, i_lit, mI_pI, mK_pI, mN_pI, mR_pI, nI_ltI, nI_eq, nI_add, nI_mul, mjIn_nI, nI_clamp, neg1_lt0, if_pos, if_neg, if_true, if_false, Bool.false_eq_true, and_true, true_and, and_false, false_and, mI_pL, mK_pL, mN_pL, mR_pL, mL_pL, mL_pI, mI_pR, mL_pR, mK_pR, mN_pR, mR_pR, mI_pC, mL_pC, mK_pC, mN_pC, mR_pC]
theorem tq_mark (E : mjFix ev) (q : Tq h tb tl i ts ft) {k : Nat} (hk : k < 8) : ∃ h', mjCall ev 86 lv [.ref 5, .int (nI k)] h = some (.ref 0, h') ∧ Fr FTp h h' ∧ Tq h' tb tl i ts (if ft = 0 then 1 + 8 * pl tl ts + k else ft) := by
  have q0 := q
  obtain ⟨⟨t, c, l4, a6, ln, tr, a7⟩, o, fl⟩ := q
  have hd := tr.head.2.1
  have hp := pl_le o
  by_cases y : ft = 0
  · rw [if_pos y]
    have f : Fr FTp h (pI h 5 7 (nI (1 + 8 * pl tl ts + k))) := Fr.pI (by unfold FTp; omega)
    refine ⟨_, ?_, f, ⟨t.ft2 f.t (fun x hx => by unfold FTp; omega), c.ft f.t ⟨by unfold FTp; omega, fun k => by unfold FTp; omega⟩, l4, by rw [pI_nk (by omega)]; exact a6, ln, tr.keep (fun k => ⟨f.I (by unfold FTp; omega), f.I (by unfold FTp; omega), f.I (by unfold FTp; omega)⟩) (by rw [pI_nk (by omega)]), pI_at⟩, o, by omega⟩
    show ev 86 lv 0 [.ref 5, .int (nI k)] [] h = _
    rw [e_86_0 E]
    rw [y] at a7
    repeat (first | (apply ifT; focus ((try simp (disch := omega) only [t.k5, a7, t.r5_3, t.k8, t.n8, a6, hd, ofNat_nI, i_lit, mI_pI, mK_pI, mN_pI, mR_pI, nI_ltI, nI_eq, nI_add, nI_mul, mjIn_nI, nI_clamp, neg1_lt0, if_pos, if_neg, if_true, if_false, Bool.false_eq_true, and_true, true_and, and_false, false_and, mI_pL, mK_pL, mN_pL, mR_pL, mL_pL, mL_pI, mI_pR, mL_pR, mK_pR, mN_pR, mR_pR, mI_pC, mL_pC, mK_pC, mN_pC, mR_pC]) <;> first | omega | decide)) | (apply ifF; focus ((try simp (disch := omega) only [t.k5, a7, t.r5_3, t.k8, t.n8, a6, hd, ofNat_nI, i_lit, mI_pI, mK_pI, mN_pI, mR_pI, nI_ltI, nI_eq, nI_add, nI_mul, mjIn_nI, nI_clamp, neg1_lt0, if_pos, if_neg, if_true, if_false, Bool.false_eq_true, and_true, true_and, and_false, false_and, mI_pL, mK_pL, mN_pL, mR_pL, mL_pL, mL_pI, mI_pR, mL_pR, mK_pR, mN_pR, mR_pR, mI_pC, mL_pC, mK_pC, mN_pC, mR_pC]) <;> first | omega | decide)) | (apply stI; focus ((try simp (disch := omega) only [t.k5, a7, t.r5_3, t.k8, t.n8, a6, hd, ofNat_nI, i_lit, mI_pI, mK_pI, mN_pI, mR_pI, nI_ltI, nI_eq, nI_add, nI_mul, mjIn_nI, nI_clamp, neg1_lt0, if_pos, if_neg, if_true, if_false, Bool.false_eq_true, and_true, true_and, and_false, false_and, mI_pL, mK_pL, mN_pL, mR_pL, mL_pL, mL_pI, mI_pR, mL_pR, mK_pR, mN_pR, mR_pR, mI_pC, mL_pC, mK_pC, mN_pC, mR_pC]) <;> rfl)) | (apply stV; focus ((try simp (disch := omega) only [t.k5, a7, t.r5_3, t.k8, t.n8, a6, hd, ofNat_nI, i_lit, mI_pI, mK_pI, mN_pI, mR_pI, nI_ltI, nI_eq, nI_add, nI_mul, mjIn_nI, nI_clamp, neg1_lt0, if_pos, if_neg, if_true, if_false, Bool.false_eq_true, and_true, true_and, and_false, false_and, mI_pL, mK_pL, mN_pL, mR_pL, mL_pL, mL_pI, mI_pR, mL_pR, mK_pR, mN_pR, mR_pR, mI_pC, mL_pC, mK_pC, mN_pC, mR_pC]) <;> rfl)) | (apply stL; focus ((try simp (disch := omega) only [t.k5, a7, t.r5_3, t.k8, t.n8, a6, hd, ofNat_nI, i_lit, mI_pI, mK_pI, mN_pI, mR_pI, nI_ltI, nI_eq, nI_add, nI_mul, mjIn_nI, nI_clamp, neg1_lt0, if_pos, if_neg, if_true, if_false, Bool.false_eq_true, and_true, true_and, and_false, false_and, mI_pL, mK_pL, mN_pL, mR_pL, mL_pL, mL_pI, mI_pR, mL_pR, mK_pR, mN_pR, mR_pR, mI_pC, mL_pC, mK_pC, mN_pC, mR_pC]) <;> rfl)) | (apply stA; focus ((try simp (disch := omega) only [t.k5, a7, t.r5_3, t.k8, t.n8, a6, hd, ofNat_nI, i_lit, mI_pI, mK_pI, mN_pI, mR_pI, nI_ltI, nI_eq, nI_add, nI_mul, mjIn_nI, nI_clamp, neg1_lt0, if_pos, if_neg, if_true, if_false, Bool.false_eq_true, and_true, true_and, and_false, false_and, mI_pL, mK_pL, mN_pL, mR_pL, mL_pL, mL_pI, mI_pR, mL_pR, mK_pR, mN_pR, mR_pR, mI_pC, mL_pC, mK_pC, mN_pC, mR_pC]) <;> rfl)))
    try simp (disch := omega) only [t.k5, a7, t.r5_3, t.k8, t.n8, a6, hd, ofNat_nI, i_lit, mI_pI, mK_pI, mN_pI, mR_pI, nI_ltI, nI_eq, nI_add, nI_mul, mjIn_nI, nI_clamp, neg1_lt0, if_pos, if_neg, if_true, if_false, Bool.false_eq_true, and_true, true_and, and_false, false_and, mI_pL, mK_pL, mN_pL, mR_pL, mL_pL, mL_pI, mI_pR, mL_pR, mK_pR, mN_pR, mR_pR, mI_pC, mL_pC, mK_pC, mN_pC, mR_pC]
  · rw [if_neg y]
    refine ⟨h, ?_, Fr.rf, q0⟩
    show ev 86 lv 0 [.ref 5, .int (nI k)] [] h = _
    rw [e_86_0 E]
    repeat (first | (apply ifT; focus ((try simp (disch := omega) only [t.k5, a7, ofNat_nI, i_lit, mI_pI, mK_pI, mN_pI, mR_pI, nI_ltI, nI_eq, nI_add, nI_mul, mjIn_nI, nI_clamp, neg1_lt0, if_pos, if_neg, if_true, if_false, Bool.false_eq_true, and_true, true_and, and_false, false_and, mI_pL, mK_pL, mN_pL, mR_pL, mL_pL, mL_pI, mI_pR, mL_pR, mK_pR, mN_pR, mR_pR, mI_pC, mL_pC, mK_pC, mN_pC, mR_pC]) <;> first | omega | decide)) | (apply ifF; focus ((try simp (disch := omega) only [t.k5, a7, ofNat_nI, i_lit, mI_pI, mK_pI, mN_pI, mR_pI, nI_ltI, nI_eq, nI_add, nI_mul, mjIn_nI, nI_clamp, neg1_lt0, if_pos, if_neg, if_true, if_false, Bool.false_eq_true, and_true, true_and, and_false, false_and, mI_pL, mK_pL, mN_pL, mR_pL, mL_pL, mL_pI, mI_pR, mL_pR, mK_pR, mN_pR, mR_pR, mI_pC, mL_pC, mK_pC, mN_pC, mR_pC]) <;> first | omega | decide)) | (apply stI; focus ((try simp (disch := omega) only [t.k5, a7, ofNat_nI, i_lit, mI_pI, mK_pI, mN_pI, mR_pI, nI_ltI, nI_eq, nI_add, nI_mul, mjIn_nI, nI_clamp, neg1_lt0, if_pos, if_neg, if_true, if_false, Bool.false_eq_true, and_true, true_and, and_false, false_and, mI_pL, mK_pL, mN_pL, mR_pL, mL_pL, mL_pI, mI_pR, mL_pR, mK_pR, mN_pR, mR_pR, mI_pC, mL_pC, mK_pC, mN_pC, mR_pC]) <;> rfl)) | (apply stV; focus ((try simp (disch := omega) only [t.k5, a7, ofNat_nI, i_lit, mI_pI, mK_pI, mN_pI, mR_pI, nI_ltI, nI_eq, nI_add, nI_mul, mjIn_nI, nI_clamp, neg1_lt0, if_pos, if_neg, if_true, if_false, Bool.false_eq_true, and_true, true_and, and_false, false_and, mI_pL, mK_pL, mN_pL, mR_pL, mL_pL, mL_pI, mI_pR, mL_pR, mK_pR, mN_pR, mR_pR, mI_pC, mL_pC, mK_pC, mN_pC, mR_pC]) <;> rfl)) | (apply stL; focus ((try simp (disch := omega) only [t.k5, a7, ofNat_nI, i_lit, mI_pI, mK_pI, mN_pI, mR_pI, nI_ltI, nI_eq, nI_add, nI_mul, mjIn_nI, nI_clamp, neg1_lt0, if_pos, if_neg, if_true, if_false, Bool.false_eq_true, and_true, true_and, and_false, false_and, mI_pL, mK_pL, mN_pL, mR_pL, mL_pL, mL_pI, mI_pR, mL_pR, mK_pR, mN_pR, mR_pR, mI_pC, mL_pC, mK_pC, mN_pC, mR_pC]) <;> rfl)) | (apply stA; focus ((try simp (disch := omega) only [t.k5, a7, ofNat_nI, i_lit, mI_pI, mK_pI, mN_pI, mR_pI, nI_ltI, nI_eq, nI_add, nI_mul, mjIn_nI, nI_clamp, neg1_lt0, if_pos, if_neg, if_true, if_false, Bool.false_eq_true, and_true, true_and, and_false, false_and, mI_pL, mK_pL, mN_pL, mR_pL, mL_pL, mL_pI, mI_pR, mL_pR, mK_pR, mN_pR, mR_pR, mI_pC, mL_pC, mK_pC, mN_pC, mR_pC]) <;> rfl)))
    try simp (disch := omega) only [t.k5, a7, ofNat_nI, i_lit, mI_pI, mK_pI, mN_pI, mR_pI, nI_ltI, nI_eq, nI_add, nI_mul, mjIn_nI, nI_clamp, neg1_lt0, if_pos, if_neg, if_true, if_false, Bool.false_eq_true, and_true, true_and, and_false, false_and, mI_pL, mK_pL, mN_pL, mR_pL, mL_pL, mL_pI, mI_pR, mL_pR, mK_pR, mN_pR, mR_pR, mI_pC, mL_pC, mK_pC, mN_pC, mR_pC]
/-- a token that stands there is taken; another one is not -/
theorem tq_take (E : mjFix ev) (q : Tq h tb tl i ts 0) {k : Nat} (hk : k < 200) (he : kd ts = k) : ∃ h' i', mjCall ev 85 lv [.ref 5, .int (nI k)] h = some (.int (nI 1), h') ∧ Fr FTp h h' ∧ Tq h' tb tl i' ts.tail 0 := by
  have q0 := q
  obtain ⟨⟨t, c, l4, a6, ln, tr, a7⟩, o, fl⟩ := q
  have hd := tr.head.1
  rw [he] at hd
  have cn := tr.cnt
  have sb : nI (i + ts.length + 1) - nI 1 = nI (i + ts.length) := by rw [nI_sub (by omega)]; congr 1
  cases ts with
  | nil =>
    refine ⟨h, i, ?_, Fr.rf, q0⟩
    have cn' : mI h 5 5 = nI (i + 1) := cn
    have sb' : nI (i + 1) - nI 1 = nI i := sb
    show ev 85 lv 0 [.ref 5, .int (nI k)] [] h = _
    rw [e_85_0 E]
    repeat (first | (apply ifT; focus ((try simp (disch := omega) only [t.k5, a7, t.r5_2, t.k7, t.n7, a6, hd, cn', sb', ofNat_nI, i_lit, mI_pI, mK_pI, mN_pI, mR_pI, nI_ltI, nI_eq, nI_add, nI_mul, mjIn_nI, nI_clamp, neg1_lt0, if_pos, if_neg, if_true, if_false, Bool.false_eq_true, and_true, true_and, and_false, false_and, mI_pL, mK_pL, mN_pL, mR_pL, mL_pL, mL_pI, mI_pR, mL_pR, mK_pR, mN_pR, mR_pR, mI_pC, mL_pC, mK_pC, mN_pC, mR_pC]) <;> first | omega | decide)) | (apply ifF; focus ((try simp (disch := omega) only [t.k5, a7, t.r5_2, t.k7, t.n7, a6, hd, cn', sb', ofNat_nI, i_lit, mI_pI, mK_pI, mN_pI, mR_pI, nI_ltI, nI_eq, nI_add, nI_mul, mjIn_nI, nI_clamp, neg1_lt0, if_pos, if_neg, if_true, if_false, Bool.false_eq_true, and_true, true_and, and_false, false_and, mI_pL, mK_pL, mN_pL, mR_pL, mL_pL, mL_pI, mI_pR, mL_pR, mK_pR, mN_pR, mR_pR, mI_pC, mL_pC, mK_pC, mN_pC, mR_pC]) <;> first | omega | decide)) | (apply stI; focus ((try simp (disch := omega) only [t.k5, a7, t.r5_2, t.k7, t.n7, a6, hd, cn', sb', ofNat_nI, i_lit, mI_pI, mK_pI, mN_pI, mR_pI, nI_ltI, nI_eq, nI_add, nI_mul, mjIn_nI, nI_clamp, neg1_lt0, if_pos, if_neg, if_true, if_false, Bool.false_eq_true, and_true, true_and, and_false, false_and, mI_pL, mK_pL, mN_pL, mR_pL, mL_pL, mL_pI, mI_pR, mL_pR, mK_pR, mN_pR, mR_pR, mI_pC, mL_pC, mK_pC, mN_pC, mR_pC]) <;> rfl)) | (apply stV; focus ((try simp (disch := omega) only [t.k5, a7, t.r5_2, t.k7, t.n7, a6, hd, cn', sb', ofNat_nI, i_lit, mI_pI, mK_pI, mN_pI, mR_pI, nI_ltI, nI_eq, nI_add, nI_mul, mjIn_nI, nI_clamp, neg1_lt0, if_pos, if_neg, if_true, if_false, Bool.false_eq_true, and_true, true_and, and_false, false_and, mI_pL, mK_pL, mN_pL, mR_pL, mL_pL, mL_pI, mI_pR, mL_pR, mK_pR, mN_pR, mR_pR, mI_pC, mL_pC, mK_pC, mN_pC, mR_pC]) <;> rfl)) | (apply stL; focus ((try simp (disch := omega) only [t.k5, a7, t.r5_2, t.k7, t.n7, a6, hd, cn', sb', ofNat_nI, i_lit, mI_pI, mK_pI, mN_pI, mR_pI, nI_ltI, nI_eq, nI_add, nI_mul, mjIn_nI, nI_clamp, neg1_lt0, if_pos, if_neg, if_true, if_false, Bool.false_eq_true, and_true, true_and, and_false, false_and, mI_pL, mK_pL, mN_pL, mR_pL, mL_pL, mL_pI, mI_pR, mL_pR, mK_pR, mN_pR, mR_pR, mI_pC, mL_pC, mK_pC, mN_pC, mR_pC]) <;> rfl)) | (apply stA; focus ((try simp (disch := omega) only [t.k5, a7, t.r5_2, t.k7, t.n7, a6, hd, cn', sb', ofNat_nI, i_lit, mI_pI, mK_pI, mN_pI, mR_pI, nI_ltI, nI_eq, nI_add, nI_mul, mjIn_nI, nI_clamp, neg1_lt0, if_pos, if_neg, if_true, if_false, Bool.false_eq_true, and_true, true_and, and_false, false_and, mI_pL, mK_pL, mN_pL, mR_pL, mL_pL, mL_pI, mI_pR, mL_pR, mK_pR, mN_pR, mR_pR, mI_pC, mL_pC, mK_pC, mN_pC, mR_pC]) <;> rfl)))
    try simp (disch := omega) only [t.k5, a7, t.r5_2, t.k7, t.n7, a6, hd, cn', sb', ofNat_nI, i_lit, mI_pI, mK_pI, mN_pI, mR_pI, nI_ltI, nI_eq, nI_add, nI_mul, mjIn_nI, nI_clamp, neg1_lt0, if_pos, if_neg, if_true, if_false, Bool.false_eq_true, and_true, true_and, and_false, false_and, mI_pL, mK_pL, mN_pL, mR_pL, mL_pL, mL_pI, mI_pR, mL_pR, mK_pR, mN_pR, mR_pR, mI_pC, mL_pC, mK_pC, mN_pC, mR_pC]
  | cons x r =>
    obtain ⟨k', p', v'⟩ := x
    rw [List.length_cons] at cn sb ln
    have f : Fr FTp h (pI h 5 6 (nI (i + 1))) := Fr.pI (by unfold FTp; omega)
    refine ⟨_, i + 1, ?_, f, ⟨t.ft2 f.t (fun x hx => by unfold FTp; omega), c.ft f.t ⟨by unfold FTp; omega, fun k => by unfold FTp; omega⟩, l4, pI_at, by show i + 1 + r.length ≤ 400; omega, Tr.keep (fun k => ⟨f.I (by unfold FTp; omega), f.I (by unfold FTp; omega), f.I (by unfold FTp; omega)⟩) (by rw [pI_nk (by omega)]) tr.2.2.2, by rw [pI_nk (by omega)]; exact a7⟩, o.tail, fl⟩
    show ev 85 lv 0 [.ref 5, .int (nI k)] [] h = _
    rw [e_85_0 E]
    repeat (first | (apply ifT; focus ((try simp (disch := omega) only [t.k5, a7, t.r5_2, t.k7, t.n7, a6, hd, cn, sb, ofNat_nI, i_lit, mI_pI, mK_pI, mN_pI, mR_pI, nI_ltI, nI_eq, nI_add, nI_mul, mjIn_nI, nI_clamp, neg1_lt0, if_pos, if_neg, if_true, if_false, Bool.false_eq_true, and_true, true_and, and_false, false_and, mI_pL, mK_pL, mN_pL, mR_pL, mL_pL, mL_pI, mI_pR, mL_pR, mK_pR, mN_pR, mR_pR, mI_pC, mL_pC, mK_pC, mN_pC, mR_pC]) <;> first | omega | decide)) | (apply ifF; focus ((try simp (disch := omega) only [t.k5, a7, t.r5_2, t.k7, t.n7, a6, hd, cn, sb, ofNat_nI, i_lit, mI_pI, mK_pI, mN_pI, mR_pI, nI_ltI, nI_eq, nI_add, nI_mul, mjIn_nI, nI_clamp, neg1_lt0, if_pos, if_neg, if_true, if_false, Bool.false_eq_true, and_true, true_and, and_false, false_and, mI_pL, mK_pL, mN_pL, mR_pL, mL_pL, mL_pI, mI_pR, mL_pR, mK_pR, mN_pR, mR_pR, mI_pC, mL_pC, mK_pC, mN_pC, mR_pC]) <;> first | omega | decide)) | (apply stI; focus ((try simp (disch := omega) only [t.k5, a7, t.r5_2, t.k7, t.n7, a6, hd, cn, sb, ofNat_nI, i_lit, mI_pI, mK_pI, mN_pI, mR_pI, nI_ltI, nI_eq, nI_add, nI_mul, mjIn_nI, nI_clamp, neg1_lt0, if_pos, if_neg, if_true, if_false, Bool.false_eq_true, and_true, true_and, and_false, false_and, mI_pL, mK_pL, mN_pL, mR_pL, mL_pL, mL_pI, mI_pR, mL_pR, mK_pR, mN_pR, mR_pR, mI_pC, mL_pC, mK_pC, mN_pC, mR_pC]) <;> rfl)) | (apply stV; focus ((try simp (disch := omega) only [t.k5, a7, t.r5_2, t.k7, t.n7, a6, hd, cn, sb, ofNat_nI, i_lit, mI_pI, mK_pI, mN_pI, mR_pI, nI_ltI, nI_eq, nI_add, nI_mul, mjIn_nI, nI_clamp, neg1_lt0, if_pos, if_neg, if_true, if_false, Bool.false_eq_true, and_true, true_and, and_false, false_and, mI_pL, mK_pL, mN_pL, mR_pL, mL_pL, mL_pI, mI_pR, mL_pR, mK_pR, mN_pR, mR_pR, mI_pC, mL_pC, mK_pC, mN_pC, mR_pC]) <;> rfl)) | (apply stL; focus ((try simp (disch := omega) only [t.k5, a7, t.r5_2, t.k7, t.n7, a6, hd, cn, sb, ofNat_nI, i_lit, mI_pI, mK_pI, mN_pI, mR_pI, nI_ltI, nI_eq, nI_add, nI_mul, mjIn_nI, nI_clamp, neg1_lt0, if_pos, if_neg, if_true, if_false, Bool.false_eq_true, and_true, true_and, and_false, false_and, mI_pL, mK_pL, mN_pL, mR_pL, mL_pL, mL_pI, mI_pR, mL_pR, mK_pR, mN_pR, mR_pR, mI_pC, mL_pC, mK_pC, mN_pC, mR_pC]) <;> rfl)) | (apply stA; focus ((try simp (disch := omega) only [t.k5, a7, t.r5_2, t.k7, t.n7, a6, hd, cn, sb, ofNat_nI, i_lit, mI_pI, mK_pI, mN_pI, mR_pI, nI_ltI, nI_eq, nI_add, nI_mul, mjIn_nI, nI_clamp, neg1_lt0, if_pos, if_neg, if_true, if_false, Bool.false_eq_true, and_true, true_and, and_false, false_and, mI_pL, mK_pL, mN_pL, mR_pL, mL_pL, mL_pI, mI_pR, mL_pR, mK_pR, mN_pR, mR_pR, mI_pC, mL_pC, mK_pC, mN_pC, mR_pC]) <;> rfl)))
    try simp (disch := omega) only [t.k5, a7, t.r5_2, t.k7, t.n7, a6, hd, cn, sb, ofNat_nI, i_lit, mI_pI, mK_pI, mN_pI, mR_pI, nI_ltI, nI_eq, nI_add, nI_mul, mjIn_nI, nI_clamp, neg1_lt0, if_pos, if_neg, if_true, if_false, Bool.false_eq_true, and_true, true_and, and_false, false_and, mI_pL, mK_pL, mN_pL, mR_pL, mL_pL, mL_pI, mI_pR, mL_pR, mK_pR, mN_pR, mR_pR, mI_pC, mL_pC, mK_pC, mN_pC, mR_pC]
theorem tq_not (E : mjFix ev) (q : Tq h tb tl i ts 0) {k : Nat} (hk : k < 200) (he : kd ts ≠ k) : mjCall ev 85 lv [.ref 5, .int (nI k)] h = some (.int (nI 0), h) := by
  obtain ⟨⟨t, c, l4, a6, ln, tr, a7⟩, o, fl⟩ := q
  have hd := tr.head.1
  have kl := kd_lt o
  show ev 85 lv 0 [.ref 5, .int (nI k)] [] h = _
  rw [e_85_0 E]
  repeat (first | (apply ifT; focus ((try simp (disch := omega) only [t.k5, a7, t.r5_2, t.k7, t.n7, a6, hd, ofNat_nI, i_lit, mI_pI, mK_pI, mN_pI, mR_pI, nI_ltI, nI_eq, nI_add, nI_mul, mjIn_nI, nI_clamp, neg1_lt0, if_pos, if_neg, if_true, if_false, Bool.false_eq_true, and_true, true_and, and_false, false_and, mI_pL, mK_pL, mN_pL, mR_pL, mL_pL, mL_pI, mI_pR, mL_pR, mK_pR, mN_pR, mR_pR, mI_pC, mL_pC, mK_pC, mN_pC, mR_pC]) <;> first | omega | decide)) | (apply ifF; focus ((try simp (disch := omega) only [t.k5, a7, t.r5_2, t.k7, t.n7, a6, hd, ofNat_nI, i_lit, mI_pI, mK_pI, mN_pI, mR_pI, nI_ltI, nI_eq, nI_add, nI_mul, mjIn_nI, nI_clamp, neg1_lt0, if_pos, if_neg, if_true, if_false, Bool.false_eq_true, and_true, true_and, and_false, false_and, mI_pL, mK_pL, mN_pL, mR_pL, mL_pL, mL_pI, mI_pR, mL_pR, mK_pR, mN_pR, mR_pR, mI_pC, mL_pC, mK_pC, mN_pC, mR_pC]) <;> first | omega | decide)) | (apply stI; focus ((try simp (disch := omega) only [t.k5, a7, t.r5_2, t.k7, t.n7, a6, hd, ofNat_nI, i_lit, mI_pI, mK_pI, mN_pI, mR_pI, nI_ltI, nI_eq, nI_add, nI_mul, mjIn_nI, nI_clamp, neg1_lt0, if_pos, if_neg, if_true, if_false, Bool.false_eq_true, and_true, true_and, and_false, false_and, mI_pL, mK_pL, mN_pL, mR_pL, mL_pL, mL_pI, mI_pR, mL_pR, mK_pR, mN_pR, mR_pR, mI_pC, mL_pC, mK_pC, mN_pC, mR_pC]) <;> rfl)) | (apply stV; focus ((try simp (disch := omega) only [t.k5, a7, t.r5_2, t.k7, t.n7, a6, hd, ofNat_nI, i_lit, mI_pI, mK_pI, mN_pI, mR_pI, nI_ltI, nI_eq, nI_add, nI_mul, mjIn_nI, nI_clamp, neg1_lt0, if_pos, if_neg, if_true, if_false, Bool.false_eq_true, and_true, true_and, and_false, false_and, mI_pL, mK_pL, mN_pL, mR_pL, mL_pL, mL_pI, mI_pR, mL_pR, mK_pR, mN_pR, mR_pR, mI_pC, mL_pC, mK_pC, mN_pC, mR_pC]) <;> rfl)) | (apply stL; focus ((try simp (disch := omega) only [t.k5, a7, t.r5_2, t.k7, t.n7, a6, hd, ofNat_nI, i_lit, mI_pI, mK_pI, mN_pI, mR_pI, nI_ltI, nI_eq, nI_add, nI_mul, mjIn_nI, nI_clamp, neg1_lt0, if_pos, if_neg, if_true, if_false, Bool.false_eq_true, and_true, true_and, and_false, false_and, mI_pL, mK_pL, mN_pL, mR_pL, mL_pL, mL_pI, mI_pR, mL_pR, mK_pR, mN_pR, mR_pR, mI_pC, mL_pC, mK_pC, mN_pC, mR_pC]) <;> rfl)) | (apply stA; focus ((try simp (disch := omega) only [t.k5, a7, t.r5_2, t.k7, t.n7, a6, hd, ofNat_nI, i_lit, mI_pI, mK_pI, mN_pI, mR_pI, nI_ltI, nI_eq, nI_add, nI_mul, mjIn_nI, nI_clamp, neg1_lt0, if_pos, if_neg, if_true, if_false, Bool.false_eq_true, and_true, true_and, and_false, false_and, mI_pL, mK_pL, mN_pL, mR_pL, mL_pL, mL_pI, mI_pR, mL_pR, mK_pR, mN_pR, mR_pR, mI_pC, mL_pC, mK_pC, mN_pC, mR_pC]) <;> rfl)))
  try simp (disch := omega) only [t.k5, a7, t.r5_2, t.k7, t.n7, a6, hd, ofNat_nI, i_lit, mI_pI, mK_pI, mN_pI, mR_pI, nI_ltI, nI_eq, nI_add, nI_mul, mjIn_nI, nI_clamp, neg1_lt0, if_pos, if_neg, if_true, if_false, Bool.false_eq_true, and_true, true_and, and_false, false_and, mI_pL, mK_pL, mN_pL, mR_pL, mL_pL, mL_pI, mI_pR, mL_pR, mK_pR, mN_pR, mR_pR, mI_pC, mL_pC, mK_pC, mN_pC, mR_pC]
end TQ
