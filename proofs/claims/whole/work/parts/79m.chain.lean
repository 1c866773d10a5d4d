/-! products and sums: a chain of things with signs between them -/
def chF (F : rst → rrs) (op : Nat → Option Nat) : Nat → Option Nat → rst → rrs
  | 0, _, s => .inr s
  | n + 1, o, s => match F s with
    | .inl f => .inl f
    | .inr s1 => match op (kd s1.1) with
      | some o' => chF F op n (some o') (s1.1.tail, s1.2.1 ++ o.toList, s1.2.2)
      | none => .inr (s1.1, s1.2.1 ++ o.toList, s1.2.2)
theorem chF_inl {F : rst → rrs} {op : Nat → Option Nat} {n : Nat} {o : Option Nat} {s : rst} {f : Nat} (e : F s = .inl f) : chF F op (n + 1) o s = .inl f := by
  show (match F s with
    | .inl f => (.inl f : rrs)
    | .inr s1 => match op (kd s1.1) with
      | some o' => chF F op n (some o') (s1.1.tail, s1.2.1 ++ o.toList, s1.2.2)
      | none => .inr (s1.1, s1.2.1 ++ o.toList, s1.2.2)) = _
  rw [e]
theorem chF_some {F : rst → rrs} {op : Nat → Option Nat} {n : Nat} {o : Option Nat} {s s1 : rst} {o' : Nat} (e : F s = .inr s1) (e2 : op (kd s1.1) = some o') : chF F op (n + 1) o s = chF F op n (some o') (s1.1.tail, s1.2.1 ++ o.toList, s1.2.2) := by
  show (match F s with
    | .inl f => (.inl f : rrs)
    | .inr s1 => match op (kd s1.1) with
      | some o' => chF F op n (some o') (s1.1.tail, s1.2.1 ++ o.toList, s1.2.2)
      | none => .inr (s1.1, s1.2.1 ++ o.toList, s1.2.2)) = _
  rw [e]
  show (match op (kd s1.1) with
      | some o' => chF F op n (some o') (s1.1.tail, s1.2.1 ++ o.toList, s1.2.2)
      | none => .inr (s1.1, s1.2.1 ++ o.toList, s1.2.2)) = _
  rw [e2]
theorem chF_none {F : rst → rrs} {op : Nat → Option Nat} {n : Nat} {o : Option Nat} {s s1 : rst} (e : F s = .inr s1) (e2 : op (kd s1.1) = none) : chF F op (n + 1) o s = .inr (s1.1, s1.2.1 ++ o.toList, s1.2.2) := by
  show (match F s with
    | .inl f => (.inl f : rrs)
    | .inr s1 => match op (kd s1.1) with
      | some o' => chF F op n (some o') (s1.1.tail, s1.2.1 ++ o.toList, s1.2.2)
      | none => .inr (s1.1, s1.2.1 ++ o.toList, s1.2.2)) = _
  rw [e]
  show (match op (kd s1.1) with
      | some o' => chF F op n (some o') (s1.1.tail, s1.2.1 ++ o.toList, s1.2.2)
      | none => .inr (s1.1, s1.2.1 ++ o.toList, s1.2.2)) = _
  rw [e2]
/-- what is read gets shorter, what is laid down fits -/
def Shr (F : rst → rrs) : Prop := ∀ s s', F s = .inr s' → s'.2.1.length + s'.1.length ≤ s.2.1.length + s.1.length ∧ s'.1.length < s.1.length
theorem tail_len {ts : List tok} (h : kd ts ≠ 1) : ts.tail.length + 1 = ts.length := by
  cases ts with
  | nil => exact absurd rfl h
  | cons x r => rfl
theorem piece_shr (tl : Nat) : Shr (pieceF tl) := by
  have push : ∀ (s s' : rst) (o : Nat), kd s.1 ≠ 1 → pushF tl s o = .inr s' → s'.2.1.length + s'.1.length ≤ s.2.1.length + s.1.length ∧ s'.1.length < s.1.length := by
    intro s s' o hk e
    unfold pushF at e
    by_cases y : 60 ≤ s.2.2
    · rw [if_pos y] at e; cases e
    · rw [if_neg y] at e
      cases e
      have := tail_len hk
      show (s.2.1 ++ [o]).length + s.1.tail.length ≤ _ ∧ s.1.tail.length < _
      rw [List.length_append, List.length_singleton]
      omega
  intro s s' e
  unfold pieceF at e
  by_cases y : kd s.1 = 3
  · rw [if_pos y] at e
    cases hv : va s.1 with
    | none => rw [hv] at e; cases e
    | some v => rw [hv] at e; exact push s s' _ (by omega) e
  · rw [if_neg y] at e
    by_cases y2 : 135 ≤ kd s.1 ∧ kd s.1 ≤ 145
    · rw [if_pos y2] at e; exact push s s' _ (by omega) e
    · rw [if_neg y2] at e; cases e
theorem chF_shr {F : rst → rrs} {op : Nat → Option Nat} (hF : Shr F) (h1 : op 1 = none) : ∀ n o s s', chF F op n o s = .inr s' → s'.2.1.length + s'.1.length ≤ s.2.1.length + s.1.length + o.toList.length ∧ (0 < n → s'.1.length < s.1.length) ∧ s'.1.length ≤ s.1.length := by
  intro n
  induction n with
  | zero => intro o s s' e; cases e; exact ⟨by omega, fun z => absurd z (Nat.lt_irrefl _), Nat.le_refl _⟩
  | succ n ih =>
    intro o s s' e
    cases e1 : F s with
    | inl f => rw [chF_inl e1] at e; cases e
    | inr s1 =>
      have a := hF s s1 e1
      cases e2 : op (kd s1.1) with
      | none =>
        rw [chF_none e1 e2] at e
        cases e
        show (s1.2.1 ++ o.toList).length + s1.1.length ≤ _ ∧ (_ → s1.1.length < _) ∧ s1.1.length ≤ _
        rw [List.length_append]
        exact ⟨by omega, fun _ => by omega, by omega⟩
      | some o' =>
        rw [chF_some e1 e2] at e
        have tl' := tail_len (ts := s1.1) (fun z => by rw [z, h1] at e2; cases e2)
        have b := ih _ _ _ e
        have b1 : s'.2.1.length + s'.1.length ≤ (s1.2.1 ++ o.toList).length + s1.1.tail.length + 1 := b.1
        have b2 : s'.1.length ≤ s1.1.tail.length := b.2.2
        rw [List.length_append] at b1
        exact ⟨by omega, fun _ => by omega, by omega⟩
def opM (k : Nat) : Option Nat := if k = 42 then some 4 else if k = 47 then some 5 else if k = 37 then some 14 else none
def opA (k : Nat) : Option Nat := if k = 43 then some 2 else if k = 45 then some 3 else none
def prodF (tl : Nat) : rst → rrs := chF (pieceF tl) opM 400 none
def sumF (tl : Nat) : rst → rrs := chF (prodF tl) opA 400 none
theorem prod_shr (tl : Nat) : Shr (prodF tl) := fun s s' e => by
  have a := chF_shr (piece_shr tl) (by decide) 400 none s s' e
  exact ⟨a.1, a.2.1 (by omega)⟩
theorem sum_shr (tl : Nat) : Shr (sumF tl) := fun s s' e => by
  have a := chF_shr (prod_shr tl) (by decide) 400 none s s' e
  exact ⟨a.1, a.2.1 (by omega)⟩
theorem opM_step {k o : Nat} (h : opM k = some o) : -nI k = stepO o := by
  unfold opM at h
  split at h
  · rename_i e; cases h; rw [e]; rfl
  · split at h
    · rename_i e; cases h; rw [e]; rfl
    · split at h
      · rename_i e; cases h; rw [e]; rfl
      · cases h
theorem opA_step {k o : Nat} (h : opA k = some o) : -nI k = stepO o := by
  unfold opA at h
  split at h
  · rename_i e; cases h; rw [e]; rfl
  · split at h
    · rename_i e; cases h; rw [e]; rfl
    · cases h
/-- a sign waits: its kind; none at first -/
def Wt2 (op : Nat → Option Nat) (j : Nat) (o : Option Nat) (k : Nat) : Prop := (o = none ∧ j = 0 ∧ k = 0) ∨ (∃ o', o = some o' ∧ op k = some o' ∧ 0 < j)
section CH
variable {ev : mjT} {lv : Nat} {tb : Nat → Int32} {tl : Nat} {pre : List Int32}
theorem co_ch39 (E : mjFix ev) : ∀ (n j k : Nat) (o : Option Nat) (s : rst) (h : mjS), CRo h tb tl pre s → j + n = 400 → Wt2 opM j o k → pre.length + s.2.1.length + s.1.length + o.toList.length ≤ 400 → ∃ h', ev 39 lv 4 [.ref 11, .int (nI k), .int (nI j)] [] h = some (.ref 0, h') ∧ Fr FRd h h' ∧ CRr h' tb tl pre (chF (pieceF tl) opM n o s) := by
  intro n
  induction n with
  | zero =>
    intro j k o s h c hj hw hr
    refine ⟨h, ?_, Fr.rf, c⟩
    rw [e_39_4 E]
    repeat (first | (apply ifT; focus ((try simp (disch := omega) only [ofNat_nI, i_lit, mI_pI, mK_pI, mN_pI, mR_pI, nI_ltI, nI_eq, nI_add, nI_mul, mjIn_nI, nI_clamp, neg1_lt0, if_pos, if_neg, if_true, if_false, Bool.false_eq_true, and_true, true_and, and_false, false_and, mI_pL, mK_pL, mN_pL, mR_pL, mL_pL, mL_pI, mI_pR, mL_pR, mK_pR, mN_pR, mR_pR, mI_pC, mL_pC, mK_pC, mN_pC, mR_pC]) <;> first | omega | decide)) | (apply ifF; focus ((try simp (disch := omega) only [ofNat_nI, i_lit, mI_pI, mK_pI, mN_pI, mR_pI, nI_ltI, nI_eq, nI_add, nI_mul, mjIn_nI, nI_clamp, neg1_lt0, if_pos, if_neg, if_true, if_false, Bool.false_eq_true, and_true, true_and, and_false, false_and, mI_pL, mK_pL, mN_pL, mR_pL, mL_pL, mL_pI, mI_pR, mL_pR, mK_pR, mN_pR, mR_pR, mI_pC, mL_pC, mK_pC, mN_pC, mR_pC]) <;> first | omega | decide)) | (apply stI; focus ((try simp (disch := omega) only [ofNat_nI, i_lit, mI_pI, mK_pI, mN_pI, mR_pI, nI_ltI, nI_eq, nI_add, nI_mul, mjIn_nI, nI_clamp, neg1_lt0, if_pos, if_neg, if_true, if_false, Bool.false_eq_true, and_true, true_and, and_false, false_and, mI_pL, mK_pL, mN_pL, mR_pL, mL_pL, mL_pI, mI_pR, mL_pR, mK_pR, mN_pR, mR_pR, mI_pC, mL_pC, mK_pC, mN_pC, mR_pC]) <;> rfl)) | (apply stV; focus ((try simp (disch := omega) only [ofNat_nI, i_lit, mI_pI, mK_pI, mN_pI, mR_pI, nI_ltI, nI_eq, nI_add, nI_mul, mjIn_nI, nI_clamp, neg1_lt0, if_pos, if_neg, if_true, if_false, Bool.false_eq_true, and_true, true_and, and_false, false_and, mI_pL, mK_pL, mN_pL, mR_pL, mL_pL, mL_pI, mI_pR, mL_pR, mK_pR, mN_pR, mR_pR, mI_pC, mL_pC, mK_pC, mN_pC, mR_pC]) <;> rfl)) | (apply stL; focus ((try simp (disch := omega) only [ofNat_nI, i_lit, mI_pI, mK_pI, mN_pI, mR_pI, nI_ltI, nI_eq, nI_add, nI_mul, mjIn_nI, nI_clamp, neg1_lt0, if_pos, if_neg, if_true, if_false, Bool.false_eq_true, and_true, true_and, and_false, false_and, mI_pL, mK_pL, mN_pL, mR_pL, mL_pL, mL_pI, mI_pR, mL_pR, mK_pR, mN_pR, mR_pR, mI_pC, mL_pC, mK_pC, mN_pC, mR_pC]) <;> rfl)) | (apply stA; focus ((try simp (disch := omega) only [ofNat_nI, i_lit, mI_pI, mK_pI, mN_pI, mR_pI, nI_ltI, nI_eq, nI_add, nI_mul, mjIn_nI, nI_clamp, neg1_lt0, if_pos, if_neg, if_true, if_false, Bool.false_eq_true, and_true, true_and, and_false, false_and, mI_pL, mK_pL, mN_pL, mR_pL, mL_pL, mL_pI, mI_pR, mL_pR, mK_pR, mN_pR, mR_pR, mI_pC, mL_pC, mK_pC, mN_pC, mR_pC]) <;> rfl)))
    try simp (disch := omega) only [ofNat_nI, i_lit, mI_pI, mK_pI, mN_pI, mR_pI, nI_ltI, nI_eq, nI_add, nI_mul, mjIn_nI, nI_clamp, neg1_lt0, if_pos, if_neg, if_true, if_false, Bool.false_eq_true, and_true, true_and, and_false, false_and, mI_pL, mK_pL, mN_pL, mR_pL, mL_pL, mL_pI, mI_pR, mL_pR, mK_pR, mN_pR, mR_pR, mI_pC, mL_pC, mK_pC, mN_pC, mR_pC]
  | succ n ih =>
    intro j k o s h c hj hw hr
    have t := c.t
    obtain ⟨h1, e1, f1, r1⟩ := co_piece (lv := lv) E c (by omega)
    have t0 := t
    cases hF : pieceF tl s with
    | inl f =>
      rw [hF] at r1
      have z1 : CRf h1 tb tl f := r1
      have t1 := z1.t
      rw [chF_inl hF]
      rcases hw with ⟨rfl, rfl, rfl⟩ | ⟨o', rfl, ho, j0⟩
      · have e2 := zf_39b (lv := lv) E z1 (nI 0) (nI 0)
        refine ⟨h1, ?_, f1, z1⟩
        rw [e_39_4 E]
        repeat (first | (apply ifT; focus ((try simp (disch := omega) only [t.k11, e1, t1.k11, e2, ofNat_nI, i_lit, mI_pI, mK_pI, mN_pI, mR_pI, nI_ltI, nI_eq, nI_add, nI_mul, mjIn_nI, nI_clamp, neg1_lt0, if_pos, if_neg, if_true, if_false, Bool.false_eq_true, and_true, true_and, and_false, false_and, mI_pL, mK_pL, mN_pL, mR_pL, mL_pL, mL_pI, mI_pR, mL_pR, mK_pR, mN_pR, mR_pR, mI_pC, mL_pC, mK_pC, mN_pC, mR_pC]) <;> first | omega | decide)) | (apply ifF; focus ((try simp (disch := omega) only [t.k11, e1, t1.k11, e2, ofNat_nI, i_lit, mI_pI, mK_pI, mN_pI, mR_pI, nI_ltI, nI_eq, nI_add, nI_mul, mjIn_nI, nI_clamp, neg1_lt0, if_pos, if_neg, if_true, if_false, Bool.false_eq_true, and_true, true_and, and_false, false_and, mI_pL, mK_pL, mN_pL, mR_pL, mL_pL, mL_pI, mI_pR, mL_pR, mK_pR, mN_pR, mR_pR, mI_pC, mL_pC, mK_pC, mN_pC, mR_pC]) <;> first | omega | decide)) | (apply stI; focus ((try simp (disch := omega) only [t.k11, e1, t1.k11, e2, ofNat_nI, i_lit, mI_pI, mK_pI, mN_pI, mR_pI, nI_ltI, nI_eq, nI_add, nI_mul, mjIn_nI, nI_clamp, neg1_lt0, if_pos, if_neg, if_true, if_false, Bool.false_eq_true, and_true, true_and, and_false, false_and, mI_pL, mK_pL, mN_pL, mR_pL, mL_pL, mL_pI, mI_pR, mL_pR, mK_pR, mN_pR, mR_pR, mI_pC, mL_pC, mK_pC, mN_pC, mR_pC]) <;> rfl)) | (apply stV; focus ((try simp (disch := omega) only [t.k11, e1, t1.k11, e2, ofNat_nI, i_lit, mI_pI, mK_pI, mN_pI, mR_pI, nI_ltI, nI_eq, nI_add, nI_mul, mjIn_nI, nI_clamp, neg1_lt0, if_pos, if_neg, if_true, if_false, Bool.false_eq_true, and_true, true_and, and_false, false_and, mI_pL, mK_pL, mN_pL, mR_pL, mL_pL, mL_pI, mI_pR, mL_pR, mK_pR, mN_pR, mR_pR, mI_pC, mL_pC, mK_pC, mN_pC, mR_pC]) <;> rfl)) | (apply stL; focus ((try simp (disch := omega) only [t.k11, e1, t1.k11, e2, ofNat_nI, i_lit, mI_pI, mK_pI, mN_pI, mR_pI, nI_ltI, nI_eq, nI_add, nI_mul, mjIn_nI, nI_clamp, neg1_lt0, if_pos, if_neg, if_true, if_false, Bool.false_eq_true, and_true, true_and, and_false, false_and, mI_pL, mK_pL, mN_pL, mR_pL, mL_pL, mL_pI, mI_pR, mL_pR, mK_pR, mN_pR, mR_pR, mI_pC, mL_pC, mK_pC, mN_pC, mR_pC]) <;> rfl)) | (apply stA; focus ((try simp (disch := omega) only [t.k11, e1, t1.k11, e2, ofNat_nI, i_lit, mI_pI, mK_pI, mN_pI, mR_pI, nI_ltI, nI_eq, nI_add, nI_mul, mjIn_nI, nI_clamp, neg1_lt0, if_pos, if_neg, if_true, if_false, Bool.false_eq_true, and_true, true_and, and_false, false_and, mI_pL, mK_pL, mN_pL, mR_pL, mL_pL, mL_pI, mI_pR, mL_pR, mK_pR, mN_pR, mR_pR, mI_pC, mL_pC, mK_pC, mN_pC, mR_pC]) <;> rfl)))
        try simp (disch := omega) only [t.k11, e1, t1.k11, e2, ofNat_nI, i_lit, mI_pI, mK_pI, mN_pI, mR_pI, nI_ltI, nI_eq, nI_add, nI_mul, mjIn_nI, nI_clamp, neg1_lt0, if_pos, if_neg, if_true, if_false, Bool.false_eq_true, and_true, true_and, and_false, false_and, mI_pL, mK_pL, mN_pL, mR_pL, mL_pL, mL_pI, mI_pR, mL_pR, mK_pR, mN_pR, mR_pR, mI_pC, mL_pC, mK_pC, mN_pC, mR_pC]
      · obtain ⟨h2, e2, f2, z2⟩ := zf_step (lv := lv) E z1 (-nI k)
        have e3 := zf_39b (lv := lv) E z2 (nI k) (nI j)
        refine ⟨h2, ?_, f1.tr f2, z2⟩
        rw [e_39_4 E]
        repeat (first | (apply ifT; focus ((try simp (disch := omega) only [t.k11, e1, t1.k11, e2, e3, ofNat_nI, i_lit, mI_pI, mK_pI, mN_pI, mR_pI, nI_ltI, nI_eq, nI_add, nI_mul, mjIn_nI, nI_clamp, neg1_lt0, if_pos, if_neg, if_true, if_false, Bool.false_eq_true, and_true, true_and, and_false, false_and, mI_pL, mK_pL, mN_pL, mR_pL, mL_pL, mL_pI, mI_pR, mL_pR, mK_pR, mN_pR, mR_pR, mI_pC, mL_pC, mK_pC, mN_pC, mR_pC]) <;> first | omega | decide)) | (apply ifF; focus ((try simp (disch := omega) only [t.k11, e1, t1.k11, e2, e3, ofNat_nI, i_lit, mI_pI, mK_pI, mN_pI, mR_pI, nI_ltI, nI_eq, nI_add, nI_mul, mjIn_nI, nI_clamp, neg1_lt0, if_pos, if_neg, if_true, if_false, Bool.false_eq_true, and_true, true_and, and_false, false_and, mI_pL, mK_pL, mN_pL, mR_pL, mL_pL, mL_pI, mI_pR, mL_pR, mK_pR, mN_pR, mR_pR, mI_pC, mL_pC, mK_pC, mN_pC, mR_pC]) <;> first | omega | decide)) | (apply stI; focus ((try simp (disch := omega) only [t.k11, e1, t1.k11, e2, e3, ofNat_nI, i_lit, mI_pI, mK_pI, mN_pI, mR_pI, nI_ltI, nI_eq, nI_add, nI_mul, mjIn_nI, nI_clamp, neg1_lt0, if_pos, if_neg, if_true, if_false, Bool.false_eq_true, and_true, true_and, and_false, false_and, mI_pL, mK_pL, mN_pL, mR_pL, mL_pL, mL_pI, mI_pR, mL_pR, mK_pR, mN_pR, mR_pR, mI_pC, mL_pC, mK_pC, mN_pC, mR_pC]) <;> rfl)) | (apply stV; focus ((try simp (disch := omega) only [t.k11, e1, t1.k11, e2, e3, ofNat_nI, i_lit, mI_pI, mK_pI, mN_pI, mR_pI, nI_ltI, nI_eq, nI_add, nI_mul, mjIn_nI, nI_clamp, neg1_lt0, if_pos, if_neg, if_true, if_false, Bool.false_eq_true, and_true, true_and, and_false, false_and, mI_pL, mK_pL, mN_pL, mR_pL, mL_pL, mL_pI, mI_pR, mL_pR, mK_pR, mN_pR, mR_pR, mI_pC, mL_pC, mK_pC, mN_pC, mR_pC]) <;> rfl)) | (apply stL; focus ((try simp (disch := omega) only [t.k11, e1, t1.k11, e2, e3, ofNat_nI, i_lit, mI_pI, mK_pI, mN_pI, mR_pI, nI_ltI, nI_eq, nI_add, nI_mul, mjIn_nI, nI_clamp, neg1_lt0, if_pos, if_neg, if_true, if_false, Bool.false_eq_true, and_true, true_and, and_false, false_and, mI_pL, mK_pL, mN_pL, mR_pL, mL_pL, mL_pI, mI_pR, mL_pR, mK_pR, mN_pR, mR_pR, mI_pC, mL_pC, mK_pC, mN_pC, mR_pC]) <;> rfl)) | (apply stA; focus ((try simp (disch := omega) only [t.k11, e1, t1.k11, e2, e3, ofNat_nI, i_lit, mI_pI, mK_pI, mN_pI, mR_pI, nI_ltI, nI_eq, nI_add, nI_mul, mjIn_nI, nI_clamp, neg1_lt0, if_pos, if_neg, if_true, if_false, Bool.false_eq_true, and_true, true_and, and_false, false_and, mI_pL, mK_pL, mN_pL, mR_pL, mL_pL, mL_pI, mI_pR, mL_pR, mK_pR, mN_pR, mR_pR, mI_pC, mL_pC, mK_pC, mN_pC, mR_pC]) <;> rfl)))
        try simp (disch := omega) only [t.k11, e1, t1.k11, e2, e3, ofNat_nI, i_lit, mI_pI, mK_pI, mN_pI, mR_pI, nI_ltI, nI_eq, nI_add, nI_mul, mjIn_nI, nI_clamp, neg1_lt0, if_pos, if_neg, if_true, if_false, Bool.false_eq_true, and_true, true_and, and_false, false_and, mI_pL, mK_pL, mN_pL, mR_pL, mL_pL, mL_pI, mI_pR, mL_pR, mK_pR, mN_pR, mR_pR, mI_pC, mL_pC, mK_pC, mN_pC, mR_pC]
    | inr s1 =>
      rw [hF] at r1
      have c1 : CRo h1 tb tl pre s1 := r1
      have t1 := c1.t
      have sh := piece_shr tl s s1 hF
      -- the sign that waited is laid down
      have emit : ∃ h2, ev 39 lv 4 [.ref 11, .int (nI k), .int (nI j)] [] h = ev 39 lv 25 [.ref 11, .int (nI k), .int (nI j)] [] h2 ∧ Fr FRd h h2 ∧ CRo h2 tb tl pre (s1.1, s1.2.1 ++ o.toList, s1.2.2) := by
        rcases hw with ⟨rfl, rfl, rfl⟩ | ⟨o', rfl, ho, j0⟩
        · refine ⟨h1, ?_, f1, ?_⟩
          · rw [e_39_4 E]
            repeat (first | (apply ifT; focus ((try simp (disch := omega) only [t.k11, e1, ofNat_nI, i_lit, mI_pI, mK_pI, mN_pI, mR_pI, nI_ltI, nI_eq, nI_add, nI_mul, mjIn_nI, nI_clamp, neg1_lt0, if_pos, if_neg, if_true, if_false, Bool.false_eq_true, and_true, true_and, and_false, false_and, mI_pL, mK_pL, mN_pL, mR_pL, mL_pL, mL_pI, mI_pR, mL_pR, mK_pR, mN_pR, mR_pR, mI_pC, mL_pC, mK_pC, mN_pC, mR_pC]) <;> first | omega | decide)) | (apply ifF; focus ((try simp (disch := omega) only [t.k11, e1, ofNat_nI, i_lit, mI_pI, mK_pI, mN_pI, mR_pI, nI_ltI, nI_eq, nI_add, nI_mul, mjIn_nI, nI_clamp, neg1_lt0, if_pos, if_neg, if_true, if_false, Bool.false_eq_true, and_true, true_and, and_false, false_and, mI_pL, mK_pL, mN_pL, mR_pL, mL_pL, mL_pI, mI_pR, mL_pR, mK_pR, mN_pR, mR_pR, mI_pC, mL_pC, mK_pC, mN_pC, mR_pC]) <;> first | omega | decide)) | (apply stI; focus ((try simp (disch := omega) only [t.k11, e1, ofNat_nI, i_lit, mI_pI, mK_pI, mN_pI, mR_pI, nI_ltI, nI_eq, nI_add, nI_mul, mjIn_nI, nI_clamp, neg1_lt0, if_pos, if_neg, if_true, if_false, Bool.false_eq_true, and_true, true_and, and_false, false_and, mI_pL, mK_pL, mN_pL, mR_pL, mL_pL, mL_pI, mI_pR, mL_pR, mK_pR, mN_pR, mR_pR, mI_pC, mL_pC, mK_pC, mN_pC, mR_pC]) <;> rfl)) | (apply stV; focus ((try simp (disch := omega) only [t.k11, e1, ofNat_nI, i_lit, mI_pI, mK_pI, mN_pI, mR_pI, nI_ltI, nI_eq, nI_add, nI_mul, mjIn_nI, nI_clamp, neg1_lt0, if_pos, if_neg, if_true, if_false, Bool.false_eq_true, and_true, true_and, and_false, false_and, mI_pL, mK_pL, mN_pL, mR_pL, mL_pL, mL_pI, mI_pR, mL_pR, mK_pR, mN_pR, mR_pR, mI_pC, mL_pC, mK_pC, mN_pC, mR_pC]) <;> rfl)) | (apply stL; focus ((try simp (disch := omega) only [t.k11, e1, ofNat_nI, i_lit, mI_pI, mK_pI, mN_pI, mR_pI, nI_ltI, nI_eq, nI_add, nI_mul, mjIn_nI, nI_clamp, neg1_lt0, if_pos, if_neg, if_true, if_false, Bool.false_eq_true, and_true, true_and, and_false, false_and, mI_pL, mK_pL, mN_pL, mR_pL, mL_pL, mL_pI, mI_pR, mL_pR, mK_pR, mN_pR, mR_pR, mI_pC, mL_pC, mK_pC, mN_pC, mR_pC]) <;> rfl)) | (apply stA; focus ((try simp (disch := omega) only [t.k11, e1, ofNat_nI, i_lit, mI_pI, mK_pI, mN_pI, mR_pI, nI_ltI, nI_eq, nI_add, nI_mul, mjIn_nI, nI_clamp, neg1_lt0, if_pos, if_neg, if_true, if_false, Bool.false_eq_true, and_true, true_and, and_false, false_and, mI_pL, mK_pL, mN_pL, mR_pL, mL_pL, mL_pI, mI_pR, mL_pR, mK_pR, mN_pR, mR_pR, mI_pC, mL_pC, mK_pC, mN_pC, mR_pC]) <;> rfl)))
            try simp (disch := omega) only [t.k11, e1, ofNat_nI, i_lit, mI_pI, mK_pI, mN_pI, mR_pI, nI_ltI, nI_eq, nI_add, nI_mul, mjIn_nI, nI_clamp, neg1_lt0, if_pos, if_neg, if_true, if_false, Bool.false_eq_true, and_true, true_and, and_false, false_and, mI_pL, mK_pL, mN_pL, mR_pL, mL_pL, mL_pI, mI_pR, mL_pR, mK_pR, mN_pR, mR_pR, mI_pC, mL_pC, mK_pC, mN_pC, mR_pC]
          · show CRo h1 tb tl pre (s1.1, s1.2.1 ++ [], s1.2.2)
            rw [List.append_nil]; exact c1
        · have l1 : (some o').toList.length = 1 := rfl
          obtain ⟨h2, e2, f2, c2⟩ := co_step (lv := lv) E c1 o' (by omega)
          refine ⟨h2, ?_, f1.tr f2, c2⟩
          rw [← opM_step ho] at e2
          rw [e_39_4 E]
          repeat (first | (apply ifT; focus ((try simp (disch := omega) only [t.k11, e1, t1.k11, e2, ofNat_nI, i_lit, mI_pI, mK_pI, mN_pI, mR_pI, nI_ltI, nI_eq, nI_add, nI_mul, mjIn_nI, nI_clamp, neg1_lt0, if_pos, if_neg, if_true, if_false, Bool.false_eq_true, and_true, true_and, and_false, false_and, mI_pL, mK_pL, mN_pL, mR_pL, mL_pL, mL_pI, mI_pR, mL_pR, mK_pR, mN_pR, mR_pR, mI_pC, mL_pC, mK_pC, mN_pC, mR_pC]) <;> first | omega | decide)) | (apply ifF; focus ((try simp (disch := omega) only [t.k11, e1, t1.k11, e2, ofNat_nI, i_lit, mI_pI, mK_pI, mN_pI, mR_pI, nI_ltI, nI_eq, nI_add, nI_mul, mjIn_nI, nI_clamp, neg1_lt0, if_pos, if_neg, if_true, if_false, Bool.false_eq_true, and_true, true_and, and_false, false_and, mI_pL, mK_pL, mN_pL, mR_pL, mL_pL, mL_pI, mI_pR, mL_pR, mK_pR, mN_pR, mR_pR, mI_pC, mL_pC, mK_pC, mN_pC, mR_pC]) <;> first | omega | decide)) | (apply stI; focus ((try simp (disch := omega) only [t.k11, e1, t1.k11, e2, ofNat_nI, i_lit, mI_pI, mK_pI, mN_pI, mR_pI, nI_ltI, nI_eq, nI_add, nI_mul, mjIn_nI, nI_clamp, neg1_lt0, if_pos, if_neg, if_true, if_false, Bool.false_eq_true, and_true, true_and, and_false, false_and, mI_pL, mK_pL, mN_pL, mR_pL, mL_pL, mL_pI, mI_pR, mL_pR, mK_pR, mN_pR, mR_pR, mI_pC, mL_pC, mK_pC, mN_pC, mR_pC]) <;> rfl)) | (apply stV; focus ((try simp (disch := omega) only [t.k11, e1, t1.k11, e2, ofNat_nI, i_lit, mI_pI, mK_pI, mN_pI, mR_pI, nI_ltI, nI_eq, nI_add, nI_mul, mjIn_nI, nI_clamp, neg1_lt0, if_pos, if_neg, if_true, if_false, Bool.false_eq_true, and_true, true_and, and_false, false_and, mI_pL, mK_pL, mN_pL, mR_pL, mL_pL, mL_pI, mI_pR, mL_pR, mK_pR, mN_pR, mR_pR, mI_pC, mL_pC, mK_pC, mN_pC, mR_pC]) <;> rfl)) | (apply stL; focus ((try simp (disch := omega) only [t.k11, e1, t1.k11, e2, ofNat_nI, i_lit, mI_pI, mK_pI, mN_pI, mR_pI, nI_ltI, nI_eq, nI_add, nI_mul, mjIn_nI, nI_clamp, neg1_lt0, if_pos, if_neg, if_true, if_false, Bool.false_eq_true, and_true, true_and, and_false, false_and, mI_pL, mK_pL, mN_pL, mR_pL, mL_pL, mL_pI, mI_pR, mL_pR, mK_pR, mN_pR, mR_pR, mI_pC, mL_pC, mK_pC, mN_pC, mR_pC]) <;> rfl)) | (apply stA; focus ((try simp (disch := omega) only [t.k11, e1, t1.k11, e2, ofNat_nI, i_lit, mI_pI, mK_pI, mN_pI, mR_pI, nI_ltI, nI_eq, nI_add, nI_mul, mjIn_nI, nI_clamp, neg1_lt0, if_pos, if_neg, if_true, if_false, Bool.false_eq_true, and_true, true_and, and_false, false_and, mI_pL, mK_pL, mN_pL, mR_pL, mL_pL, mL_pI, mI_pR, mL_pR, mK_pR, mN_pR, mR_pR, mI_pC, mL_pC, mK_pC, mN_pC, mR_pC]) <;> rfl)))
          try simp (disch := omega) only [t.k11, e1, t1.k11, e2, ofNat_nI, i_lit, mI_pI, mK_pI, mN_pI, mR_pI, nI_ltI, nI_eq, nI_add, nI_mul, mjIn_nI, nI_clamp, neg1_lt0, if_pos, if_neg, if_true, if_false, Bool.false_eq_true, and_true, true_and, and_false, false_and, mI_pL, mK_pL, mN_pL, mR_pL, mL_pL, mL_pI, mI_pR, mL_pR, mK_pR, mN_pR, mR_pR, mI_pC, mL_pC, mK_pC, mN_pC, mR_pC]
      obtain ⟨h2, e2, f2, c2⟩ := emit
      rw [e2]
      have t2 := c2.t
      have pk := co_peek (lv := lv) E c2
      have kl := (kd_lt c1.ok).2
      have pk' : mjCall ev 83 lv [.ref 5] h2 = some (.int (nI (kd s1.1)), h2) := pk
      have ol : (s1.2.1 ++ o.toList).length = s1.2.1.length + o.toList.length := List.length_append
      by_cases y42 : kd s1.1 = 42
      · have eo : opM (kd s1.1) = some 4 := by rw [y42]; rfl
        rw [chF_some hF eo]
        have tn := tail_len (ts := s1.1) (by omega)
        obtain ⟨h3, e3, f3, c3⟩ := co_take (lv := lv) (k := 42) E c2 (by omega) y42
        have t3 := c3.t
        obtain ⟨h4, e4, f4, r4⟩ := ih (j + 1) 42 (some 4) (s1.1.tail, s1.2.1 ++ o.toList, s1.2.2) h3 c3 (by omega) (Or.inr ⟨4, rfl, rfl, by omega⟩) (by
          show pre.length + (s1.2.1 ++ o.toList).length + s1.1.tail.length + 1 ≤ 400
          rw [ol]; omega)
        refine ⟨h4, ?_, (f2.tr f3).tr f4, r4⟩
        rw [y42] at pk'
        rw [e_39_25 E]
        repeat (first | (apply ifT; focus ((try simp (disch := omega) only [t2.k11, t2.r11_0, t2.k5, pk',  e3, e4, ofNat_nI, i_lit, mI_pI, mK_pI, mN_pI, mR_pI, nI_ltI, nI_eq, nI_add, nI_mul, mjIn_nI, nI_clamp, neg1_lt0, if_pos, if_neg, if_true, if_false, Bool.false_eq_true, and_true, true_and, and_false, false_and, mI_pL, mK_pL, mN_pL, mR_pL, mL_pL, mL_pI, mI_pR, mL_pR, mK_pR, mN_pR, mR_pR, mI_pC, mL_pC, mK_pC, mN_pC, mR_pC]) <;> first | omega | decide)) | (apply ifF; focus ((try simp (disch := omega) only [t2.k11, t2.r11_0, t2.k5, pk',  e3, e4, ofNat_nI, i_lit, mI_pI, mK_pI, mN_pI, mR_pI, nI_ltI, nI_eq, nI_add, nI_mul, mjIn_nI, nI_clamp, neg1_lt0, if_pos, if_neg, if_true, if_false, Bool.false_eq_true, and_true, true_and, and_false, false_and, mI_pL, mK_pL, mN_pL, mR_pL, mL_pL, mL_pI, mI_pR, mL_pR, mK_pR, mN_pR, mR_pR, mI_pC, mL_pC, mK_pC, mN_pC, mR_pC]) <;> first | omega | decide)) | (apply stI; focus ((try simp (disch := omega) only [t2.k11, t2.r11_0, t2.k5, pk',  e3, e4, ofNat_nI, i_lit, mI_pI, mK_pI, mN_pI, mR_pI, nI_ltI, nI_eq, nI_add, nI_mul, mjIn_nI, nI_clamp, neg1_lt0, if_pos, if_neg, if_true, if_false, Bool.false_eq_true, and_true, true_and, and_false, false_and, mI_pL, mK_pL, mN_pL, mR_pL, mL_pL, mL_pI, mI_pR, mL_pR, mK_pR, mN_pR, mR_pR, mI_pC, mL_pC, mK_pC, mN_pC, mR_pC]) <;> rfl)) | (apply stV; focus ((try simp (disch := omega) only [t2.k11, t2.r11_0, t2.k5, pk',  e3, e4, ofNat_nI, i_lit, mI_pI, mK_pI, mN_pI, mR_pI, nI_ltI, nI_eq, nI_add, nI_mul, mjIn_nI, nI_clamp, neg1_lt0, if_pos, if_neg, if_true, if_false, Bool.false_eq_true, and_true, true_and, and_false, false_and, mI_pL, mK_pL, mN_pL, mR_pL, mL_pL, mL_pI, mI_pR, mL_pR, mK_pR, mN_pR, mR_pR, mI_pC, mL_pC, mK_pC, mN_pC, mR_pC]) <;> rfl)) | (apply stL; focus ((try simp (disch := omega) only [t2.k11, t2.r11_0, t2.k5, pk',  e3, e4, ofNat_nI, i_lit, mI_pI, mK_pI, mN_pI, mR_pI, nI_ltI, nI_eq, nI_add, nI_mul, mjIn_nI, nI_clamp, neg1_lt0, if_pos, if_neg, if_true, if_false, Bool.false_eq_true, and_true, true_and, and_false, false_and, mI_pL, mK_pL, mN_pL, mR_pL, mL_pL, mL_pI, mI_pR, mL_pR, mK_pR, mN_pR, mR_pR, mI_pC, mL_pC, mK_pC, mN_pC, mR_pC]) <;> rfl)) | (apply stA; focus ((try simp (disch := omega) only [t2.k11, t2.r11_0, t2.k5, pk',  e3, e4, ofNat_nI, i_lit, mI_pI, mK_pI, mN_pI, mR_pI, nI_ltI, nI_eq, nI_add, nI_mul, mjIn_nI, nI_clamp, neg1_lt0, if_pos, if_neg, if_true, if_false, Bool.false_eq_true, and_true, true_and, and_false, false_and, mI_pL, mK_pL, mN_pL, mR_pL, mL_pL, mL_pI, mI_pR, mL_pR, mK_pR, mN_pR, mR_pR, mI_pC, mL_pC, mK_pC, mN_pC, mR_pC]) <;> rfl)))
        try simp (disch := omega) only [t2.k11, t2.r11_0, t2.k5, pk',  e3, e4, ofNat_nI, i_lit, mI_pI, mK_pI, mN_pI, mR_pI, nI_ltI, nI_eq, nI_add, nI_mul, mjIn_nI, nI_clamp, neg1_lt0, if_pos, if_neg, if_true, if_false, Bool.false_eq_true, and_true, true_and, and_false, false_and, mI_pL, mK_pL, mN_pL, mR_pL, mL_pL, mL_pI, mI_pR, mL_pR, mK_pR, mN_pR, mR_pR, mI_pC, mL_pC, mK_pC, mN_pC, mR_pC]
      · have q42 := co_not (lv := lv) (k := 42) E c2 (by omega) y42
        by_cases y47 : kd s1.1 = 47
        · have eo : opM (kd s1.1) = some 5 := by rw [y47]; rfl
          rw [chF_some hF eo]
          have tn := tail_len (ts := s1.1) (by omega)
          obtain ⟨h3, e3, f3, c3⟩ := co_take (lv := lv) (k := 47) E c2 (by omega) y47
          have t3 := c3.t
          obtain ⟨h4, e4, f4, r4⟩ := ih (j + 1) 47 (some 5) (s1.1.tail, s1.2.1 ++ o.toList, s1.2.2) h3 c3 (by omega) (Or.inr ⟨5, rfl, rfl, by omega⟩) (by
            show pre.length + (s1.2.1 ++ o.toList).length + s1.1.tail.length + 1 ≤ 400
            rw [ol]; omega)
          refine ⟨h4, ?_, (f2.tr f3).tr f4, r4⟩
          rw [y47] at pk'
          rw [e_39_25 E]
          repeat (first | (apply ifT; focus ((try simp (disch := omega) only [t2.k11, t2.r11_0, t2.k5, pk', q42,  e3, e4, ofNat_nI, i_lit, mI_pI, mK_pI, mN_pI, mR_pI, nI_ltI, nI_eq, nI_add, nI_mul, mjIn_nI, nI_clamp, neg1_lt0, if_pos, if_neg, if_true, if_false, Bool.false_eq_true, and_true, true_and, and_false, false_and, mI_pL, mK_pL, mN_pL, mR_pL, mL_pL, mL_pI, mI_pR, mL_pR, mK_pR, mN_pR, mR_pR, mI_pC, mL_pC, mK_pC, mN_pC, mR_pC]) <;> first | omega | decide)) | (apply ifF; focus ((try simp (disch := omega) only [t2.k11, t2.r11_0, t2.k5, pk', q42,  e3, e4, ofNat_nI, i_lit, mI_pI, mK_pI, mN_pI, mR_pI, nI_ltI, nI_eq, nI_add, nI_mul, mjIn_nI, nI_clamp, neg1_lt0, if_pos, if_neg, if_true, if_false, Bool.false_eq_true, and_true, true_and, and_false, false_and, mI_pL, mK_pL, mN_pL, mR_pL, mL_pL, mL_pI, mI_pR, mL_pR, mK_pR, mN_pR, mR_pR, mI_pC, mL_pC, mK_pC, mN_pC, mR_pC]) <;> first | omega | decide)) | (apply stI; focus ((try simp (disch := omega) only [t2.k11, t2.r11_0, t2.k5, pk', q42,  e3, e4, ofNat_nI, i_lit, mI_pI, mK_pI, mN_pI, mR_pI, nI_ltI, nI_eq, nI_add, nI_mul, mjIn_nI, nI_clamp, neg1_lt0, if_pos, if_neg, if_true, if_false, Bool.false_eq_true, and_true, true_and, and_false, false_and, mI_pL, mK_pL, mN_pL, mR_pL, mL_pL, mL_pI, mI_pR, mL_pR, mK_pR, mN_pR, mR_pR, mI_pC, mL_pC, mK_pC, mN_pC, mR_pC]) <;> rfl)) | (apply stV; focus ((try simp (disch := omega) only [t2.k11, t2.r11_0, t2.k5, pk', q42,  e3, e4, ofNat_nI, i_lit, mI_pI, mK_pI, mN_pI, mR_pI, nI_ltI, nI_eq, nI_add, nI_mul, mjIn_nI, nI_clamp, neg1_lt0, if_pos, if_neg, if_true, if_false, Bool.false_eq_true, and_true, true_and, and_false, false_and, mI_pL, mK_pL, mN_pL, mR_pL, mL_pL, mL_pI, mI_pR, mL_pR, mK_pR, mN_pR, mR_pR, mI_pC, mL_pC, mK_pC, mN_pC, mR_pC]) <;> rfl)) | (apply stL; focus ((try simp (disch := omega) only [t2.k11, t2.r11_0, t2.k5, pk', q42,  e3, e4, ofNat_nI, i_lit, mI_pI, mK_pI, mN_pI, mR_pI, nI_ltI, nI_eq, nI_add, nI_mul, mjIn_nI, nI_clamp, neg1_lt0, if_pos, if_neg, if_true, if_false, Bool.false_eq_true, and_true, true_and, and_false, false_and, mI_pL, mK_pL, mN_pL, mR_pL, mL_pL, mL_pI, mI_pR, mL_pR, mK_pR, mN_pR, mR_pR, mI_pC, mL_pC, mK_pC, mN_pC, mR_pC]) <;> rfl)) | (apply stA; focus ((try simp (disch := omega) only [t2.k11, t2.r11_0, t2.k5, pk', q42,  e3, e4, ofNat_nI, i_lit, mI_pI, mK_pI, mN_pI, mR_pI, nI_ltI, nI_eq, nI_add, nI_mul, mjIn_nI, nI_clamp, neg1_lt0, if_pos, if_neg, if_true, if_false, Bool.false_eq_true, and_true, true_and, and_false, false_and, mI_pL, mK_pL, mN_pL, mR_pL, mL_pL, mL_pI, mI_pR, mL_pR, mK_pR, mN_pR, mR_pR, mI_pC, mL_pC, mK_pC, mN_pC, mR_pC]) <;> rfl)))
          try simp (disch := omega) only [t2.k11, t2.r11_0, t2.k5, pk', q42,  e3, e4, ofNat_nI, i_lit, mI_pI, mK_pI, mN_pI, mR_pI, nI_ltI, nI_eq, nI_add, nI_mul, mjIn_nI, nI_clamp, neg1_lt0, if_pos, if_neg, if_true, if_false, Bool.false_eq_true, and_true, true_and, and_false, false_and, mI_pL, mK_pL, mN_pL, mR_pL, mL_pL, mL_pI, mI_pR, mL_pR, mK_pR, mN_pR, mR_pR, mI_pC, mL_pC, mK_pC, mN_pC, mR_pC]
        · have q47 := co_not (lv := lv) (k := 47) E c2 (by omega) y47
          by_cases y37 : kd s1.1 = 37
          · have eo : opM (kd s1.1) = some 14 := by rw [y37]; rfl
            rw [chF_some hF eo]
            have tn := tail_len (ts := s1.1) (by omega)
            obtain ⟨h3, e3, f3, c3⟩ := co_take (lv := lv) (k := 37) E c2 (by omega) y37
            have t3 := c3.t
            obtain ⟨h4, e4, f4, r4⟩ := ih (j + 1) 37 (some 14) (s1.1.tail, s1.2.1 ++ o.toList, s1.2.2) h3 c3 (by omega) (Or.inr ⟨14, rfl, rfl, by omega⟩) (by
              show pre.length + (s1.2.1 ++ o.toList).length + s1.1.tail.length + 1 ≤ 400
              rw [ol]; omega)
            refine ⟨h4, ?_, (f2.tr f3).tr f4, r4⟩
            rw [y37] at pk'
            rw [e_39_25 E]
            repeat (first | (apply ifT; focus ((try simp (disch := omega) only [t2.k11, t2.r11_0, t2.k5, pk', q42, q47,  e3, e4, ofNat_nI, i_lit, mI_pI, mK_pI, mN_pI, mR_pI, nI_ltI, nI_eq, nI_add, nI_mul, mjIn_nI, nI_clamp, neg1_lt0, if_pos, if_neg, if_true, if_false, Bool.false_eq_true, and_true, true_and, and_false, false_and, mI_pL, mK_pL, mN_pL, mR_pL, mL_pL, mL_pI, mI_pR, mL_pR, mK_pR, mN_pR, mR_pR, mI_pC, mL_pC, mK_pC, mN_pC, mR_pC]) <;> first | omega | decide)) | (apply ifF; focus ((try simp (disch := omega) only [t2.k11, t2.r11_0, t2.k5, pk', q42, q47,  e3, e4, ofNat_nI, i_lit, mI_pI, mK_pI, mN_pI, mR_pI, nI_ltI, nI_eq, nI_add, nI_mul, mjIn_nI, nI_clamp, neg1_lt0, if_pos, if_neg, if_true, if_false, Bool.false_eq_true, and_true, true_and, and_false, false_and, mI_pL, mK_pL, mN_pL, mR_pL, mL_pL, mL_pI, mI_pR, mL_pR, mK_pR, mN_pR, mR_pR, mI_pC, mL_pC, mK_pC, mN_pC, mR_pC]) <;> first | omega | decide)) | (apply stI; focus ((try simp (disch := omega) only [t2.k11, t2.r11_0, t2.k5, pk', q42, q47,  e3, e4, ofNat_nI, i_lit, mI_pI, mK_pI, mN_pI, mR_pI, nI_ltI, nI_eq, nI_add, nI_mul, mjIn_nI, nI_clamp, neg1_lt0, if_pos, if_neg, if_true, if_false, Bool.false_eq_true, and_true, true_and, and_false, false_and, mI_pL, mK_pL, mN_pL, mR_pL, mL_pL, mL_pI, mI_pR, mL_pR, mK_pR, mN_pR, mR_pR, mI_pC, mL_pC, mK_pC, mN_pC, mR_pC]) <;> rfl)) | (apply stV; focus ((try simp (disch := omega) only [t2.k11, t2.r11_0, t2.k5, pk', q42, q47,  e3, e4, ofNat_nI, i_lit, mI_pI, mK_pI, mN_pI, mR_pI, nI_ltI, nI_eq, nI_add, nI_mul, mjIn_nI, nI_clamp, neg1_lt0, if_pos, if_neg, if_true, if_false, Bool.false_eq_true, and_true, true_and, and_false, false_and, mI_pL, mK_pL, mN_pL, mR_pL, mL_pL, mL_pI, mI_pR, mL_pR, mK_pR, mN_pR, mR_pR, mI_pC, mL_pC, mK_pC, mN_pC, mR_pC]) <;> rfl)) | (apply stL; focus ((try simp (disch := omega) only [t2.k11, t2.r11_0, t2.k5, pk', q42, q47,  e3, e4, ofNat_nI, i_lit, mI_pI, mK_pI, mN_pI, mR_pI, nI_ltI, nI_eq, nI_add, nI_mul, mjIn_nI, nI_clamp, neg1_lt0, if_pos, if_neg, if_true, if_false, Bool.false_eq_true, and_true, true_and, and_false, false_and, mI_pL, mK_pL, mN_pL, mR_pL, mL_pL, mL_pI, mI_pR, mL_pR, mK_pR, mN_pR, mR_pR, mI_pC, mL_pC, mK_pC, mN_pC, mR_pC]) <;> rfl)) | (apply stA; focus ((try simp (disch := omega) only [t2.k11, t2.r11_0, t2.k5, pk', q42, q47,  e3, e4, ofNat_nI, i_lit, mI_pI, mK_pI, mN_pI, mR_pI, nI_ltI, nI_eq, nI_add, nI_mul, mjIn_nI, nI_clamp, neg1_lt0, if_pos, if_neg, if_true, if_false, Bool.false_eq_true, and_true, true_and, and_false, false_and, mI_pL, mK_pL, mN_pL, mR_pL, mL_pL, mL_pI, mI_pR, mL_pR, mK_pR, mN_pR, mR_pR, mI_pC, mL_pC, mK_pC, mN_pC, mR_pC]) <;> rfl)))
            try simp (disch := omega) only [t2.k11, t2.r11_0, t2.k5, pk', q42, q47,  e3, e4, ofNat_nI, i_lit, mI_pI, mK_pI, mN_pI, mR_pI, nI_ltI, nI_eq, nI_add, nI_mul, mjIn_nI, nI_clamp, neg1_lt0, if_pos, if_neg, if_true, if_false, Bool.false_eq_true, and_true, true_and, and_false, false_and, mI_pL, mK_pL, mN_pL, mR_pL, mL_pL, mL_pI, mI_pR, mL_pR, mK_pR, mN_pR, mR_pR, mI_pC, mL_pC, mK_pC, mN_pC, mR_pC]
          · have q37 := co_not (lv := lv) (k := 37) E c2 (by omega) y37
            have eo : opM (kd s1.1) = none := by unfold opM; rw [if_neg y42, if_neg y47, if_neg y37]
            rw [chF_none hF eo]
            refine ⟨h2, ?_, f2, c2⟩
            rw [e_39_25 E]
            repeat (first | (apply ifT; focus ((try simp (disch := omega) only [t2.k11, t2.r11_0, t2.k5, pk', q42, q47, q37, ofNat_nI, i_lit, mI_pI, mK_pI, mN_pI, mR_pI, nI_ltI, nI_eq, nI_add, nI_mul, mjIn_nI, nI_clamp, neg1_lt0, if_pos, if_neg, if_true, if_false, Bool.false_eq_true, and_true, true_and, and_false, false_and, mI_pL, mK_pL, mN_pL, mR_pL, mL_pL, mL_pI, mI_pR, mL_pR, mK_pR, mN_pR, mR_pR, mI_pC, mL_pC, mK_pC, mN_pC, mR_pC]) <;> first | omega | decide)) | (apply ifF; focus ((try simp (disch := omega) only [t2.k11, t2.r11_0, t2.k5, pk', q42, q47, q37, ofNat_nI, i_lit, mI_pI, mK_pI, mN_pI, mR_pI, nI_ltI, nI_eq, nI_add, nI_mul, mjIn_nI, nI_clamp, neg1_lt0, if_pos, if_neg, if_true, if_false, Bool.false_eq_true, and_true, true_and, and_false, false_and, mI_pL, mK_pL, mN_pL, mR_pL, mL_pL, mL_pI, mI_pR, mL_pR, mK_pR, mN_pR, mR_pR, mI_pC, mL_pC, mK_pC, mN_pC, mR_pC]) <;> first | omega | decide)) | (apply stI; focus ((try simp (disch := omega) only [t2.k11, t2.r11_0, t2.k5, pk', q42, q47, q37, ofNat_nI, i_lit, mI_pI, mK_pI, mN_pI, mR_pI, nI_ltI, nI_eq, nI_add, nI_mul, mjIn_nI, nI_clamp, neg1_lt0, if_pos, if_neg, if_true, if_false, Bool.false_eq_true, and_true, true_and, and_false, false_and, mI_pL, mK_pL, mN_pL, mR_pL, mL_pL, mL_pI, mI_pR, mL_pR, mK_pR, mN_pR, mR_pR, mI_pC, mL_pC, mK_pC, mN_pC, mR_pC]) <;> rfl)) | (apply stV; focus ((try simp (disch := omega) only [t2.k11, t2.r11_0, t2.k5, pk', q42, q47, q37, ofNat_nI, i_lit, mI_pI, mK_pI, mN_pI, mR_pI, nI_ltI, nI_eq, nI_add, nI_mul, mjIn_nI, nI_clamp, neg1_lt0, if_pos, if_neg, if_true, if_false, Bool.false_eq_true, and_true, true_and, and_false, false_and, mI_pL, mK_pL, mN_pL, mR_pL, mL_pL, mL_pI, mI_pR, mL_pR, mK_pR, mN_pR, mR_pR, mI_pC, mL_pC, mK_pC, mN_pC, mR_pC]) <;> rfl)) | (apply stL; focus ((try simp (disch := omega) only [t2.k11, t2.r11_0, t2.k5, pk', q42, q47, q37, ofNat_nI, i_lit, mI_pI, mK_pI, mN_pI, mR_pI, nI_ltI, nI_eq, nI_add, nI_mul, mjIn_nI, nI_clamp, neg1_lt0, if_pos, if_neg, if_true, if_false, Bool.false_eq_true, and_true, true_and, and_false, false_and, mI_pL, mK_pL, mN_pL, mR_pL, mL_pL, mL_pI, mI_pR, mL_pR, mK_pR, mN_pR, mR_pR, mI_pC, mL_pC, mK_pC, mN_pC, mR_pC]) <;> rfl)) | (apply stA; focus ((try simp (disch := omega) only [t2.k11, t2.r11_0, t2.k5, pk', q42, q47, q37, ofNat_nI, i_lit, mI_pI, mK_pI, mN_pI, mR_pI, nI_ltI, nI_eq, nI_add, nI_mul, mjIn_nI, nI_clamp, neg1_lt0, if_pos, if_neg, if_true, if_false, Bool.false_eq_true, and_true, true_and, and_false, false_and, mI_pL, mK_pL, mN_pL, mR_pL, mL_pL, mL_pI, mI_pR, mL_pR, mK_pR, mN_pR, mR_pR, mI_pC, mL_pC, mK_pC, mN_pC, mR_pC]) <;> rfl)))
            try simp (disch := omega) only [t2.k11, t2.r11_0, t2.k5, pk', q42, q47, q37, ofNat_nI, i_lit, mI_pI, mK_pI, mN_pI, mR_pI, nI_ltI, nI_eq, nI_add, nI_mul, mjIn_nI, nI_clamp, neg1_lt0, if_pos, if_neg, if_true, if_false, Bool.false_eq_true, and_true, true_and, and_false, false_and, mI_pL, mK_pL, mN_pL, mR_pL, mL_pL, mL_pI, mI_pR, mL_pR, mK_pR, mN_pR, mR_pR, mI_pC, mL_pC, mK_pC, mN_pC, mR_pC]
theorem co_prod (E : mjFix ev) {h : mjS} {s : rst} (c : CRo h tb tl pre s) (hr : pre.length + s.2.1.length + s.1.length ≤ 400) : ∃ h', mjCall ev 39 lv [.ref 11] h = some (.ref 0, h') ∧ Fr FRd h h' ∧ CRr h' tb tl pre (prodF tl s) := by
  obtain ⟨h', e, r⟩ := co_ch39 (lv := lv) E 400 0 0 none s h c (by omega) (Or.inl ⟨rfl, rfl, rfl⟩) hr
  refine ⟨h', ?_, r⟩
  show ev 39 lv 0 [.ref 11, mjD, mjD] [] h = _
  rw [e_39_0 E]
  exact e
theorem co_ch38 (E : mjFix ev) : ∀ (n j k : Nat) (o : Option Nat) (s : rst) (h : mjS), CRo h tb tl pre s → j + n = 400 → Wt2 opA j o k → pre.length + s.2.1.length + s.1.length + o.toList.length ≤ 400 → ∃ h', ev 38 lv 4 [.ref 11, .int (nI k), .int (nI j)] [] h = some (.ref 0, h') ∧ Fr FRd h h' ∧ CRr h' tb tl pre (chF (prodF tl) opA n o s) := by
  intro n
  induction n with
  | zero =>
    intro j k o s h c hj hw hr
    refine ⟨h, ?_, Fr.rf, c⟩
    rw [e_38_4 E]
    repeat (first | (apply ifT; focus ((try simp (disch := omega) only [ofNat_nI, i_lit, mI_pI, mK_pI, mN_pI, mR_pI, nI_ltI, nI_eq, nI_add, nI_mul, mjIn_nI, nI_clamp, neg1_lt0, if_pos, if_neg, if_true, if_false, Bool.false_eq_true, and_true, true_and, and_false, false_and, mI_pL, mK_pL, mN_pL, mR_pL, mL_pL, mL_pI, mI_pR, mL_pR, mK_pR, mN_pR, mR_pR, mI_pC, mL_pC, mK_pC, mN_pC, mR_pC]) <;> first | omega | decide)) | (apply ifF; focus ((try simp (disch := omega) only [ofNat_nI, i_lit, mI_pI, mK_pI, mN_pI, mR_pI, nI_ltI, nI_eq, nI_add, nI_mul, mjIn_nI, nI_clamp, neg1_lt0, if_pos, if_neg, if_true, if_false, Bool.false_eq_true, and_true, true_and, and_false, false_and, mI_pL, mK_pL, mN_pL, mR_pL, mL_pL, mL_pI, mI_pR, mL_pR, mK_pR, mN_pR, mR_pR, mI_pC, mL_pC, mK_pC, mN_pC, mR_pC]) <;> first | omega | decide)) | (apply stI; focus ((try simp (disch := omega) only [ofNat_nI, i_lit, mI_pI, mK_pI, mN_pI, mR_pI, nI_ltI, nI_eq, nI_add, nI_mul, mjIn_nI, nI_clamp, neg1_lt0, if_pos, if_neg, if_true, if_false, Bool.false_eq_true, and_true, true_and, and_false, false_and, mI_pL, mK_pL, mN_pL, mR_pL, mL_pL, mL_pI, mI_pR, mL_pR, mK_pR, mN_pR, mR_pR, mI_pC, mL_pC, mK_pC, mN_pC, mR_pC]) <;> rfl)) | (apply stV; focus ((try simp (disch := omega) only [ofNat_nI, i_lit, mI_pI, mK_pI, mN_pI, mR_pI, nI_ltI, nI_eq, nI_add, nI_mul, mjIn_nI, nI_clamp, neg1_lt0, if_pos, if_neg, if_true, if_false, Bool.false_eq_true, and_true, true_and, and_false, false_and, mI_pL, mK_pL, mN_pL, mR_pL, mL_pL, mL_pI, mI_pR, mL_pR, mK_pR, mN_pR, mR_pR, mI_pC, mL_pC, mK_pC, mN_pC, mR_pC]) <;> rfl)) | (apply stL; focus ((try simp (disch := omega) only [ofNat_nI, i_lit, mI_pI, mK_pI, mN_pI, mR_pI, nI_ltI, nI_eq, nI_add, nI_mul, mjIn_nI, nI_clamp, neg1_lt0, if_pos, if_neg, if_true, if_false, Bool.false_eq_true, and_true, true_and, and_false, false_and, mI_pL, mK_pL, mN_pL, mR_pL, mL_pL, mL_pI, mI_pR, mL_pR, mK_pR, mN_pR, mR_pR, mI_pC, mL_pC, mK_pC, mN_pC, mR_pC]) <;> rfl)) | (apply stA; focus ((try simp (disch := omega) only [ofNat_nI, i_lit, mI_pI, mK_pI, mN_pI, mR_pI, nI_ltI, nI_eq, nI_add, nI_mul, mjIn_nI, nI_clamp, neg1_lt0, if_pos, if_neg, if_true, if_false, Bool.false_eq_true, and_true, true_and, and_false, false_and, mI_pL, mK_pL, mN_pL, mR_pL, mL_pL, mL_pI, mI_pR, mL_pR, mK_pR, mN_pR, mR_pR, mI_pC, mL_pC, mK_pC, mN_pC, mR_pC]) <;> rfl)))
    try simp (disch := omega) only [ofNat_nI, i_lit, mI_pI, mK_pI, mN_pI, mR_pI, nI_ltI, nI_eq, nI_add, nI_mul, mjIn_nI, nI_clamp, neg1_lt0, if_pos, if_neg, if_true, if_false, Bool.false_eq_true, and_true, true_and, and_false, false_and, mI_pL, mK_pL, mN_pL, mR_pL, mL_pL, mL_pI, mI_pR, mL_pR, mK_pR, mN_pR, mR_pR, mI_pC, mL_pC, mK_pC, mN_pC, mR_pC]
  | succ n ih =>
    intro j k o s h c hj hw hr
    have t := c.t
    obtain ⟨h1, e1, f1, r1⟩ := co_prod (lv := lv) E c (by omega)
    have t0 := t
    cases hF : prodF tl s with
    | inl f =>
      rw [hF] at r1
      have z1 : CRf h1 tb tl f := r1
      have t1 := z1.t
      rw [chF_inl hF]
      rcases hw with ⟨rfl, rfl, rfl⟩ | ⟨o', rfl, ho, j0⟩
      · have e2 := zf_38b (lv := lv) E z1 (nI 0) (nI 0)
        refine ⟨h1, ?_, f1, z1⟩
        rw [e_38_4 E]
        repeat (first | (apply ifT; focus ((try simp (disch := omega) only [t.k11, e1, t1.k11, e2, ofNat_nI, i_lit, mI_pI, mK_pI, mN_pI, mR_pI, nI_ltI, nI_eq, nI_add, nI_mul, mjIn_nI, nI_clamp, neg1_lt0, if_pos, if_neg, if_true, if_false, Bool.false_eq_true, and_true, true_and, and_false, false_and, mI_pL, mK_pL, mN_pL, mR_pL, mL_pL, mL_pI, mI_pR, mL_pR, mK_pR, mN_pR, mR_pR, mI_pC, mL_pC, mK_pC, mN_pC, mR_pC]) <;> first | omega | decide)) | (apply ifF; focus ((try simp (disch := omega) only [t.k11, e1, t1.k11, e2, ofNat_nI, i_lit, mI_pI, mK_pI, mN_pI, mR_pI, nI_ltI, nI_eq, nI_add, nI_mul, mjIn_nI, nI_clamp, neg1_lt0, if_pos, if_neg, if_true, if_false, Bool.false_eq_true, and_true, true_and, and_false, false_and, mI_pL, mK_pL, mN_pL, mR_pL, mL_pL, mL_pI, mI_pR, mL_pR, mK_pR, mN_pR, mR_pR, mI_pC, mL_pC, mK_pC, mN_pC, mR_pC]) <;> first | omega | decide)) | (apply stI; focus ((try simp (disch := omega) only [t.k11, e1, t1.k11, e2, ofNat_nI, i_lit, mI_pI, mK_pI, mN_pI, mR_pI, nI_ltI, nI_eq, nI_add, nI_mul, mjIn_nI, nI_clamp, neg1_lt0, if_pos, if_neg, if_true, if_false, Bool.false_eq_true, and_true, true_and, and_false, false_and, mI_pL, mK_pL, mN_pL, mR_pL, mL_pL, mL_pI, mI_pR, mL_pR, mK_pR, mN_pR, mR_pR, mI_pC, mL_pC, mK_pC, mN_pC, mR_pC]) <;> rfl)) | (apply stV; focus ((try simp (disch := omega) only [t.k11, e1, t1.k11, e2, ofNat_nI, i_lit, mI_pI, mK_pI, mN_pI, mR_pI, nI_ltI, nI_eq, nI_add, nI_mul, mjIn_nI, nI_clamp, neg1_lt0, if_pos, if_neg, if_true, if_false, Bool.false_eq_true, and_true, true_and, and_false, false_and, mI_pL, mK_pL, mN_pL, mR_pL, mL_pL, mL_pI, mI_pR, mL_pR, mK_pR, mN_pR, mR_pR, mI_pC, mL_pC, mK_pC, mN_pC, mR_pC]) <;> rfl)) | (apply stL; focus ((try simp (disch := omega) only [t.k11, e1, t1.k11, e2, ofNat_nI, i_lit, mI_pI, mK_pI, mN_pI, mR_pI, nI_ltI, nI_eq, nI_add, nI_mul, mjIn_nI, nI_clamp, neg1_lt0, if_pos, if_neg, if_true, if_false, Bool.false_eq_true, and_true, true_and, and_false, false_and, mI_pL, mK_pL, mN_pL, mR_pL, mL_pL, mL_pI, mI_pR, mL_pR, mK_pR, mN_pR, mR_pR, mI_pC, mL_pC, mK_pC, mN_pC, mR_pC]) <;> rfl)) | (apply stA; focus ((try simp (disch := omega) only [t.k11, e1, t1.k11, e2, ofNat_nI, i_lit, mI_pI, mK_pI, mN_pI, mR_pI, nI_ltI, nI_eq, nI_add, nI_mul, mjIn_nI, nI_clamp, neg1_lt0, if_pos, if_neg, if_true, if_false, Bool.false_eq_true, and_true, true_and, and_false, false_and, mI_pL, mK_pL, mN_pL, mR_pL, mL_pL, mL_pI, mI_pR, mL_pR, mK_pR, mN_pR, mR_pR, mI_pC, mL_pC, mK_pC, mN_pC, mR_pC]) <;> rfl)))
        try simp (disch := omega) only [t.k11, e1, t1.k11, e2, ofNat_nI, i_lit, mI_pI, mK_pI, mN_pI, mR_pI, nI_ltI, nI_eq, nI_add, nI_mul, mjIn_nI, nI_clamp, neg1_lt0, if_pos, if_neg, if_true, if_false, Bool.false_eq_true, and_true, true_and, and_false, false_and, mI_pL, mK_pL, mN_pL, mR_pL, mL_pL, mL_pI, mI_pR, mL_pR, mK_pR, mN_pR, mR_pR, mI_pC, mL_pC, mK_pC, mN_pC, mR_pC]
      · obtain ⟨h2, e2, f2, z2⟩ := zf_step (lv := lv) E z1 (-nI k)
        have e3 := zf_38b (lv := lv) E z2 (nI k) (nI j)
        refine ⟨h2, ?_, f1.tr f2, z2⟩
        rw [e_38_4 E]
        repeat (first | (apply ifT; focus ((try simp (disch := omega) only [t.k11, e1, t1.k11, e2, e3, ofNat_nI, i_lit, mI_pI, mK_pI, mN_pI, mR_pI, nI_ltI, nI_eq, nI_add, nI_mul, mjIn_nI, nI_clamp, neg1_lt0, if_pos, if_neg, if_true, if_false, Bool.false_eq_true, and_true, true_and, and_false, false_and, mI_pL, mK_pL, mN_pL, mR_pL, mL_pL, mL_pI, mI_pR, mL_pR, mK_pR, mN_pR, mR_pR, mI_pC, mL_pC, mK_pC, mN_pC, mR_pC]) <;> first | omega | decide)) | (apply ifF; focus ((try simp (disch := omega) only [t.k11, e1, t1.k11, e2, e3, ofNat_nI, i_lit, mI_pI, mK_pI, mN_pI, mR_pI, nI_ltI, nI_eq, nI_add, nI_mul, mjIn_nI, nI_clamp, neg1_lt0, if_pos, if_neg, if_true, if_false, Bool.false_eq_true, and_true, true_and, and_false, false_and, mI_pL, mK_pL, mN_pL, mR_pL, mL_pL, mL_pI, mI_pR, mL_pR, mK_pR, mN_pR, mR_pR, mI_pC, mL_pC, mK_pC, mN_pC, mR_pC]) <;> first | omega | decide)) | (apply stI; focus ((try simp (disch := omega) only [t.k11, e1, t1.k11, e2, e3, ofNat_nI, i_lit, mI_pI, mK_pI, mN_pI, mR_pI, nI_ltI, nI_eq, nI_add, nI_mul, mjIn_nI, nI_clamp, neg1_lt0, if_pos, if_neg, if_true, if_false, Bool.false_eq_true, and_true, true_and, and_false, false_and, mI_pL, mK_pL, mN_pL, mR_pL, mL_pL, mL_pI, mI_pR, mL_pR, mK_pR, mN_pR, mR_pR, mI_pC, mL_pC, mK_pC, mN_pC, mR_pC]) <;> rfl)) | (apply stV; focus ((try simp (disch := omega) only [t.k11, e1, t1.k11, e2, e3, ofNat_nI, i_lit, mI_pI, mK_pI, mN_pI, mR_pI, nI_ltI, nI_eq, nI_add, nI_mul, mjIn_nI, nI_clamp, neg1_lt0, if_pos, if_neg, if_true, if_false, Bool.false_eq_true, and_true, true_and, and_false, false_and, mI_pL, mK_pL, mN_pL, mR_pL, mL_pL, mL_pI, mI_pR, mL_pR, mK_pR, mN_pR, mR_pR, mI_pC, mL_pC, mK_pC, mN_pC, mR_pC]) <;> rfl)) | (apply stL; focus ((try simp (disch := omega) only [t.k11, e1, t1.k11, e2, e3, ofNat_nI, i_lit, mI_pI, mK_pI, mN_pI, mR_pI, nI_ltI, nI_eq, nI_add, nI_mul, mjIn_nI, nI_clamp, neg1_lt0, if_pos, if_neg, if_true, if_false, Bool.false_eq_true, and_true, true_and, and_false, false_and, mI_pL, mK_pL, mN_pL, mR_pL, mL_pL, mL_pI, mI_pR, mL_pR, mK_pR, mN_pR, mR_pR, mI_pC, mL_pC, mK_pC, mN_pC, mR_pC]) <;> rfl)) | (apply stA; focus ((try simp (disch := omega) only [t.k11, e1, t1.k11, e2, e3, ofNat_nI, i_lit, mI_pI, mK_pI, mN_pI, mR_pI, nI_ltI, nI_eq, nI_add, nI_mul, mjIn_nI, nI_clamp, neg1_lt0, if_pos, if_neg, if_true, if_false, Bool.false_eq_true, and_true, true_and, and_false, false_and, mI_pL, mK_pL, mN_pL, mR_pL, mL_pL, mL_pI, mI_pR, mL_pR, mK_pR, mN_pR, mR_pR, mI_pC, mL_pC, mK_pC, mN_pC, mR_pC]) <;> rfl)))
        try simp (disch := omega) only [t.k11, e1, t1.k11, e2, e3, ofNat_nI, i_lit, mI_pI, mK_pI, mN_pI, mR_pI, nI_ltI, nI_eq, nI_add, nI_mul, mjIn_nI, nI_clamp, neg1_lt0, if_pos, if_neg, if_true, if_false, Bool.false_eq_true, and_true, true_and, and_false, false_and, mI_pL, mK_pL, mN_pL, mR_pL, mL_pL, mL_pI, mI_pR, mL_pR, mK_pR, mN_pR, mR_pR, mI_pC, mL_pC, mK_pC, mN_pC, mR_pC]
    | inr s1 =>
      rw [hF] at r1
      have c1 : CRo h1 tb tl pre s1 := r1
      have t1 := c1.t
      have sh := prod_shr tl s s1 hF
      -- the sign that waited is laid down
      have emit : ∃ h2, ev 38 lv 4 [.ref 11, .int (nI k), .int (nI j)] [] h = ev 38 lv 25 [.ref 11, .int (nI k), .int (nI j)] [] h2 ∧ Fr FRd h h2 ∧ CRo h2 tb tl pre (s1.1, s1.2.1 ++ o.toList, s1.2.2) := by
        rcases hw with ⟨rfl, rfl, rfl⟩ | ⟨o', rfl, ho, j0⟩
        · refine ⟨h1, ?_, f1, ?_⟩
          · rw [e_38_4 E]
            repeat (first | (apply ifT; focus ((try simp (disch := omega) only [t.k11, e1, ofNat_nI, i_lit, mI_pI, mK_pI, mN_pI, mR_pI, nI_ltI, nI_eq, nI_add, nI_mul, mjIn_nI, nI_clamp, neg1_lt0, if_pos, if_neg, if_true, if_false, Bool.false_eq_true, and_true, true_and, and_false, false_and, mI_pL, mK_pL, mN_pL, mR_pL, mL_pL, mL_pI, mI_pR, mL_pR, mK_pR, mN_pR, mR_pR, mI_pC, mL_pC, mK_pC, mN_pC, mR_pC]) <;> first | omega | decide)) | (apply ifF; focus ((try simp (disch := omega) only [t.k11, e1, ofNat_nI, i_lit, mI_pI, mK_pI, mN_pI, mR_pI, nI_ltI, nI_eq, nI_add, nI_mul, mjIn_nI, nI_clamp, neg1_lt0, if_pos, if_neg, if_true, if_false, Bool.false_eq_true, and_true, true_and, and_false, false_and, mI_pL, mK_pL, mN_pL, mR_pL, mL_pL, mL_pI, mI_pR, mL_pR, mK_pR, mN_pR, mR_pR, mI_pC, mL_pC, mK_pC, mN_pC, mR_pC]) <;> first | omega | decide)) | (apply stI; focus ((try simp (disch := omega) only [t.k11, e1, ofNat_nI, i_lit, mI_pI, mK_pI, mN_pI, mR_pI, nI_ltI, nI_eq, nI_add, nI_mul, mjIn_nI, nI_clamp, neg1_lt0, if_pos, if_neg, if_true, if_false, Bool.false_eq_true, and_true, true_and, and_false, false_and, mI_pL, mK_pL, mN_pL, mR_pL, mL_pL, mL_pI, mI_pR, mL_pR, mK_pR, mN_pR, mR_pR, mI_pC, mL_pC, mK_pC, mN_pC, mR_pC]) <;> rfl)) | (apply stV; focus ((try simp (disch := omega) only [t.k11, e1, ofNat_nI, i_lit, mI_pI, mK_pI, mN_pI, mR_pI, nI_ltI, nI_eq, nI_add, nI_mul, mjIn_nI, nI_clamp, neg1_lt0, if_pos, if_neg, if_true, if_false, Bool.false_eq_true, and_true, true_and, and_false, false_and, mI_pL, mK_pL, mN_pL, mR_pL, mL_pL, mL_pI, mI_pR, mL_pR, mK_pR, mN_pR, mR_pR, mI_pC, mL_pC, mK_pC, mN_pC, mR_pC]) <;> rfl)) | (apply stL; focus ((try simp (disch := omega) only [t.k11, e1, ofNat_nI, i_lit, mI_pI, mK_pI, mN_pI, mR_pI, nI_ltI, nI_eq, nI_add, nI_mul, mjIn_nI, nI_clamp, neg1_lt0, if_pos, if_neg, if_true, if_false, Bool.false_eq_true, and_true, true_and, and_false, false_and, mI_pL, mK_pL, mN_pL, mR_pL, mL_pL, mL_pI, mI_pR, mL_pR, mK_pR, mN_pR, mR_pR, mI_pC, mL_pC, mK_pC, mN_pC, mR_pC]) <;> rfl)) | (apply stA; focus ((try simp (disch := omega) only [t.k11, e1, ofNat_nI, i_lit, mI_pI, mK_pI, mN_pI, mR_pI, nI_ltI, nI_eq, nI_add, nI_mul, mjIn_nI, nI_clamp, neg1_lt0, if_pos, if_neg, if_true, if_false, Bool.false_eq_true, and_true, true_and, and_false, false_and, mI_pL, mK_pL, mN_pL, mR_pL, mL_pL, mL_pI, mI_pR, mL_pR, mK_pR, mN_pR, mR_pR, mI_pC, mL_pC, mK_pC, mN_pC, mR_pC]) <;> rfl)))
            try simp (disch := omega) only [t.k11, e1, ofNat_nI, i_lit, mI_pI, mK_pI, mN_pI, mR_pI, nI_ltI, nI_eq, nI_add, nI_mul, mjIn_nI, nI_clamp, neg1_lt0, if_pos, if_neg, if_true, if_false, Bool.false_eq_true, and_true, true_and, and_false, false_and, mI_pL, mK_pL, mN_pL, mR_pL, mL_pL, mL_pI, mI_pR, mL_pR, mK_pR, mN_pR, mR_pR, mI_pC, mL_pC, mK_pC, mN_pC, mR_pC]
          · show CRo h1 tb tl pre (s1.1, s1.2.1 ++ [], s1.2.2)
            rw [List.append_nil]; exact c1
        · have l1 : (some o').toList.length = 1 := rfl
          obtain ⟨h2, e2, f2, c2⟩ := co_step (lv := lv) E c1 o' (by omega)
          refine ⟨h2, ?_, f1.tr f2, c2⟩
          rw [← opA_step ho] at e2
          rw [e_38_4 E]
          repeat (first | (apply ifT; focus ((try simp (disch := omega) only [t.k11, e1, t1.k11, e2, ofNat_nI, i_lit, mI_pI, mK_pI, mN_pI, mR_pI, nI_ltI, nI_eq, nI_add, nI_mul, mjIn_nI, nI_clamp, neg1_lt0, if_pos, if_neg, if_true, if_false, Bool.false_eq_true, and_true, true_and, and_false, false_and, mI_pL, mK_pL, mN_pL, mR_pL, mL_pL, mL_pI, mI_pR, mL_pR, mK_pR, mN_pR, mR_pR, mI_pC, mL_pC, mK_pC, mN_pC, mR_pC]) <;> first | omega | decide)) | (apply ifF; focus ((try simp (disch := omega) only [t.k11, e1, t1.k11, e2, ofNat_nI, i_lit, mI_pI, mK_pI, mN_pI, mR_pI, nI_ltI, nI_eq, nI_add, nI_mul, mjIn_nI, nI_clamp, neg1_lt0, if_pos, if_neg, if_true, if_false, Bool.false_eq_true, and_true, true_and, and_false, false_and, mI_pL, mK_pL, mN_pL, mR_pL, mL_pL, mL_pI, mI_pR, mL_pR, mK_pR, mN_pR, mR_pR, mI_pC, mL_pC, mK_pC, mN_pC, mR_pC]) <;> first | omega | decide)) | (apply stI; focus ((try simp (disch := omega) only [t.k11, e1, t1.k11, e2, ofNat_nI, i_lit, mI_pI, mK_pI, mN_pI, mR_pI, nI_ltI, nI_eq, nI_add, nI_mul, mjIn_nI, nI_clamp, neg1_lt0, if_pos, if_neg, if_true, if_false, Bool.false_eq_true, and_true, true_and, and_false, false_and, mI_pL, mK_pL, mN_pL, mR_pL, mL_pL, mL_pI, mI_pR, mL_pR, mK_pR, mN_pR, mR_pR, mI_pC, mL_pC, mK_pC, mN_pC, mR_pC]) <;> rfl)) | (apply stV; focus ((try simp (disch := omega) only [t.k11, e1, t1.k11, e2, ofNat_nI, i_lit, mI_pI, mK_pI, mN_pI, mR_pI, nI_ltI, nI_eq, nI_add, nI_mul, mjIn_nI, nI_clamp, neg1_lt0, if_pos, if_neg, if_true, if_false, Bool.false_eq_true, and_true, true_and, and_false, false_and, mI_pL, mK_pL, mN_pL, mR_pL, mL_pL, mL_pI, mI_pR, mL_pR, mK_pR, mN_pR, mR_pR, mI_pC, mL_pC, mK_pC, mN_pC, mR_pC]) <;> rfl)) | (apply stL; focus ((try simp (disch := omega) only [t.k11, e1, t1.k11, e2, ofNat_nI, i_lit, mI_pI, mK_pI, mN_pI, mR_pI, nI_ltI, nI_eq, nI_add, nI_mul, mjIn_nI, nI_clamp, neg1_lt0, if_pos, if_neg, if_true, if_false, Bool.false_eq_true, and_true, true_and, and_false, false_and, mI_pL, mK_pL, mN_pL, mR_pL, mL_pL, mL_pI, mI_pR, mL_pR, mK_pR, mN_pR, mR_pR, mI_pC, mL_pC, mK_pC, mN_pC, mR_pC]) <;> rfl)) | (apply stA; focus ((try simp (disch := omega) only [t.k11, e1, t1.k11, e2, ofNat_nI, i_lit, mI_pI, mK_pI, mN_pI, mR_pI, nI_ltI, nI_eq, nI_add, nI_mul, mjIn_nI, nI_clamp, neg1_lt0, if_pos, if_neg, if_true, if_false, Bool.false_eq_true, and_true, true_and, and_false, false_and, mI_pL, mK_pL, mN_pL, mR_pL, mL_pL, mL_pI, mI_pR, mL_pR, mK_pR, mN_pR, mR_pR, mI_pC, mL_pC, mK_pC, mN_pC, mR_pC]) <;> rfl)))
          try simp (disch := omega) only [t.k11, e1, t1.k11, e2, ofNat_nI, i_lit, mI_pI, mK_pI, mN_pI, mR_pI, nI_ltI, nI_eq, nI_add, nI_mul, mjIn_nI, nI_clamp, neg1_lt0, if_pos, if_neg, if_true, if_false, Bool.false_eq_true, and_true, true_and, and_false, false_and, mI_pL, mK_pL, mN_pL, mR_pL, mL_pL, mL_pI, mI_pR, mL_pR, mK_pR, mN_pR, mR_pR, mI_pC, mL_pC, mK_pC, mN_pC, mR_pC]
      obtain ⟨h2, e2, f2, c2⟩ := emit
      rw [e2]
      have t2 := c2.t
      have pk := co_peek (lv := lv) E c2
      have kl := (kd_lt c1.ok).2
      have pk' : mjCall ev 83 lv [.ref 5] h2 = some (.int (nI (kd s1.1)), h2) := pk
      have ol : (s1.2.1 ++ o.toList).length = s1.2.1.length + o.toList.length := List.length_append
      by_cases y43 : kd s1.1 = 43
      · have eo : opA (kd s1.1) = some 2 := by rw [y43]; rfl
        rw [chF_some hF eo]
        have tn := tail_len (ts := s1.1) (by omega)
        obtain ⟨h3, e3, f3, c3⟩ := co_take (lv := lv) (k := 43) E c2 (by omega) y43
        have t3 := c3.t
        obtain ⟨h4, e4, f4, r4⟩ := ih (j + 1) 43 (some 2) (s1.1.tail, s1.2.1 ++ o.toList, s1.2.2) h3 c3 (by omega) (Or.inr ⟨2, rfl, rfl, by omega⟩) (by
          show pre.length + (s1.2.1 ++ o.toList).length + s1.1.tail.length + 1 ≤ 400
          rw [ol]; omega)
        refine ⟨h4, ?_, (f2.tr f3).tr f4, r4⟩
        rw [y43] at pk'
        rw [e_38_25 E]
        repeat (first | (apply ifT; focus ((try simp (disch := omega) only [t2.k11, t2.r11_0, t2.k5, pk',  e3, e4, ofNat_nI, i_lit, mI_pI, mK_pI, mN_pI, mR_pI, nI_ltI, nI_eq, nI_add, nI_mul, mjIn_nI, nI_clamp, neg1_lt0, if_pos, if_neg, if_true, if_false, Bool.false_eq_true, and_true, true_and, and_false, false_and, mI_pL, mK_pL, mN_pL, mR_pL, mL_pL, mL_pI, mI_pR, mL_pR, mK_pR, mN_pR, mR_pR, mI_pC, mL_pC, mK_pC, mN_pC, mR_pC]) <;> first | omega | decide)) | (apply ifF; focus ((try simp (disch := omega) only [t2.k11, t2.r11_0, t2.k5, pk',  e3, e4, ofNat_nI, i_lit, mI_pI, mK_pI, mN_pI, mR_pI, nI_ltI, nI_eq, nI_add, nI_mul, mjIn_nI, nI_clamp, neg1_lt0, if_pos, if_neg, if_true, if_false, Bool.false_eq_true, and_true, true_and, and_false, false_and, mI_pL, mK_pL, mN_pL, mR_pL, mL_pL, mL_pI, mI_pR, mL_pR, mK_pR, mN_pR, mR_pR, mI_pC, mL_pC, mK_pC, mN_pC, mR_pC]) <;> first | omega | decide)) | (apply stI; focus ((try simp (disch := omega) only [t2.k11, t2.r11_0, t2.k5, pk',  e3, e4, ofNat_nI, i_lit, mI_pI, mK_pI, mN_pI, mR_pI, nI_ltI, nI_eq, nI_add, nI_mul, mjIn_nI, nI_clamp, neg1_lt0, if_pos, if_neg, if_true, if_false, Bool.false_eq_true, and_true, true_and, and_false, false_and, mI_pL, mK_pL, mN_pL, mR_pL, mL_pL, mL_pI, mI_pR, mL_pR, mK_pR, mN_pR, mR_pR, mI_pC, mL_pC, mK_pC, mN_pC, mR_pC]) <;> rfl)) | (apply stV; focus ((try simp (disch := omega) only [t2.k11, t2.r11_0, t2.k5, pk',  e3, e4, ofNat_nI, i_lit, mI_pI, mK_pI, mN_pI, mR_pI, nI_ltI, nI_eq, nI_add, nI_mul, mjIn_nI, nI_clamp, neg1_lt0, if_pos, if_neg, if_true, if_false, Bool.false_eq_true, and_true, true_and, and_false, false_and, mI_pL, mK_pL, mN_pL, mR_pL, mL_pL, mL_pI, mI_pR, mL_pR, mK_pR, mN_pR, mR_pR, mI_pC, mL_pC, mK_pC, mN_pC, mR_pC]) <;> rfl)) | (apply stL; focus ((try simp (disch := omega) only [t2.k11, t2.r11_0, t2.k5, pk',  e3, e4, ofNat_nI, i_lit, mI_pI, mK_pI, mN_pI, mR_pI, nI_ltI, nI_eq, nI_add, nI_mul, mjIn_nI, nI_clamp, neg1_lt0, if_pos, if_neg, if_true, if_false, Bool.false_eq_true, and_true, true_and, and_false, false_and, mI_pL, mK_pL, mN_pL, mR_pL, mL_pL, mL_pI, mI_pR, mL_pR, mK_pR, mN_pR, mR_pR, mI_pC, mL_pC, mK_pC, mN_pC, mR_pC]) <;> rfl)) | (apply stA; focus ((try simp (disch := omega) only [t2.k11, t2.r11_0, t2.k5, pk',  e3, e4, ofNat_nI, i_lit, mI_pI, mK_pI, mN_pI, mR_pI, nI_ltI, nI_eq, nI_add, nI_mul, mjIn_nI, nI_clamp, neg1_lt0, if_pos, if_neg, if_true, if_false, Bool.false_eq_true, and_true, true_and, and_false, false_and, mI_pL, mK_pL, mN_pL, mR_pL, mL_pL, mL_pI, mI_pR, mL_pR, mK_pR, mN_pR, mR_pR, mI_pC, mL_pC, mK_pC, mN_pC, mR_pC]) <;> rfl)))
        try simp (disch := omega) only [t2.k11, t2.r11_0, t2.k5, pk',  e3, e4, ofNat_nI, i_lit, mI_pI, mK_pI, mN_pI, mR_pI, nI_ltI, nI_eq, nI_add, nI_mul, mjIn_nI, nI_clamp, neg1_lt0, if_pos, if_neg, if_true, if_false, Bool.false_eq_true, and_true, true_and, and_false, false_and, mI_pL, mK_pL, mN_pL, mR_pL, mL_pL, mL_pI, mI_pR, mL_pR, mK_pR, mN_pR, mR_pR, mI_pC, mL_pC, mK_pC, mN_pC, mR_pC]
      · have q43 := co_not (lv := lv) (k := 43) E c2 (by omega) y43
        by_cases y45 : kd s1.1 = 45
        · have eo : opA (kd s1.1) = some 3 := by rw [y45]; rfl
          rw [chF_some hF eo]
          have tn := tail_len (ts := s1.1) (by omega)
          obtain ⟨h3, e3, f3, c3⟩ := co_take (lv := lv) (k := 45) E c2 (by omega) y45
          have t3 := c3.t
          obtain ⟨h4, e4, f4, r4⟩ := ih (j + 1) 45 (some 3) (s1.1.tail, s1.2.1 ++ o.toList, s1.2.2) h3 c3 (by omega) (Or.inr ⟨3, rfl, rfl, by omega⟩) (by
            show pre.length + (s1.2.1 ++ o.toList).length + s1.1.tail.length + 1 ≤ 400
            rw [ol]; omega)
          refine ⟨h4, ?_, (f2.tr f3).tr f4, r4⟩
          rw [y45] at pk'
          rw [e_38_25 E]
          repeat (first | (apply ifT; focus ((try simp (disch := omega) only [t2.k11, t2.r11_0, t2.k5, pk', q43,  e3, e4, ofNat_nI, i_lit, mI_pI, mK_pI, mN_pI, mR_pI, nI_ltI, nI_eq, nI_add, nI_mul, mjIn_nI, nI_clamp, neg1_lt0, if_pos, if_neg, if_true, if_false, Bool.false_eq_true, and_true, true_and, and_false, false_and, mI_pL, mK_pL, mN_pL, mR_pL, mL_pL, mL_pI, mI_pR, mL_pR, mK_pR, mN_pR, mR_pR, mI_pC, mL_pC, mK_pC, mN_pC, mR_pC]) <;> first | omega | decide)) | (apply ifF; focus ((try simp (disch := omega) only [t2.k11, t2.r11_0, t2.k5, pk', q43,  e3, e4, ofNat_nI, i_lit, mI_pI, mK_pI, mN_pI, mR_pI, nI_ltI, nI_eq, nI_add, nI_mul, mjIn_nI, nI_clamp, neg1_lt0, if_pos, if_neg, if_true, if_false, Bool.false_eq_true, and_true, true_and, and_false, false_and, mI_pL, mK_pL, mN_pL, mR_pL, mL_pL, mL_pI, mI_pR, mL_pR, mK_pR, mN_pR, mR_pR, mI_pC, mL_pC, mK_pC, mN_pC, mR_pC]) <;> first | omega | decide)) | (apply stI; focus ((try simp (disch := omega) only [t2.k11, t2.r11_0, t2.k5, pk', q43,  e3, e4, ofNat_nI, i_lit, mI_pI, mK_pI, mN_pI, mR_pI, nI_ltI, nI_eq, nI_add, nI_mul, mjIn_nI, nI_clamp, neg1_lt0, if_pos, if_neg, if_true, if_false, Bool.false_eq_true, and_true, true_and, and_false, false_and, mI_pL, mK_pL, mN_pL, mR_pL, mL_pL, mL_pI, mI_pR, mL_pR, mK_pR, mN_pR, mR_pR, mI_pC, mL_pC, mK_pC, mN_pC, mR_pC]) <;> rfl)) | (apply stV; focus ((try simp (disch := omega) only [t2.k11, t2.r11_0, t2.k5, pk', q43,  e3, e4, ofNat_nI, i_lit, mI_pI, mK_pI, mN_pI, mR_pI, nI_ltI, nI_eq, nI_add, nI_mul, mjIn_nI, nI_clamp, neg1_lt0, if_pos, if_neg, if_true, if_false, Bool.false_eq_true, and_true, true_and, and_false, false_and, mI_pL, mK_pL, mN_pL, mR_pL, mL_pL, mL_pI, mI_pR, mL_pR, mK_pR, mN_pR, mR_pR, mI_pC, mL_pC, mK_pC, mN_pC, mR_pC]) <;> rfl)) | (apply stL; focus ((try simp (disch := omega) only [t2.k11, t2.r11_0, t2.k5, pk', q43,  e3, e4, ofNat_nI, i_lit, mI_pI, mK_pI, mN_pI, mR_pI, nI_ltI, nI_eq, nI_add, nI_mul, mjIn_nI, nI_clamp, neg1_lt0, if_pos, if_neg, if_true, if_false, Bool.false_eq_true, and_true, true_and, and_false, false_and, mI_pL, mK_pL, mN_pL, mR_pL, mL_pL, mL_pI, mI_pR, mL_pR, mK_pR, mN_pR, mR_pR, mI_pC, mL_pC, mK_pC, mN_pC, mR_pC]) <;> rfl)) | (apply stA; focus ((try simp (disch := omega) only [t2.k11, t2.r11_0, t2.k5, pk', q43,  e3, e4, ofNat_nI, i_lit, mI_pI, mK_pI, mN_pI, mR_pI, nI_ltI, nI_eq, nI_add, nI_mul, mjIn_nI, nI_clamp, neg1_lt0, if_pos, if_neg, if_true, if_false, Bool.false_eq_true, and_true, true_and, and_false, false_and, mI_pL, mK_pL, mN_pL, mR_pL, mL_pL, mL_pI, mI_pR, mL_pR, mK_pR, mN_pR, mR_pR, mI_pC, mL_pC, mK_pC, mN_pC, mR_pC]) <;> rfl)))
          try simp (disch := omega) only [t2.k11, t2.r11_0, t2.k5, pk', q43,  e3, e4, ofNat_nI, i_lit, mI_pI, mK_pI, mN_pI, mR_pI, nI_ltI, nI_eq, nI_add, nI_mul, mjIn_nI, nI_clamp, neg1_lt0, if_pos, if_neg, if_true, if_false, Bool.false_eq_true, and_true, true_and, and_false, false_and, mI_pL, mK_pL, mN_pL, mR_pL, mL_pL, mL_pI, mI_pR, mL_pR, mK_pR, mN_pR, mR_pR, mI_pC, mL_pC, mK_pC, mN_pC, mR_pC]
        · have q45 := co_not (lv := lv) (k := 45) E c2 (by omega) y45
          have eo : opA (kd s1.1) = none := by unfold opA; rw [if_neg y43, if_neg y45]
          rw [chF_none hF eo]
          refine ⟨h2, ?_, f2, c2⟩
          rw [e_38_25 E]
          repeat (first | (apply ifT; focus ((try simp (disch := omega) only [t2.k11, t2.r11_0, t2.k5, pk', q43, q45, ofNat_nI, i_lit, mI_pI, mK_pI, mN_pI, mR_pI, nI_ltI, nI_eq, nI_add, nI_mul, mjIn_nI, nI_clamp, neg1_lt0, if_pos, if_neg, if_true, if_false, Bool.false_eq_true, and_true, true_and, and_false, false_and, mI_pL, mK_pL, mN_pL, mR_pL, mL_pL, mL_pI, mI_pR, mL_pR, mK_pR, mN_pR, mR_pR, mI_pC, mL_pC, mK_pC, mN_pC, mR_pC]) <;> first | omega | decide)) | (apply ifF; focus ((try simp (disch := omega) only [t2.k11, t2.r11_0, t2.k5, pk', q43, q45, ofNat_nI, i_lit, mI_pI, mK_pI, mN_pI, mR_pI, nI_ltI, nI_eq, nI_add, nI_mul, mjIn_nI, nI_clamp, neg1_lt0, if_pos, if_neg, if_true, if_false, Bool.false_eq_true, and_true, true_and, and_false, false_and, mI_pL, mK_pL, mN_pL, mR_pL, mL_pL, mL_pI, mI_pR, mL_pR, mK_pR, mN_pR, mR_pR, mI_pC, mL_pC, mK_pC, mN_pC, mR_pC]) <;> first | omega | decide)) | (apply stI; focus ((try simp (disch := omega) only [t2.k11, t2.r11_0, t2.k5, pk', q43, q45, ofNat_nI, i_lit, mI_pI, mK_pI, mN_pI, mR_pI, nI_ltI, nI_eq, nI_add, nI_mul, mjIn_nI, nI_clamp, neg1_lt0, if_pos, if_neg, if_true, if_false, Bool.false_eq_true, and_true, true_and, and_false, false_and, mI_pL, mK_pL, mN_pL, mR_pL, mL_pL, mL_pI, mI_pR, mL_pR, mK_pR, mN_pR, mR_pR, mI_pC, mL_pC, mK_pC, mN_pC, mR_pC]) <;> rfl)) | (apply stV; focus ((try simp (disch := omega) only [t2.k11, t2.r11_0, t2.k5, pk', q43, q45, ofNat_nI, i_lit, mI_pI, mK_pI, mN_pI, mR_pI, nI_ltI, nI_eq, nI_add, nI_mul, mjIn_nI, nI_clamp, neg1_lt0, if_pos, if_neg, if_true, if_false, Bool.false_eq_true, and_true, true_and, and_false, false_and, mI_pL, mK_pL, mN_pL, mR_pL, mL_pL, mL_pI, mI_pR, mL_pR, mK_pR, mN_pR, mR_pR, mI_pC, mL_pC, mK_pC, mN_pC, mR_pC]) <;> rfl)) | (apply stL; focus ((try simp (disch := omega) only [t2.k11, t2.r11_0, t2.k5, pk', q43, q45, ofNat_nI, i_lit, mI_pI, mK_pI, mN_pI, mR_pI, nI_ltI, nI_eq, nI_add, nI_mul, mjIn_nI, nI_clamp, neg1_lt0, if_pos, if_neg, if_true, if_false, Bool.false_eq_true, and_true, true_and, and_false, false_and, mI_pL, mK_pL, mN_pL, mR_pL, mL_pL, mL_pI, mI_pR, mL_pR, mK_pR, mN_pR, mR_pR, mI_pC, mL_pC, mK_pC, mN_pC, mR_pC]) <;> rfl)) | (apply stA; focus ((try simp (disch := omega) only [t2.k11, t2.r11_0, t2.k5, pk', q43, q45, ofNat_nI, i_lit, mI_pI, mK_pI, mN_pI, mR_pI, nI_ltI, nI_eq, nI_add, nI_mul, mjIn_nI, nI_clamp, neg1_lt0, if_pos, if_neg, if_true, if_false, Bool.false_eq_true, and_true, true_and, and_false, false_and, mI_pL, mK_pL, mN_pL, mR_pL, mL_pL, mL_pI, mI_pR, mL_pR, mK_pR, mN_pR, mR_pR, mI_pC, mL_pC, mK_pC, mN_pC, mR_pC]) <;> rfl)))
          try simp (disch := omega) only [t2.k11, t2.r11_0, t2.k5, pk', q43, q45, ofNat_nI, i_lit, mI_pI, mK_pI, mN_pI, mR_pI, nI_ltI, nI_eq, nI_add, nI_mul, mjIn_nI, nI_clamp, neg1_lt0, if_pos, if_neg, if_true, if_false, Bool.false_eq_true, and_true, true_and, and_false, false_and, mI_pL, mK_pL, mN_pL, mR_pL, mL_pL, mL_pI, mI_pR, mL_pR, mK_pR, mN_pR, mR_pR, mI_pC, mL_pC, mK_pC, mN_pC, mR_pC]
theorem co_sum (E : mjFix ev) {h : mjS} {s : rst} (c : CRo h tb tl pre s) (hr : pre.length + s.2.1.length + s.1.length ≤ 400) : ∃ h', mjCall ev 38 lv [.ref 11] h = some (.ref 0, h') ∧ Fr FRd h h' ∧ CRr h' tb tl pre (sumF tl s) := by
  obtain ⟨h', e, r⟩ := co_ch38 (lv := lv) E 400 0 0 none s h c (by omega) (Or.inl ⟨rfl, rfl, rfl⟩) hr
  refine ⟨h', ?_, r⟩
  show ev 38 lv 0 [.ref 11, mjD, mjD] [] h = _
  rw [e_38_0 E]
  exact e
end CH
