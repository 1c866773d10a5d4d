/-! comparisons, facts, tests: what they say, and the class's reader of them -/
def opC (k : Nat) : Option Nat := if k = 60 then some 6 else if k = 4 then some 7 else if k = 61 then some 8 else if k = 5 then some 9 else if k = 62 then some 10 else none
def signF (tl : Nat) (s : rst) : rrs := if opC (kd s.1) = none then flt tl s.1 0 else if 60 ≤ s.2.2 then flt tl s.1 3 else .inr (s.1.tail, s.2.1, s.2.2 + 1)
/-- one behind another -/
def thn (r : rrs) (G : rst → rrs) : rrs := match r with
  | .inl f => .inl f
  | .inr s => G s
def cmpF (tl : Nat) (s : rst) : rrs := thn (sumF tl s) fun s1 => thn (signF tl s1) fun s2 => thn (sumF tl s2) fun s3 => .inr (s3.1, s3.2.1 ++ [(opC (kd s1.1)).getD 0], s3.2.2)
def andF (F : rst → rrs) : Nat → rst → rrs
  | 0, s => .inr s
  | n + 1, s => if kd s.1 = 133 then thn (F (s.1.tail, s.2)) fun s1 => andF F n (s1.1, s1.2.1 ++ [12], s1.2.2) else .inr s
def orE (b : Bool) (s : rst) : rst := (s.1, s.2.1 ++ (if b = true then [13] else []), s.2.2)
def orF (F : rst → rrs) : Nat → Bool → rst → rrs
  | 0, _, s => .inr s
  | n + 1, b, s => thn (F s) fun s1 => thn (andF F 399 s1) fun s2 => if kd s2.1 = 132 then orF F n true ((orE b s2).1.tail, (orE b s2).2) else .inr (orE b s2)
def factF (tl : Nat) : Nat → rst → rrs
  | 0, s => if kd s.1 = 134 ∨ kd s.1 = 91 then flt tl s.1 2 else cmpF tl s
  | k + 1, s => if kd s.1 = 134 then thn (factF tl k (s.1.tail, s.2)) fun s1 => .inr (s1.1, s1.2.1 ++ [11], s1.2.2) else if kd s.1 = 91 then thn (orF (factF tl k) 400 false (s.1.tail, s.2)) fun s1 => if kd s1.1 = 93 then .inr (s1.1.tail, s1.2) else flt tl s1.1 0 else cmpF tl s
theorem thn_inr {r : rrs} {G : rst → rrs} {s' : rst} (h : thn r G = .inr s') : ∃ s1, r = .inr s1 ∧ G s1 = .inr s' := by
  cases r with
  | inl f => cases h
  | inr s1 => exact ⟨s1, rfl, h⟩
theorem opC_step {k o : Nat} (h : opC k = some o) : -nI k = stepO o := by
  unfold opC at h
  split at h
  · rename_i e; cases h; rw [e]; rfl
  · split at h
    · rename_i e; cases h; rw [e]; rfl
    · split at h
      · rename_i e; cases h; rw [e]; rfl
      · split at h
        · rename_i e; cases h; rw [e]; rfl
        · split at h
          · rename_i e; cases h; rw [e]; rfl
          · cases h
theorem opC_1 : opC 1 = none := by decide
theorem sign_shr {tl : Nat} {s s' : rst} (h : signF tl s = .inr s') : s'.2.1 = s.2.1 ∧ s'.1.length + 1 = s.1.length ∧ opC (kd s.1) ≠ none := by
  unfold signF at h
  by_cases y : opC (kd s.1) = none
  · rw [if_pos y] at h; cases h
  · rw [if_neg y] at h
    by_cases y2 : 60 ≤ s.2.2
    · rw [if_pos y2] at h; cases h
    · rw [if_neg y2] at h
      cases h
      exact ⟨rfl, tail_len (fun z => y (by rw [z]; exact opC_1)), y⟩
theorem cmp_shr (tl : Nat) : Shr (cmpF tl) := by
  intro s s' e
  obtain ⟨s1, e1, e⟩ := thn_inr e
  obtain ⟨s2, e2, e⟩ := thn_inr e
  obtain ⟨s3, e3, e⟩ := thn_inr e
  cases e
  have a := sum_shr tl s s1 e1
  have b := sign_shr e2
  have c := sum_shr tl s2 s3 e3
  show (s3.2.1 ++ [(opC (kd s1.1)).getD 0]).length + s3.1.length ≤ _ ∧ s3.1.length < _
  rw [List.length_append, List.length_singleton]
  have b1 := congrArg List.length b.1
  omega
theorem and_shr {F : rst → rrs} (hF : Shr F) : ∀ n s s', andF F n s = .inr s' → s'.2.1.length + s'.1.length ≤ s.2.1.length + s.1.length ∧ s'.1.length ≤ s.1.length := by
  intro n
  induction n with
  | zero => intro s s' e; cases e; exact ⟨Nat.le_refl _, Nat.le_refl _⟩
  | succ n ih =>
    intro s s' e
    have e : (if kd s.1 = 133 then thn (F (s.1.tail, s.2)) fun s1 => andF F n (s1.1, s1.2.1 ++ [12], s1.2.2) else .inr s) = .inr s' := e
    by_cases y : kd s.1 = 133
    · rw [if_pos y] at e
      obtain ⟨s1, e1, e⟩ := thn_inr e
      have a := hF _ _ e1
      have b := ih _ _ e
      have b1 : s'.2.1.length + s'.1.length ≤ (s1.2.1 ++ [12]).length + s1.1.length := b.1
      have b2 : s'.1.length ≤ s1.1.length := b.2
      have a1 : s1.2.1.length + s1.1.length ≤ s.2.1.length + s.1.tail.length := a.1
      have a2 : s1.1.length < s.1.tail.length := a.2
      have tn := tail_len (ts := s.1) (by omega)
      rw [List.length_append, List.length_singleton] at b1
      omega
    · rw [if_neg y] at e; cases e; exact ⟨Nat.le_refl _, Nat.le_refl _⟩
theorem or_shr {F : rst → rrs} (hF : Shr F) : ∀ n b s s', orF F n b s = .inr s' → s'.2.1.length + s'.1.length ≤ s.2.1.length + s.1.length + (if b = true then 1 else 0) ∧ (0 < n → s'.1.length < s.1.length) ∧ s'.1.length ≤ s.1.length := by
  intro n
  induction n with
  | zero => intro b s s' e; cases e; exact ⟨by omega, fun z => absurd z (Nat.lt_irrefl _), Nat.le_refl _⟩
  | succ n ih =>
    intro b s s' e
    obtain ⟨s1, e1, e⟩ := thn_inr e
    obtain ⟨s2, e2, e⟩ := thn_inr e
    have a := hF _ _ e1
    have c := and_shr hF _ _ _ e2
    have ol : (orE b s2).2.1.length = s2.2.1.length + (if b = true then 1 else 0) := by
      show (s2.2.1 ++ (if b = true then [13] else [])).length = _
      rw [List.length_append]
      cases b <;> rfl
    have o1 : (orE b s2).1 = s2.1 := rfl
    by_cases y : kd s2.1 = 132
    · rw [if_pos y] at e
      have d := ih _ _ _ e
      have d1 : s'.2.1.length + s'.1.length ≤ (orE b s2).2.1.length + (orE b s2).1.tail.length + 1 := d.1
      have d2 : s'.1.length ≤ (orE b s2).1.tail.length := d.2.2
      have tn := tail_len (ts := s2.1) (by omega)
      rw [o1] at d1 d2
      rw [ol] at d1
      exact ⟨by omega, fun _ => by omega, by omega⟩
    · rw [if_neg y] at e
      cases e
      rw [ol, o1]
      exact ⟨by omega, fun _ => by omega, by omega⟩
theorem fact_shr (tl : Nat) : ∀ k, Shr (factF tl k) := by
  intro k
  induction k with
  | zero =>
    intro s s' e
    have e : (if kd s.1 = 134 ∨ kd s.1 = 91 then flt tl s.1 2 else cmpF tl s) = .inr s' := e
    by_cases y : kd s.1 = 134 ∨ kd s.1 = 91
    · rw [if_pos y] at e; cases e
    · rw [if_neg y] at e; exact cmp_shr tl s s' e
  | succ k ih =>
    intro s s' e
    have e : (if kd s.1 = 134 then thn (factF tl k (s.1.tail, s.2)) fun s1 => .inr (s1.1, s1.2.1 ++ [11], s1.2.2) else if kd s.1 = 91 then thn (orF (factF tl k) 400 false (s.1.tail, s.2)) fun s1 => if kd s1.1 = 93 then .inr (s1.1.tail, s1.2) else flt tl s1.1 0 else cmpF tl s) = .inr s' := e
    by_cases y : kd s.1 = 134
    · rw [if_pos y] at e
      obtain ⟨s1, e1, e⟩ := thn_inr e
      cases e
      have a := ih _ _ e1
      have a1 : s1.2.1.length + s1.1.length ≤ s.2.1.length + s.1.tail.length := a.1
      have a2 : s1.1.length < s.1.tail.length := a.2
      have tn := tail_len (ts := s.1) (by omega)
      show (s1.2.1 ++ [11]).length + s1.1.length ≤ _ ∧ s1.1.length < _
      rw [List.length_append, List.length_singleton]
      omega
    · rw [if_neg y] at e
      by_cases y2 : kd s.1 = 91
      · rw [if_pos y2] at e
        obtain ⟨s1, e1, e⟩ := thn_inr e
        have a := or_shr ih _ _ _ _ e1
        have a1 : s1.2.1.length + s1.1.length ≤ s.2.1.length + s.1.tail.length + 0 := a.1
        have a2 : s1.1.length ≤ s.1.tail.length := a.2.2
        have tn := tail_len (ts := s.1) (by omega)
        by_cases y3 : kd s1.1 = 93
        · rw [if_pos y3] at e
          cases e
          have tn1 := tail_len (ts := s1.1) (by omega)
          show s1.2.1.length + s1.1.tail.length ≤ _ ∧ s1.1.tail.length < _
          omega
        · rw [if_neg y3] at e; cases e
      · rw [if_neg y2] at e; exact cmp_shr tl s s' e
section CT
variable {ev : mjT} {lv : Nat} {tb : Nat → Int32} {tl : Nat} {pre : List Int32} {h : mjS} {s : rst}
theorem co_sign (E : mjFix ev) (c : CRo h tb tl pre s) (hr : pre.length + s.2.1.length ≤ 400) : ∃ h', mjCall ev 37 lv [.ref 11] h = some (.int (nI (kd s.1)), h') ∧ Fr FRd h h' ∧ CRr h' tb tl pre (signF tl s) := by
  have t := c.t
  have e1 := co_peek (lv := lv) E c
  have kl := kd_lt c.ok
  have n3 : mI h 11 3 = nI s.2.2 := by obtain ⟨i, q, n2, n3, -⟩ := c; exact n3
  have np : s.2.2 ≤ 60 := by obtain ⟨i, q, n2, n3, rw', np⟩ := c; exact np
  have ef : mjCall ev 37 lv [.ref 11] h = ev 37 lv 0 [.ref 11, mjD] [] h := rfl
  by_cases y : opC (kd s.1) = none
  · have q : signF tl s = flt tl s.1 0 := by unfold signF; rw [if_pos y]
    rw [q]
    obtain ⟨h1, m, f1, z1⟩ := co_mark (lv := lv) (k := 0) E c (by omega) hr
    obtain ⟨h2, e2, f2, z2⟩ := zf_37b (lv := lv) E z1 (nI (kd s.1))
    refine ⟨h2, ?_, f1.tr f2, z2⟩
    have y1 : kd s.1 ≠ 60 := fun z => by rw [z] at y; cases y
    have y2 : kd s.1 ≠ 4 := fun z => by rw [z] at y; cases y
    have y3 : kd s.1 ≠ 61 := fun z => by rw [z] at y; cases y
    have y4 : kd s.1 ≠ 5 := fun z => by rw [z] at y; cases y
    have y5 : kd s.1 ≠ 62 := fun z => by rw [z] at y; cases y
    rw [ef, e_37_0 E]
    repeat (first | (apply ifT; focus ((try simp (disch := omega) only [t.k11, t.r11_0, t.k5, e1, m, e2, ofNat_nI, i_lit, mI_pI, mK_pI, mN_pI, mR_pI, nI_ltI, nI_eq, nI_add, nI_mul, mjIn_nI, nI_clamp, neg1_lt0, if_pos, if_neg, if_true, if_false, Bool.false_eq_true, and_true, true_and, and_false, false_and, mI_pL, mK_pL, mN_pL, mR_pL, mL_pL, mL_pI, mI_pR, mL_pR, mK_pR, mN_pR, mR_pR, mI_pC, mL_pC, mK_pC, mN_pC, mR_pC]) <;> first | omega | decide)) | (apply ifF; focus ((try simp (disch := omega) only [t.k11, t.r11_0, t.k5, e1, m, e2, ofNat_nI, i_lit, mI_pI, mK_pI, mN_pI, mR_pI, nI_ltI, nI_eq, nI_add, nI_mul, mjIn_nI, nI_clamp, neg1_lt0, if_pos, if_neg, if_true, if_false, Bool.false_eq_true, and_true, true_and, and_false, false_and, mI_pL, mK_pL, mN_pL, mR_pL, mL_pL, mL_pI, mI_pR, mL_pR, mK_pR, mN_pR, mR_pR, mI_pC, mL_pC, mK_pC, mN_pC, mR_pC]) <;> first | omega | decide)) | (apply stI; focus ((try simp (disch := omega) only [t.k11, t.r11_0, t.k5, e1, m, e2, ofNat_nI, i_lit, mI_pI, mK_pI, mN_pI, mR_pI, nI_ltI, nI_eq, nI_add, nI_mul, mjIn_nI, nI_clamp, neg1_lt0, if_pos, if_neg, if_true, if_false, Bool.false_eq_true, and_true, true_and, and_false, false_and, mI_pL, mK_pL, mN_pL, mR_pL, mL_pL, mL_pI, mI_pR, mL_pR, mK_pR, mN_pR, mR_pR, mI_pC, mL_pC, mK_pC, mN_pC, mR_pC]) <;> rfl)) | (apply stV; focus ((try simp (disch := omega) only [t.k11, t.r11_0, t.k5, e1, m, e2, ofNat_nI, i_lit, mI_pI, mK_pI, mN_pI, mR_pI, nI_ltI, nI_eq, nI_add, nI_mul, mjIn_nI, nI_clamp, neg1_lt0, if_pos, if_neg, if_true, if_false, Bool.false_eq_true, and_true, true_and, and_false, false_and, mI_pL, mK_pL, mN_pL, mR_pL, mL_pL, mL_pI, mI_pR, mL_pR, mK_pR, mN_pR, mR_pR, mI_pC, mL_pC, mK_pC, mN_pC, mR_pC]) <;> rfl)) | (apply stL; focus ((try simp (disch := omega) only [t.k11, t.r11_0, t.k5, e1, m, e2, ofNat_nI, i_lit, mI_pI, mK_pI, mN_pI, mR_pI, nI_ltI, nI_eq, nI_add, nI_mul, mjIn_nI, nI_clamp, neg1_lt0, if_pos, if_neg, if_true, if_false, Bool.false_eq_true, and_true, true_and, and_false, false_and, mI_pL, mK_pL, mN_pL, mR_pL, mL_pL, mL_pI, mI_pR, mL_pR, mK_pR, mN_pR, mR_pR, mI_pC, mL_pC, mK_pC, mN_pC, mR_pC]) <;> rfl)) | (apply stA; focus ((try simp (disch := omega) only [t.k11, t.r11_0, t.k5, e1, m, e2, ofNat_nI, i_lit, mI_pI, mK_pI, mN_pI, mR_pI, nI_ltI, nI_eq, nI_add, nI_mul, mjIn_nI, nI_clamp, neg1_lt0, if_pos, if_neg, if_true, if_false, Bool.false_eq_true, and_true, true_and, and_false, false_and, mI_pL, mK_pL, mN_pL, mR_pL, mL_pL, mL_pI, mI_pR, mL_pR, mK_pR, mN_pR, mR_pR, mI_pC, mL_pC, mK_pC, mN_pC, mR_pC]) <;> rfl)))
    try simp (disch := omega) only [t.k11, t.r11_0, t.k5, e1, m, e2, ofNat_nI, i_lit, mI_pI, mK_pI, mN_pI, mR_pI, nI_ltI, nI_eq, nI_add, nI_mul, mjIn_nI, nI_clamp, neg1_lt0, if_pos, if_neg, if_true, if_false, Bool.false_eq_true, and_true, true_and, and_false, false_and, mI_pL, mK_pL, mN_pL, mR_pL, mL_pL, mL_pI, mI_pR, mL_pR, mK_pR, mN_pR, mR_pR, mI_pC, mL_pC, mK_pC, mN_pC, mR_pC]
  · have jump : mjCall ev 37 lv [.ref 11] h = ev 37 lv 44 [.ref 11, .int (nI (kd s.1))] [] h := by
      rw [ef, e_37_0 E]
      by_cases y1 : kd s.1 = 60
      · rw [y1] at e1 ⊢; repeat (first | (apply ifT; focus ((try simp (disch := omega) only [t.k11, t.r11_0, t.k5, e1, ofNat_nI, i_lit, mI_pI, mK_pI, mN_pI, mR_pI, nI_ltI, nI_eq, nI_add, nI_mul, mjIn_nI, nI_clamp, neg1_lt0, if_pos, if_neg, if_true, if_false, Bool.false_eq_true, and_true, true_and, and_false, false_and, mI_pL, mK_pL, mN_pL, mR_pL, mL_pL, mL_pI, mI_pR, mL_pR, mK_pR, mN_pR, mR_pR, mI_pC, mL_pC, mK_pC, mN_pC, mR_pC]) <;> first | omega | decide)) | (apply ifF; focus ((try simp (disch := omega) only [t.k11, t.r11_0, t.k5, e1, ofNat_nI, i_lit, mI_pI, mK_pI, mN_pI, mR_pI, nI_ltI, nI_eq, nI_add, nI_mul, mjIn_nI, nI_clamp, neg1_lt0, if_pos, if_neg, if_true, if_false, Bool.false_eq_true, and_true, true_and, and_false, false_and, mI_pL, mK_pL, mN_pL, mR_pL, mL_pL, mL_pI, mI_pR, mL_pR, mK_pR, mN_pR, mR_pR, mI_pC, mL_pC, mK_pC, mN_pC, mR_pC]) <;> first | omega | decide)) | (apply stI; focus ((try simp (disch := omega) only [t.k11, t.r11_0, t.k5, e1, ofNat_nI, i_lit, mI_pI, mK_pI, mN_pI, mR_pI, nI_ltI, nI_eq, nI_add, nI_mul, mjIn_nI, nI_clamp, neg1_lt0, if_pos, if_neg, if_true, if_false, Bool.false_eq_true, and_true, true_and, and_false, false_and, mI_pL, mK_pL, mN_pL, mR_pL, mL_pL, mL_pI, mI_pR, mL_pR, mK_pR, mN_pR, mR_pR, mI_pC, mL_pC, mK_pC, mN_pC, mR_pC]) <;> rfl)) | (apply stV; focus ((try simp (disch := omega) only [t.k11, t.r11_0, t.k5, e1, ofNat_nI, i_lit, mI_pI, mK_pI, mN_pI, mR_pI, nI_ltI, nI_eq, nI_add, nI_mul, mjIn_nI, nI_clamp, neg1_lt0, if_pos, if_neg, if_true, if_false, Bool.false_eq_true, and_true, true_and, and_false, false_and, mI_pL, mK_pL, mN_pL, mR_pL, mL_pL, mL_pI, mI_pR, mL_pR, mK_pR, mN_pR, mR_pR, mI_pC, mL_pC, mK_pC, mN_pC, mR_pC]) <;> rfl)) | (apply stL; focus ((try simp (disch := omega) only [t.k11, t.r11_0, t.k5, e1, ofNat_nI, i_lit, mI_pI, mK_pI, mN_pI, mR_pI, nI_ltI, nI_eq, nI_add, nI_mul, mjIn_nI, nI_clamp, neg1_lt0, if_pos, if_neg, if_true, if_false, Bool.false_eq_true, and_true, true_and, and_false, false_and, mI_pL, mK_pL, mN_pL, mR_pL, mL_pL, mL_pI, mI_pR, mL_pR, mK_pR, mN_pR, mR_pR, mI_pC, mL_pC, mK_pC, mN_pC, mR_pC]) <;> rfl)) | (apply stA; focus ((try simp (disch := omega) only [t.k11, t.r11_0, t.k5, e1, ofNat_nI, i_lit, mI_pI, mK_pI, mN_pI, mR_pI, nI_ltI, nI_eq, nI_add, nI_mul, mjIn_nI, nI_clamp, neg1_lt0, if_pos, if_neg, if_true, if_false, Bool.false_eq_true, and_true, true_and, and_false, false_and, mI_pL, mK_pL, mN_pL, mR_pL, mL_pL, mL_pI, mI_pR, mL_pR, mK_pR, mN_pR, mR_pR, mI_pC, mL_pC, mK_pC, mN_pC, mR_pC]) <;> rfl)))
        try simp (disch := omega) only [t.k11, t.r11_0, t.k5, e1, ofNat_nI, i_lit, mI_pI, mK_pI, mN_pI, mR_pI, nI_ltI, nI_eq, nI_add, nI_mul, mjIn_nI, nI_clamp, neg1_lt0, if_pos, if_neg, if_true, if_false, Bool.false_eq_true, and_true, true_and, and_false, false_and, mI_pL, mK_pL, mN_pL, mR_pL, mL_pL, mL_pI, mI_pR, mL_pR, mK_pR, mN_pR, mR_pR, mI_pC, mL_pC, mK_pC, mN_pC, mR_pC]
      · by_cases y2 : kd s.1 = 4
        · rw [y2] at e1 ⊢; repeat (first | (apply ifT; focus ((try simp (disch := omega) only [t.k11, t.r11_0, t.k5, e1, ofNat_nI, i_lit, mI_pI, mK_pI, mN_pI, mR_pI, nI_ltI, nI_eq, nI_add, nI_mul, mjIn_nI, nI_clamp, neg1_lt0, if_pos, if_neg, if_true, if_false, Bool.false_eq_true, and_true, true_and, and_false, false_and, mI_pL, mK_pL, mN_pL, mR_pL, mL_pL, mL_pI, mI_pR, mL_pR, mK_pR, mN_pR, mR_pR, mI_pC, mL_pC, mK_pC, mN_pC, mR_pC]) <;> first | omega | decide)) | (apply ifF; focus ((try simp (disch := omega) only [t.k11, t.r11_0, t.k5, e1, ofNat_nI, i_lit, mI_pI, mK_pI, mN_pI, mR_pI, nI_ltI, nI_eq, nI_add, nI_mul, mjIn_nI, nI_clamp, neg1_lt0, if_pos, if_neg, if_true, if_false, Bool.false_eq_true, and_true, true_and, and_false, false_and, mI_pL, mK_pL, mN_pL, mR_pL, mL_pL, mL_pI, mI_pR, mL_pR, mK_pR, mN_pR, mR_pR, mI_pC, mL_pC, mK_pC, mN_pC, mR_pC]) <;> first | omega | decide)) | (apply stI; focus ((try simp (disch := omega) only [t.k11, t.r11_0, t.k5, e1, ofNat_nI, i_lit, mI_pI, mK_pI, mN_pI, mR_pI, nI_ltI, nI_eq, nI_add, nI_mul, mjIn_nI, nI_clamp, neg1_lt0, if_pos, if_neg, if_true, if_false, Bool.false_eq_true, and_true, true_and, and_false, false_and, mI_pL, mK_pL, mN_pL, mR_pL, mL_pL, mL_pI, mI_pR, mL_pR, mK_pR, mN_pR, mR_pR, mI_pC, mL_pC, mK_pC, mN_pC, mR_pC]) <;> rfl)) | (apply stV; focus ((try simp (disch := omega) only [t.k11, t.r11_0, t.k5, e1, ofNat_nI, i_lit, mI_pI, mK_pI, mN_pI, mR_pI, nI_ltI, nI_eq, nI_add, nI_mul, mjIn_nI, nI_clamp, neg1_lt0, if_pos, if_neg, if_true, if_false, Bool.false_eq_true, and_true, true_and, and_false, false_and, mI_pL, mK_pL, mN_pL, mR_pL, mL_pL, mL_pI, mI_pR, mL_pR, mK_pR, mN_pR, mR_pR, mI_pC, mL_pC, mK_pC, mN_pC, mR_pC]) <;> rfl)) | (apply stL; focus ((try simp (disch := omega) only [t.k11, t.r11_0, t.k5, e1, ofNat_nI, i_lit, mI_pI, mK_pI, mN_pI, mR_pI, nI_ltI, nI_eq, nI_add, nI_mul, mjIn_nI, nI_clamp, neg1_lt0, if_pos, if_neg, if_true, if_false, Bool.false_eq_true, and_true, true_and, and_false, false_and, mI_pL, mK_pL, mN_pL, mR_pL, mL_pL, mL_pI, mI_pR, mL_pR, mK_pR, mN_pR, mR_pR, mI_pC, mL_pC, mK_pC, mN_pC, mR_pC]) <;> rfl)) | (apply stA; focus ((try simp (disch := omega) only [t.k11, t.r11_0, t.k5, e1, ofNat_nI, i_lit, mI_pI, mK_pI, mN_pI, mR_pI, nI_ltI, nI_eq, nI_add, nI_mul, mjIn_nI, nI_clamp, neg1_lt0, if_pos, if_neg, if_true, if_false, Bool.false_eq_true, and_true, true_and, and_false, false_and, mI_pL, mK_pL, mN_pL, mR_pL, mL_pL, mL_pI, mI_pR, mL_pR, mK_pR, mN_pR, mR_pR, mI_pC, mL_pC, mK_pC, mN_pC, mR_pC]) <;> rfl)))
          try simp (disch := omega) only [t.k11, t.r11_0, t.k5, e1, ofNat_nI, i_lit, mI_pI, mK_pI, mN_pI, mR_pI, nI_ltI, nI_eq, nI_add, nI_mul, mjIn_nI, nI_clamp, neg1_lt0, if_pos, if_neg, if_true, if_false, Bool.false_eq_true, and_true, true_and, and_false, false_and, mI_pL, mK_pL, mN_pL, mR_pL, mL_pL, mL_pI, mI_pR, mL_pR, mK_pR, mN_pR, mR_pR, mI_pC, mL_pC, mK_pC, mN_pC, mR_pC]
        · by_cases y3 : kd s.1 = 61
          · rw [y3] at e1 ⊢; repeat (first | (apply ifT; focus ((try simp (disch := omega) only [t.k11, t.r11_0, t.k5, e1, ofNat_nI, i_lit, mI_pI, mK_pI, mN_pI, mR_pI, nI_ltI, nI_eq, nI_add, nI_mul, mjIn_nI, nI_clamp, neg1_lt0, if_pos, if_neg, if_true, if_false, Bool.false_eq_true, and_true, true_and, and_false, false_and, mI_pL, mK_pL, mN_pL, mR_pL, mL_pL, mL_pI, mI_pR, mL_pR, mK_pR, mN_pR, mR_pR, mI_pC, mL_pC, mK_pC, mN_pC, mR_pC]) <;> first | omega | decide)) | (apply ifF; focus ((try simp (disch := omega) only [t.k11, t.r11_0, t.k5, e1, ofNat_nI, i_lit, mI_pI, mK_pI, mN_pI, mR_pI, nI_ltI, nI_eq, nI_add, nI_mul, mjIn_nI, nI_clamp, neg1_lt0, if_pos, if_neg, if_true, if_false, Bool.false_eq_true, and_true, true_and, and_false, false_and, mI_pL, mK_pL, mN_pL, mR_pL, mL_pL, mL_pI, mI_pR, mL_pR, mK_pR, mN_pR, mR_pR, mI_pC, mL_pC, mK_pC, mN_pC, mR_pC]) <;> first | omega | decide)) | (apply stI; focus ((try simp (disch := omega) only [t.k11, t.r11_0, t.k5, e1, ofNat_nI, i_lit, mI_pI, mK_pI, mN_pI, mR_pI, nI_ltI, nI_eq, nI_add, nI_mul, mjIn_nI, nI_clamp, neg1_lt0, if_pos, if_neg, if_true, if_false, Bool.false_eq_true, and_true, true_and, and_false, false_and, mI_pL, mK_pL, mN_pL, mR_pL, mL_pL, mL_pI, mI_pR, mL_pR, mK_pR, mN_pR, mR_pR, mI_pC, mL_pC, mK_pC, mN_pC, mR_pC]) <;> rfl)) | (apply stV; focus ((try simp (disch := omega) only [t.k11, t.r11_0, t.k5, e1, ofNat_nI, i_lit, mI_pI, mK_pI, mN_pI, mR_pI, nI_ltI, nI_eq, nI_add, nI_mul, mjIn_nI, nI_clamp, neg1_lt0, if_pos, if_neg, if_true, if_false, Bool.false_eq_true, and_true, true_and, and_false, false_and, mI_pL, mK_pL, mN_pL, mR_pL, mL_pL, mL_pI, mI_pR, mL_pR, mK_pR, mN_pR, mR_pR, mI_pC, mL_pC, mK_pC, mN_pC, mR_pC]) <;> rfl)) | (apply stL; focus ((try simp (disch := omega) only [t.k11, t.r11_0, t.k5, e1, ofNat_nI, i_lit, mI_pI, mK_pI, mN_pI, mR_pI, nI_ltI, nI_eq, nI_add, nI_mul, mjIn_nI, nI_clamp, neg1_lt0, if_pos, if_neg, if_true, if_false, Bool.false_eq_true, and_true, true_and, and_false, false_and, mI_pL, mK_pL, mN_pL, mR_pL, mL_pL, mL_pI, mI_pR, mL_pR, mK_pR, mN_pR, mR_pR, mI_pC, mL_pC, mK_pC, mN_pC, mR_pC]) <;> rfl)) | (apply stA; focus ((try simp (disch := omega) only [t.k11, t.r11_0, t.k5, e1, ofNat_nI, i_lit, mI_pI, mK_pI, mN_pI, mR_pI, nI_ltI, nI_eq, nI_add, nI_mul, mjIn_nI, nI_clamp, neg1_lt0, if_pos, if_neg, if_true, if_false, Bool.false_eq_true, and_true, true_and, and_false, false_and, mI_pL, mK_pL, mN_pL, mR_pL, mL_pL, mL_pI, mI_pR, mL_pR, mK_pR, mN_pR, mR_pR, mI_pC, mL_pC, mK_pC, mN_pC, mR_pC]) <;> rfl)))
            try simp (disch := omega) only [t.k11, t.r11_0, t.k5, e1, ofNat_nI, i_lit, mI_pI, mK_pI, mN_pI, mR_pI, nI_ltI, nI_eq, nI_add, nI_mul, mjIn_nI, nI_clamp, neg1_lt0, if_pos, if_neg, if_true, if_false, Bool.false_eq_true, and_true, true_and, and_false, false_and, mI_pL, mK_pL, mN_pL, mR_pL, mL_pL, mL_pI, mI_pR, mL_pR, mK_pR, mN_pR, mR_pR, mI_pC, mL_pC, mK_pC, mN_pC, mR_pC]
          · by_cases y4 : kd s.1 = 5
            · rw [y4] at e1 ⊢; repeat (first | (apply ifT; focus ((try simp (disch := omega) only [t.k11, t.r11_0, t.k5, e1, ofNat_nI, i_lit, mI_pI, mK_pI, mN_pI, mR_pI, nI_ltI, nI_eq, nI_add, nI_mul, mjIn_nI, nI_clamp, neg1_lt0, if_pos, if_neg, if_true, if_false, Bool.false_eq_true, and_true, true_and, and_false, false_and, mI_pL, mK_pL, mN_pL, mR_pL, mL_pL, mL_pI, mI_pR, mL_pR, mK_pR, mN_pR, mR_pR, mI_pC, mL_pC, mK_pC, mN_pC, mR_pC]) <;> first | omega | decide)) | (apply ifF; focus ((try simp (disch := omega) only [t.k11, t.r11_0, t.k5, e1, ofNat_nI, i_lit, mI_pI, mK_pI, mN_pI, mR_pI, nI_ltI, nI_eq, nI_add, nI_mul, mjIn_nI, nI_clamp, neg1_lt0, if_pos, if_neg, if_true, if_false, Bool.false_eq_true, and_true, true_and, and_false, false_and, mI_pL, mK_pL, mN_pL, mR_pL, mL_pL, mL_pI, mI_pR, mL_pR, mK_pR, mN_pR, mR_pR, mI_pC, mL_pC, mK_pC, mN_pC, mR_pC]) <;> first | omega | decide)) | (apply stI; focus ((try simp (disch := omega) only [t.k11, t.r11_0, t.k5, e1, ofNat_nI, i_lit, mI_pI, mK_pI, mN_pI, mR_pI, nI_ltI, nI_eq, nI_add, nI_mul, mjIn_nI, nI_clamp, neg1_lt0, if_pos, if_neg, if_true, if_false, Bool.false_eq_true, and_true, true_and, and_false, false_and, mI_pL, mK_pL, mN_pL, mR_pL, mL_pL, mL_pI, mI_pR, mL_pR, mK_pR, mN_pR, mR_pR, mI_pC, mL_pC, mK_pC, mN_pC, mR_pC]) <;> rfl)) | (apply stV; focus ((try simp (disch := omega) only [t.k11, t.r11_0, t.k5, e1, ofNat_nI, i_lit, mI_pI, mK_pI, mN_pI, mR_pI, nI_ltI, nI_eq, nI_add, nI_mul, mjIn_nI, nI_clamp, neg1_lt0, if_pos, if_neg, if_true, if_false, Bool.false_eq_true, and_true, true_and, and_false, false_and, mI_pL, mK_pL, mN_pL, mR_pL, mL_pL, mL_pI, mI_pR, mL_pR, mK_pR, mN_pR, mR_pR, mI_pC, mL_pC, mK_pC, mN_pC, mR_pC]) <;> rfl)) | (apply stL; focus ((try simp (disch := omega) only [t.k11, t.r11_0, t.k5, e1, ofNat_nI, i_lit, mI_pI, mK_pI, mN_pI, mR_pI, nI_ltI, nI_eq, nI_add, nI_mul, mjIn_nI, nI_clamp, neg1_lt0, if_pos, if_neg, if_true, if_false, Bool.false_eq_true, and_true, true_and, and_false, false_and, mI_pL, mK_pL, mN_pL, mR_pL, mL_pL, mL_pI, mI_pR, mL_pR, mK_pR, mN_pR, mR_pR, mI_pC, mL_pC, mK_pC, mN_pC, mR_pC]) <;> rfl)) | (apply stA; focus ((try simp (disch := omega) only [t.k11, t.r11_0, t.k5, e1, ofNat_nI, i_lit, mI_pI, mK_pI, mN_pI, mR_pI, nI_ltI, nI_eq, nI_add, nI_mul, mjIn_nI, nI_clamp, neg1_lt0, if_pos, if_neg, if_true, if_false, Bool.false_eq_true, and_true, true_and, and_false, false_and, mI_pL, mK_pL, mN_pL, mR_pL, mL_pL, mL_pI, mI_pR, mL_pR, mK_pR, mN_pR, mR_pR, mI_pC, mL_pC, mK_pC, mN_pC, mR_pC]) <;> rfl)))
              try simp (disch := omega) only [t.k11, t.r11_0, t.k5, e1, ofNat_nI, i_lit, mI_pI, mK_pI, mN_pI, mR_pI, nI_ltI, nI_eq, nI_add, nI_mul, mjIn_nI, nI_clamp, neg1_lt0, if_pos, if_neg, if_true, if_false, Bool.false_eq_true, and_true, true_and, and_false, false_and, mI_pL, mK_pL, mN_pL, mR_pL, mL_pL, mL_pI, mI_pR, mL_pR, mK_pR, mN_pR, mR_pR, mI_pC, mL_pC, mK_pC, mN_pC, mR_pC]
            · by_cases y5 : kd s.1 = 62
              · rw [y5] at e1 ⊢; repeat (first | (apply ifT; focus ((try simp (disch := omega) only [t.k11, t.r11_0, t.k5, e1, ofNat_nI, i_lit, mI_pI, mK_pI, mN_pI, mR_pI, nI_ltI, nI_eq, nI_add, nI_mul, mjIn_nI, nI_clamp, neg1_lt0, if_pos, if_neg, if_true, if_false, Bool.false_eq_true, and_true, true_and, and_false, false_and, mI_pL, mK_pL, mN_pL, mR_pL, mL_pL, mL_pI, mI_pR, mL_pR, mK_pR, mN_pR, mR_pR, mI_pC, mL_pC, mK_pC, mN_pC, mR_pC]) <;> first | omega | decide)) | (apply ifF; focus ((try simp (disch := omega) only [t.k11, t.r11_0, t.k5, e1, ofNat_nI, i_lit, mI_pI, mK_pI, mN_pI, mR_pI, nI_ltI, nI_eq, nI_add, nI_mul, mjIn_nI, nI_clamp, neg1_lt0, if_pos, if_neg, if_true, if_false, Bool.false_eq_true, and_true, true_and, and_false, false_and, mI_pL, mK_pL, mN_pL, mR_pL, mL_pL, mL_pI, mI_pR, mL_pR, mK_pR, mN_pR, mR_pR, mI_pC, mL_pC, mK_pC, mN_pC, mR_pC]) <;> first | omega | decide)) | (apply stI; focus ((try simp (disch := omega) only [t.k11, t.r11_0, t.k5, e1, ofNat_nI, i_lit, mI_pI, mK_pI, mN_pI, mR_pI, nI_ltI, nI_eq, nI_add, nI_mul, mjIn_nI, nI_clamp, neg1_lt0, if_pos, if_neg, if_true, if_false, Bool.false_eq_true, and_true, true_and, and_false, false_and, mI_pL, mK_pL, mN_pL, mR_pL, mL_pL, mL_pI, mI_pR, mL_pR, mK_pR, mN_pR, mR_pR, mI_pC, mL_pC, mK_pC, mN_pC, mR_pC]) <;> rfl)) | (apply stV; focus ((try simp (disch := omega) only [t.k11, t.r11_0, t.k5, e1, ofNat_nI, i_lit, mI_pI, mK_pI, mN_pI, mR_pI, nI_ltI, nI_eq, nI_add, nI_mul, mjIn_nI, nI_clamp, neg1_lt0, if_pos, if_neg, if_true, if_false, Bool.false_eq_true, and_true, true_and, and_false, false_and, mI_pL, mK_pL, mN_pL, mR_pL, mL_pL, mL_pI, mI_pR, mL_pR, mK_pR, mN_pR, mR_pR, mI_pC, mL_pC, mK_pC, mN_pC, mR_pC]) <;> rfl)) | (apply stL; focus ((try simp (disch := omega) only [t.k11, t.r11_0, t.k5, e1, ofNat_nI, i_lit, mI_pI, mK_pI, mN_pI, mR_pI, nI_ltI, nI_eq, nI_add, nI_mul, mjIn_nI, nI_clamp, neg1_lt0, if_pos, if_neg, if_true, if_false, Bool.false_eq_true, and_true, true_and, and_false, false_and, mI_pL, mK_pL, mN_pL, mR_pL, mL_pL, mL_pI, mI_pR, mL_pR, mK_pR, mN_pR, mR_pR, mI_pC, mL_pC, mK_pC, mN_pC, mR_pC]) <;> rfl)) | (apply stA; focus ((try simp (disch := omega) only [t.k11, t.r11_0, t.k5, e1, ofNat_nI, i_lit, mI_pI, mK_pI, mN_pI, mR_pI, nI_ltI, nI_eq, nI_add, nI_mul, mjIn_nI, nI_clamp, neg1_lt0, if_pos, if_neg, if_true, if_false, Bool.false_eq_true, and_true, true_and, and_false, false_and, mI_pL, mK_pL, mN_pL, mR_pL, mL_pL, mL_pI, mI_pR, mL_pR, mK_pR, mN_pR, mR_pR, mI_pC, mL_pC, mK_pC, mN_pC, mR_pC]) <;> rfl)))
                try simp (disch := omega) only [t.k11, t.r11_0, t.k5, e1, ofNat_nI, i_lit, mI_pI, mK_pI, mN_pI, mR_pI, nI_ltI, nI_eq, nI_add, nI_mul, mjIn_nI, nI_clamp, neg1_lt0, if_pos, if_neg, if_true, if_false, Bool.false_eq_true, and_true, true_and, and_false, false_and, mI_pL, mK_pL, mN_pL, mR_pL, mL_pL, mL_pI, mI_pR, mL_pR, mK_pR, mN_pR, mR_pR, mI_pC, mL_pC, mK_pC, mN_pC, mR_pC]
              · exact absurd (by unfold opC; rw [if_neg y1, if_neg y2, if_neg y3, if_neg y4, if_neg y5]) y
    rw [jump, e_37_44 E]
    by_cases yn : 60 ≤ s.2.2
    · have q : signF tl s = flt tl s.1 3 := by unfold signF; rw [if_neg y, if_pos yn]
      rw [q]
      obtain ⟨h1, m, f1, z1⟩ := co_mark (lv := lv) (k := 3) E c (by omega) hr
      obtain ⟨f2, z2⟩ := zf_more z1 (mI h1 11 3 + nI 1)
      have e3 := zf_take (lv := lv) E z2 (nI (kd s.1))
      have t1 := z1.t
      refine ⟨_, ?_, f1.tr f2, z2⟩
      repeat (first | (apply ifT; focus ((try simp (disch := omega) only [t.k11, n3, t.r11_0, t.k5, m, t1.k11, t1.r11_0, t1.k5, e3, ofNat_nI, i_lit, mI_pI, mK_pI, mN_pI, mR_pI, nI_ltI, nI_eq, nI_add, nI_mul, mjIn_nI, nI_clamp, neg1_lt0, if_pos, if_neg, if_true, if_false, Bool.false_eq_true, and_true, true_and, and_false, false_and, mI_pL, mK_pL, mN_pL, mR_pL, mL_pL, mL_pI, mI_pR, mL_pR, mK_pR, mN_pR, mR_pR, mI_pC, mL_pC, mK_pC, mN_pC, mR_pC]) <;> first | omega | decide)) | (apply ifF; focus ((try simp (disch := omega) only [t.k11, n3, t.r11_0, t.k5, m, t1.k11, t1.r11_0, t1.k5, e3, ofNat_nI, i_lit, mI_pI, mK_pI, mN_pI, mR_pI, nI_ltI, nI_eq, nI_add, nI_mul, mjIn_nI, nI_clamp, neg1_lt0, if_pos, if_neg, if_true, if_false, Bool.false_eq_true, and_true, true_and, and_false, false_and, mI_pL, mK_pL, mN_pL, mR_pL, mL_pL, mL_pI, mI_pR, mL_pR, mK_pR, mN_pR, mR_pR, mI_pC, mL_pC, mK_pC, mN_pC, mR_pC]) <;> first | omega | decide)) | (apply stI; focus ((try simp (disch := omega) only [t.k11, n3, t.r11_0, t.k5, m, t1.k11, t1.r11_0, t1.k5, e3, ofNat_nI, i_lit, mI_pI, mK_pI, mN_pI, mR_pI, nI_ltI, nI_eq, nI_add, nI_mul, mjIn_nI, nI_clamp, neg1_lt0, if_pos, if_neg, if_true, if_false, Bool.false_eq_true, and_true, true_and, and_false, false_and, mI_pL, mK_pL, mN_pL, mR_pL, mL_pL, mL_pI, mI_pR, mL_pR, mK_pR, mN_pR, mR_pR, mI_pC, mL_pC, mK_pC, mN_pC, mR_pC]) <;> rfl)) | (apply stV; focus ((try simp (disch := omega) only [t.k11, n3, t.r11_0, t.k5, m, t1.k11, t1.r11_0, t1.k5, e3, ofNat_nI, i_lit, mI_pI, mK_pI, mN_pI, mR_pI, nI_ltI, nI_eq, nI_add, nI_mul, mjIn_nI, nI_clamp, neg1_lt0, if_pos, if_neg, if_true, if_false, Bool.false_eq_true, and_true, true_and, and_false, false_and, mI_pL, mK_pL, mN_pL, mR_pL, mL_pL, mL_pI, mI_pR, mL_pR, mK_pR, mN_pR, mR_pR, mI_pC, mL_pC, mK_pC, mN_pC, mR_pC]) <;> rfl)) | (apply stL; focus ((try simp (disch := omega) only [t.k11, n3, t.r11_0, t.k5, m, t1.k11, t1.r11_0, t1.k5, e3, ofNat_nI, i_lit, mI_pI, mK_pI, mN_pI, mR_pI, nI_ltI, nI_eq, nI_add, nI_mul, mjIn_nI, nI_clamp, neg1_lt0, if_pos, if_neg, if_true, if_false, Bool.false_eq_true, and_true, true_and, and_false, false_and, mI_pL, mK_pL, mN_pL, mR_pL, mL_pL, mL_pI, mI_pR, mL_pR, mK_pR, mN_pR, mR_pR, mI_pC, mL_pC, mK_pC, mN_pC, mR_pC]) <;> rfl)) | (apply stA; focus ((try simp (disch := omega) only [t.k11, n3, t.r11_0, t.k5, m, t1.k11, t1.r11_0, t1.k5, e3, ofNat_nI, i_lit, mI_pI, mK_pI, mN_pI, mR_pI, nI_ltI, nI_eq, nI_add, nI_mul, mjIn_nI, nI_clamp, neg1_lt0, if_pos, if_neg, if_true, if_false, Bool.false_eq_true, and_true, true_and, and_false, false_and, mI_pL, mK_pL, mN_pL, mR_pL, mL_pL, mL_pI, mI_pR, mL_pR, mK_pR, mN_pR, mR_pR, mI_pC, mL_pC, mK_pC, mN_pC, mR_pC]) <;> rfl)))
      try simp (disch := omega) only [t.k11, n3, t.r11_0, t.k5, m, t1.k11, t1.r11_0, t1.k5, e3, ofNat_nI, i_lit, mI_pI, mK_pI, mN_pI, mR_pI, nI_ltI, nI_eq, nI_add, nI_mul, mjIn_nI, nI_clamp, neg1_lt0, if_pos, if_neg, if_true, if_false, Bool.false_eq_true, and_true, true_and, and_false, false_and, mI_pL, mK_pL, mN_pL, mR_pL, mL_pL, mL_pI, mI_pR, mL_pR, mK_pR, mN_pR, mR_pR, mI_pC, mL_pC, mK_pC, mN_pC, mR_pC]
    · have q : signF tl s = .inr (s.1.tail, s.2.1, s.2.2 + 1) := by unfold signF; rw [if_neg y, if_neg yn]
      rw [q]
      obtain ⟨f1, c1⟩ := co_more c (by omega)
      obtain ⟨h2, e2, f2, c2⟩ := co_take (lv := lv) E c1 kl.2 rfl
      refine ⟨h2, ?_, f1.tr f2, c2⟩
      have e2' : mjCall ev 85 lv [.ref 5, .int (nI (kd s.1))] (pI h 11 3 (nI (s.2.2 + 1))) = some (.int (nI 1), h2) := e2
      repeat (first | (apply ifT; focus ((try simp (disch := omega) only [t.k11, n3, t.r11_0, t.k5, e2', ofNat_nI, i_lit, mI_pI, mK_pI, mN_pI, mR_pI, nI_ltI, nI_eq, nI_add, nI_mul, mjIn_nI, nI_clamp, neg1_lt0, if_pos, if_neg, if_true, if_false, Bool.false_eq_true, and_true, true_and, and_false, false_and, mI_pL, mK_pL, mN_pL, mR_pL, mL_pL, mL_pI, mI_pR, mL_pR, mK_pR, mN_pR, mR_pR, mI_pC, mL_pC, mK_pC, mN_pC, mR_pC]) <;> first | omega | decide)) | (apply ifF; focus ((try simp (disch := omega) only [t.k11, n3, t.r11_0, t.k5, e2', ofNat_nI, i_lit, mI_pI, mK_pI, mN_pI, mR_pI, nI_ltI, nI_eq, nI_add, nI_mul, mjIn_nI, nI_clamp, neg1_lt0, if_pos, if_neg, if_true, if_false, Bool.false_eq_true, and_true, true_and, and_false, false_and, mI_pL, mK_pL, mN_pL, mR_pL, mL_pL, mL_pI, mI_pR, mL_pR, mK_pR, mN_pR, mR_pR, mI_pC, mL_pC, mK_pC, mN_pC, mR_pC]) <;> first | omega | decide)) | (apply stI; focus ((try simp (disch := omega) only [t.k11, n3, t.r11_0, t.k5, e2', ofNat_nI, i_lit, mI_pI, mK_pI, mN_pI, mR_pI, nI_ltI, nI_eq, nI_add, nI_mul, mjIn_nI, nI_clamp, neg1_lt0, if_pos, if_neg, if_true, if_false, Bool.false_eq_true, and_true, true_and, and_false, false_and, mI_pL, mK_pL, mN_pL, mR_pL, mL_pL, mL_pI, mI_pR, mL_pR, mK_pR, mN_pR, mR_pR, mI_pC, mL_pC, mK_pC, mN_pC, mR_pC]) <;> rfl)) | (apply stV; focus ((try simp (disch := omega) only [t.k11, n3, t.r11_0, t.k5, e2', ofNat_nI, i_lit, mI_pI, mK_pI, mN_pI, mR_pI, nI_ltI, nI_eq, nI_add, nI_mul, mjIn_nI, nI_clamp, neg1_lt0, if_pos, if_neg, if_true, if_false, Bool.false_eq_true, and_true, true_and, and_false, false_and, mI_pL, mK_pL, mN_pL, mR_pL, mL_pL, mL_pI, mI_pR, mL_pR, mK_pR, mN_pR, mR_pR, mI_pC, mL_pC, mK_pC, mN_pC, mR_pC]) <;> rfl)) | (apply stL; focus ((try simp (disch := omega) only [t.k11, n3, t.r11_0, t.k5, e2', ofNat_nI, i_lit, mI_pI, mK_pI, mN_pI, mR_pI, nI_ltI, nI_eq, nI_add, nI_mul, mjIn_nI, nI_clamp, neg1_lt0, if_pos, if_neg, if_true, if_false, Bool.false_eq_true, and_true, true_and, and_false, false_and, mI_pL, mK_pL, mN_pL, mR_pL, mL_pL, mL_pI, mI_pR, mL_pR, mK_pR, mN_pR, mR_pR, mI_pC, mL_pC, mK_pC, mN_pC, mR_pC]) <;> rfl)) | (apply stA; focus ((try simp (disch := omega) only [t.k11, n3, t.r11_0, t.k5, e2', ofNat_nI, i_lit, mI_pI, mK_pI, mN_pI, mR_pI, nI_ltI, nI_eq, nI_add, nI_mul, mjIn_nI, nI_clamp, neg1_lt0, if_pos, if_neg, if_true, if_false, Bool.false_eq_true, and_true, true_and, and_false, false_and, mI_pL, mK_pL, mN_pL, mR_pL, mL_pL, mL_pI, mI_pR, mL_pR, mK_pR, mN_pR, mR_pR, mI_pC, mL_pC, mK_pC, mN_pC, mR_pC]) <;> rfl)))
      try simp (disch := omega) only [t.k11, n3, t.r11_0, t.k5, e2', ofNat_nI, i_lit, mI_pI, mK_pI, mN_pI, mR_pI, nI_ltI, nI_eq, nI_add, nI_mul, mjIn_nI, nI_clamp, neg1_lt0, if_pos, if_neg, if_true, if_false, Bool.false_eq_true, and_true, true_and, and_false, false_and, mI_pL, mK_pL, mN_pL, mR_pL, mL_pL, mL_pI, mI_pR, mL_pR, mK_pR, mN_pR, mR_pR, mI_pC, mL_pC, mK_pC, mN_pC, mR_pC]
theorem co_cmp (E : mjFix ev) (c : CRo h tb tl pre s) (hr : pre.length + s.2.1.length + s.1.length ≤ 400) (n1 : kd s.1 ≠ 134) (n2 : kd s.1 ≠ 91) (a b : Int32) (w : Value) : ∃ h', ev 36 lv 38 [.ref 11, .int a, .int b, w] [] h = some (.ref 0, h') ∧ Fr FRd h h' ∧ CRr h' tb tl pre (cmpF tl s) := by
  have t := c.t
  have q1 := co_not (lv := lv) (k := 134) E c (by omega) n1
  have q2 := co_not (lv := lv) (k := 91) E c (by omega) n2
  obtain ⟨h1, e1, f1, r1⟩ := co_sum (lv := lv) E c hr
  rw [e_36_38 E]
  unfold cmpF
  cases hs : sumF tl s with
  | inl f =>
    rw [hs] at r1
    have z1 : CRf h1 tb tl f := r1
    obtain ⟨x, h2, e2, f2, z2⟩ := zf_sign (lv := lv) E z1
    obtain ⟨h3, e3, f3, z3⟩ := zf_sum (lv := lv) E z2
    obtain ⟨h4, e4, f4, z4⟩ := zf_step (lv := lv) E z3 (-x)
    have t1 := z1.t
    have t2 := z2.t
    have t3 := z3.t
    refine ⟨h4, ?_, ((f1.tr f2).tr f3).tr f4, z4⟩
    repeat (first | (apply ifT; focus ((try simp (disch := omega) only [t.k11, t.r11_0, t.k5, q1, q2, e1, t1.k11, e2, t2.k11, e3, t3.k11, e4, ofNat_nI, i_lit, mI_pI, mK_pI, mN_pI, mR_pI, nI_ltI, nI_eq, nI_add, nI_mul, mjIn_nI, nI_clamp, neg1_lt0, if_pos, if_neg, if_true, if_false, Bool.false_eq_true, and_true, true_and, and_false, false_and, mI_pL, mK_pL, mN_pL, mR_pL, mL_pL, mL_pI, mI_pR, mL_pR, mK_pR, mN_pR, mR_pR, mI_pC, mL_pC, mK_pC, mN_pC, mR_pC]) <;> first | omega | decide)) | (apply ifF; focus ((try simp (disch := omega) only [t.k11, t.r11_0, t.k5, q1, q2, e1, t1.k11, e2, t2.k11, e3, t3.k11, e4, ofNat_nI, i_lit, mI_pI, mK_pI, mN_pI, mR_pI, nI_ltI, nI_eq, nI_add, nI_mul, mjIn_nI, nI_clamp, neg1_lt0, if_pos, if_neg, if_true, if_false, Bool.false_eq_true, and_true, true_and, and_false, false_and, mI_pL, mK_pL, mN_pL, mR_pL, mL_pL, mL_pI, mI_pR, mL_pR, mK_pR, mN_pR, mR_pR, mI_pC, mL_pC, mK_pC, mN_pC, mR_pC]) <;> first | omega | decide)) | (apply stI; focus ((try simp (disch := omega) only [t.k11, t.r11_0, t.k5, q1, q2, e1, t1.k11, e2, t2.k11, e3, t3.k11, e4, ofNat_nI, i_lit, mI_pI, mK_pI, mN_pI, mR_pI, nI_ltI, nI_eq, nI_add, nI_mul, mjIn_nI, nI_clamp, neg1_lt0, if_pos, if_neg, if_true, if_false, Bool.false_eq_true, and_true, true_and, and_false, false_and, mI_pL, mK_pL, mN_pL, mR_pL, mL_pL, mL_pI, mI_pR, mL_pR, mK_pR, mN_pR, mR_pR, mI_pC, mL_pC, mK_pC, mN_pC, mR_pC]) <;> rfl)) | (apply stV; focus ((try simp (disch := omega) only [t.k11, t.r11_0, t.k5, q1, q2, e1, t1.k11, e2, t2.k11, e3, t3.k11, e4, ofNat_nI, i_lit, mI_pI, mK_pI, mN_pI, mR_pI, nI_ltI, nI_eq, nI_add, nI_mul, mjIn_nI, nI_clamp, neg1_lt0, if_pos, if_neg, if_true, if_false, Bool.false_eq_true, and_true, true_and, and_false, false_and, mI_pL, mK_pL, mN_pL, mR_pL, mL_pL, mL_pI, mI_pR, mL_pR, mK_pR, mN_pR, mR_pR, mI_pC, mL_pC, mK_pC, mN_pC, mR_pC]) <;> rfl)) | (apply stL; focus ((try simp (disch := omega) only [t.k11, t.r11_0, t.k5, q1, q2, e1, t1.k11, e2, t2.k11, e3, t3.k11, e4, ofNat_nI, i_lit, mI_pI, mK_pI, mN_pI, mR_pI, nI_ltI, nI_eq, nI_add, nI_mul, mjIn_nI, nI_clamp, neg1_lt0, if_pos, if_neg, if_true, if_false, Bool.false_eq_true, and_true, true_and, and_false, false_and, mI_pL, mK_pL, mN_pL, mR_pL, mL_pL, mL_pI, mI_pR, mL_pR, mK_pR, mN_pR, mR_pR, mI_pC, mL_pC, mK_pC, mN_pC, mR_pC]) <;> rfl)) | (apply stA; focus ((try simp (disch := omega) only [t.k11, t.r11_0, t.k5, q1, q2, e1, t1.k11, e2, t2.k11, e3, t3.k11, e4, ofNat_nI, i_lit, mI_pI, mK_pI, mN_pI, mR_pI, nI_ltI, nI_eq, nI_add, nI_mul, mjIn_nI, nI_clamp, neg1_lt0, if_pos, if_neg, if_true, if_false, Bool.false_eq_true, and_true, true_and, and_false, false_and, mI_pL, mK_pL, mN_pL, mR_pL, mL_pL, mL_pI, mI_pR, mL_pR, mK_pR, mN_pR, mR_pR, mI_pC, mL_pC, mK_pC, mN_pC, mR_pC]) <;> rfl)))
    try simp (disch := omega) only [t.k11, t.r11_0, t.k5, q1, q2, e1, t1.k11, e2, t2.k11, e3, t3.k11, e4, ofNat_nI, i_lit, mI_pI, mK_pI, mN_pI, mR_pI, nI_ltI, nI_eq, nI_add, nI_mul, mjIn_nI, nI_clamp, neg1_lt0, if_pos, if_neg, if_true, if_false, Bool.false_eq_true, and_true, true_and, and_false, false_and, mI_pL, mK_pL, mN_pL, mR_pL, mL_pL, mL_pI, mI_pR, mL_pR, mK_pR, mN_pR, mR_pR, mI_pC, mL_pC, mK_pC, mN_pC, mR_pC]
  | inr s1 =>
    rw [hs] at r1
    have c1 : CRo h1 tb tl pre s1 := r1
    have t1 := c1.t
    have sh1 := sum_shr tl s s1 hs
    obtain ⟨h2, e2, f2, r2⟩ := co_sign (lv := lv) E c1 (by omega)
    show ∃ h', _ ∧ _ ∧ CRr h' tb tl pre (thn (signF tl s1) fun s2 => thn (sumF tl s2) fun s3 => .inr (s3.1, s3.2.1 ++ [(opC (kd s1.1)).getD 0], s3.2.2))
    cases hg : signF tl s1 with
    | inl f =>
      rw [hg] at r2
      have z2 : CRf h2 tb tl f := r2
      obtain ⟨h3, e3, f3, z3⟩ := zf_sum (lv := lv) E z2
      obtain ⟨h4, e4, f4, z4⟩ := zf_step (lv := lv) E z3 (-nI (kd s1.1))
      have t2 := z2.t
      have t3 := z3.t
      refine ⟨h4, ?_, ((f1.tr f2).tr f3).tr f4, z4⟩
      repeat (first | (apply ifT; focus ((try simp (disch := omega) only [t.k11, t.r11_0, t.k5, q1, q2, e1, t1.k11, e2, t2.k11, e3, t3.k11, e4, ofNat_nI, i_lit, mI_pI, mK_pI, mN_pI, mR_pI, nI_ltI, nI_eq, nI_add, nI_mul, mjIn_nI, nI_clamp, neg1_lt0, if_pos, if_neg, if_true, if_false, Bool.false_eq_true, and_true, true_and, and_false, false_and, mI_pL, mK_pL, mN_pL, mR_pL, mL_pL, mL_pI, mI_pR, mL_pR, mK_pR, mN_pR, mR_pR, mI_pC, mL_pC, mK_pC, mN_pC, mR_pC]) <;> first | omega | decide)) | (apply ifF; focus ((try simp (disch := omega) only [t.k11, t.r11_0, t.k5, q1, q2, e1, t1.k11, e2, t2.k11, e3, t3.k11, e4, ofNat_nI, i_lit, mI_pI, mK_pI, mN_pI, mR_pI, nI_ltI, nI_eq, nI_add, nI_mul, mjIn_nI, nI_clamp, neg1_lt0, if_pos, if_neg, if_true, if_false, Bool.false_eq_true, and_true, true_and, and_false, false_and, mI_pL, mK_pL, mN_pL, mR_pL, mL_pL, mL_pI, mI_pR, mL_pR, mK_pR, mN_pR, mR_pR, mI_pC, mL_pC, mK_pC, mN_pC, mR_pC]) <;> first | omega | decide)) | (apply stI; focus ((try simp (disch := omega) only [t.k11, t.r11_0, t.k5, q1, q2, e1, t1.k11, e2, t2.k11, e3, t3.k11, e4, ofNat_nI, i_lit, mI_pI, mK_pI, mN_pI, mR_pI, nI_ltI, nI_eq, nI_add, nI_mul, mjIn_nI, nI_clamp, neg1_lt0, if_pos, if_neg, if_true, if_false, Bool.false_eq_true, and_true, true_and, and_false, false_and, mI_pL, mK_pL, mN_pL, mR_pL, mL_pL, mL_pI, mI_pR, mL_pR, mK_pR, mN_pR, mR_pR, mI_pC, mL_pC, mK_pC, mN_pC, mR_pC]) <;> rfl)) | (apply stV; focus ((try simp (disch := omega) only [t.k11, t.r11_0, t.k5, q1, q2, e1, t1.k11, e2, t2.k11, e3, t3.k11, e4, ofNat_nI, i_lit, mI_pI, mK_pI, mN_pI, mR_pI, nI_ltI, nI_eq, nI_add, nI_mul, mjIn_nI, nI_clamp, neg1_lt0, if_pos, if_neg, if_true, if_false, Bool.false_eq_true, and_true, true_and, and_false, false_and, mI_pL, mK_pL, mN_pL, mR_pL, mL_pL, mL_pI, mI_pR, mL_pR, mK_pR, mN_pR, mR_pR, mI_pC, mL_pC, mK_pC, mN_pC, mR_pC]) <;> rfl)) | (apply stL; focus ((try simp (disch := omega) only [t.k11, t.r11_0, t.k5, q1, q2, e1, t1.k11, e2, t2.k11, e3, t3.k11, e4, ofNat_nI, i_lit, mI_pI, mK_pI, mN_pI, mR_pI, nI_ltI, nI_eq, nI_add, nI_mul, mjIn_nI, nI_clamp, neg1_lt0, if_pos, if_neg, if_true, if_false, Bool.false_eq_true, and_true, true_and, and_false, false_and, mI_pL, mK_pL, mN_pL, mR_pL, mL_pL, mL_pI, mI_pR, mL_pR, mK_pR, mN_pR, mR_pR, mI_pC, mL_pC, mK_pC, mN_pC, mR_pC]) <;> rfl)) | (apply stA; focus ((try simp (disch := omega) only [t.k11, t.r11_0, t.k5, q1, q2, e1, t1.k11, e2, t2.k11, e3, t3.k11, e4, ofNat_nI, i_lit, mI_pI, mK_pI, mN_pI, mR_pI, nI_ltI, nI_eq, nI_add, nI_mul, mjIn_nI, nI_clamp, neg1_lt0, if_pos, if_neg, if_true, if_false, Bool.false_eq_true, and_true, true_and, and_false, false_and, mI_pL, mK_pL, mN_pL, mR_pL, mL_pL, mL_pI, mI_pR, mL_pR, mK_pR, mN_pR, mR_pR, mI_pC, mL_pC, mK_pC, mN_pC, mR_pC]) <;> rfl)))
      try simp (disch := omega) only [t.k11, t.r11_0, t.k5, q1, q2, e1, t1.k11, e2, t2.k11, e3, t3.k11, e4, ofNat_nI, i_lit, mI_pI, mK_pI, mN_pI, mR_pI, nI_ltI, nI_eq, nI_add, nI_mul, mjIn_nI, nI_clamp, neg1_lt0, if_pos, if_neg, if_true, if_false, Bool.false_eq_true, and_true, true_and, and_false, false_and, mI_pL, mK_pL, mN_pL, mR_pL, mL_pL, mL_pI, mI_pR, mL_pR, mK_pR, mN_pR, mR_pR, mI_pC, mL_pC, mK_pC, mN_pC, mR_pC]
    | inr s2 =>
      rw [hg] at r2
      have c2 : CRo h2 tb tl pre s2 := r2
      have t2 := c2.t
      have sh2 := sign_shr hg
      have l2 := congrArg List.length sh2.1
      obtain ⟨h3, e3, f3, r3⟩ := co_sum (lv := lv) E c2 (by omega)
      show ∃ h', _ ∧ _ ∧ CRr h' tb tl pre (thn (sumF tl s2) fun s3 => .inr (s3.1, s3.2.1 ++ [(opC (kd s1.1)).getD 0], s3.2.2))
      cases hs3 : sumF tl s2 with
      | inl f =>
        rw [hs3] at r3
        have z3 : CRf h3 tb tl f := r3
        obtain ⟨h4, e4, f4, z4⟩ := zf_step (lv := lv) E z3 (-nI (kd s1.1))
        have t3 := z3.t
        refine ⟨h4, ?_, ((f1.tr f2).tr f3).tr f4, z4⟩
        repeat (first | (apply ifT; focus ((try simp (disch := omega) only [t.k11, t.r11_0, t.k5, q1, q2, e1, t1.k11, e2, t2.k11, e3, t3.k11, e4, ofNat_nI, i_lit, mI_pI, mK_pI, mN_pI, mR_pI, nI_ltI, nI_eq, nI_add, nI_mul, mjIn_nI, nI_clamp, neg1_lt0, if_pos, if_neg, if_true, if_false, Bool.false_eq_true, and_true, true_and, and_false, false_and, mI_pL, mK_pL, mN_pL, mR_pL, mL_pL, mL_pI, mI_pR, mL_pR, mK_pR, mN_pR, mR_pR, mI_pC, mL_pC, mK_pC, mN_pC, mR_pC]) <;> first | omega | decide)) | (apply ifF; focus ((try simp (disch := omega) only [t.k11, t.r11_0, t.k5, q1, q2, e1, t1.k11, e2, t2.k11, e3, t3.k11, e4, ofNat_nI, i_lit, mI_pI, mK_pI, mN_pI, mR_pI, nI_ltI, nI_eq, nI_add, nI_mul, mjIn_nI, nI_clamp, neg1_lt0, if_pos, if_neg, if_true, if_false, Bool.false_eq_true, and_true, true_and, and_false, false_and, mI_pL, mK_pL, mN_pL, mR_pL, mL_pL, mL_pI, mI_pR, mL_pR, mK_pR, mN_pR, mR_pR, mI_pC, mL_pC, mK_pC, mN_pC, mR_pC]) <;> first | omega | decide)) | (apply stI; focus ((try simp (disch := omega) only [t.k11, t.r11_0, t.k5, q1, q2, e1, t1.k11, e2, t2.k11, e3, t3.k11, e4, ofNat_nI, i_lit, mI_pI, mK_pI, mN_pI, mR_pI, nI_ltI, nI_eq, nI_add, nI_mul, mjIn_nI, nI_clamp, neg1_lt0, if_pos, if_neg, if_true, if_false, Bool.false_eq_true, and_true, true_and, and_false, false_and, mI_pL, mK_pL, mN_pL, mR_pL, mL_pL, mL_pI, mI_pR, mL_pR, mK_pR, mN_pR, mR_pR, mI_pC, mL_pC, mK_pC, mN_pC, mR_pC]) <;> rfl)) | (apply stV; focus ((try simp (disch := omega) only [t.k11, t.r11_0, t.k5, q1, q2, e1, t1.k11, e2, t2.k11, e3, t3.k11, e4, ofNat_nI, i_lit, mI_pI, mK_pI, mN_pI, mR_pI, nI_ltI, nI_eq, nI_add, nI_mul, mjIn_nI, nI_clamp, neg1_lt0, if_pos, if_neg, if_true, if_false, Bool.false_eq_true, and_true, true_and, and_false, false_and, mI_pL, mK_pL, mN_pL, mR_pL, mL_pL, mL_pI, mI_pR, mL_pR, mK_pR, mN_pR, mR_pR, mI_pC, mL_pC, mK_pC, mN_pC, mR_pC]) <;> rfl)) | (apply stL; focus ((try simp (disch := omega) only [t.k11, t.r11_0, t.k5, q1, q2, e1, t1.k11, e2, t2.k11, e3, t3.k11, e4, ofNat_nI, i_lit, mI_pI, mK_pI, mN_pI, mR_pI, nI_ltI, nI_eq, nI_add, nI_mul, mjIn_nI, nI_clamp, neg1_lt0, if_pos, if_neg, if_true, if_false, Bool.false_eq_true, and_true, true_and, and_false, false_and, mI_pL, mK_pL, mN_pL, mR_pL, mL_pL, mL_pI, mI_pR, mL_pR, mK_pR, mN_pR, mR_pR, mI_pC, mL_pC, mK_pC, mN_pC, mR_pC]) <;> rfl)) | (apply stA; focus ((try simp (disch := omega) only [t.k11, t.r11_0, t.k5, q1, q2, e1, t1.k11, e2, t2.k11, e3, t3.k11, e4, ofNat_nI, i_lit, mI_pI, mK_pI, mN_pI, mR_pI, nI_ltI, nI_eq, nI_add, nI_mul, mjIn_nI, nI_clamp, neg1_lt0, if_pos, if_neg, if_true, if_false, Bool.false_eq_true, and_true, true_and, and_false, false_and, mI_pL, mK_pL, mN_pL, mR_pL, mL_pL, mL_pI, mI_pR, mL_pR, mK_pR, mN_pR, mR_pR, mI_pC, mL_pC, mK_pC, mN_pC, mR_pC]) <;> rfl)))
        try simp (disch := omega) only [t.k11, t.r11_0, t.k5, q1, q2, e1, t1.k11, e2, t2.k11, e3, t3.k11, e4, ofNat_nI, i_lit, mI_pI, mK_pI, mN_pI, mR_pI, nI_ltI, nI_eq, nI_add, nI_mul, mjIn_nI, nI_clamp, neg1_lt0, if_pos, if_neg, if_true, if_false, Bool.false_eq_true, and_true, true_and, and_false, false_and, mI_pL, mK_pL, mN_pL, mR_pL, mL_pL, mL_pI, mI_pR, mL_pR, mK_pR, mN_pR, mR_pR, mI_pC, mL_pC, mK_pC, mN_pC, mR_pC]
      | inr s3 =>
        rw [hs3] at r3
        have c3' : CRo h3 tb tl pre s3 := r3
        have t3 := c3'.t
        have sh3 := sum_shr tl s2 s3 hs3
        obtain ⟨o, ho⟩ : ∃ o, opC (kd s1.1) = some o := by
          cases hc : opC (kd s1.1) with
          | none => exact absurd hc sh2.2.2
          | some o => exact ⟨o, rfl⟩
        obtain ⟨h4, e4, f4, c4⟩ := co_step (lv := lv) E c3' o (by omega)
        rw [← opC_step ho] at e4
        rw [ho]
        refine ⟨h4, ?_, ((f1.tr f2).tr f3).tr f4, c4⟩
        repeat (first | (apply ifT; focus ((try simp (disch := omega) only [t.k11, t.r11_0, t.k5, q1, q2, e1, t1.k11, e2, t2.k11, e3, t3.k11, e4, ofNat_nI, i_lit, mI_pI, mK_pI, mN_pI, mR_pI, nI_ltI, nI_eq, nI_add, nI_mul, mjIn_nI, nI_clamp, neg1_lt0, if_pos, if_neg, if_true, if_false, Bool.false_eq_true, and_true, true_and, and_false, false_and, mI_pL, mK_pL, mN_pL, mR_pL, mL_pL, mL_pI, mI_pR, mL_pR, mK_pR, mN_pR, mR_pR, mI_pC, mL_pC, mK_pC, mN_pC, mR_pC]) <;> first | omega | decide)) | (apply ifF; focus ((try simp (disch := omega) only [t.k11, t.r11_0, t.k5, q1, q2, e1, t1.k11, e2, t2.k11, e3, t3.k11, e4, ofNat_nI, i_lit, mI_pI, mK_pI, mN_pI, mR_pI, nI_ltI, nI_eq, nI_add, nI_mul, mjIn_nI, nI_clamp, neg1_lt0, if_pos, if_neg, if_true, if_false, Bool.false_eq_true, and_true, true_and, and_false, false_and, mI_pL, mK_pL, mN_pL, mR_pL, mL_pL, mL_pI, mI_pR, mL_pR, mK_pR, mN_pR, mR_pR, mI_pC, mL_pC, mK_pC, mN_pC, mR_pC]) <;> first | omega | decide)) | (apply stI; focus ((try simp (disch := omega) only [t.k11, t.r11_0, t.k5, q1, q2, e1, t1.k11, e2, t2.k11, e3, t3.k11, e4, ofNat_nI, i_lit, mI_pI, mK_pI, mN_pI, mR_pI, nI_ltI, nI_eq, nI_add, nI_mul, mjIn_nI, nI_clamp, neg1_lt0, if_pos, if_neg, if_true, if_false, Bool.false_eq_true, and_true, true_and, and_false, false_and, mI_pL, mK_pL, mN_pL, mR_pL, mL_pL, mL_pI, mI_pR, mL_pR, mK_pR, mN_pR, mR_pR, mI_pC, mL_pC, mK_pC, mN_pC, mR_pC]) <;> rfl)) | (apply stV; focus ((try simp (disch := omega) only [t.k11, t.r11_0, t.k5, q1, q2, e1, t1.k11, e2, t2.k11, e3, t3.k11, e4, ofNat_nI, i_lit, mI_pI, mK_pI, mN_pI, mR_pI, nI_ltI, nI_eq, nI_add, nI_mul, mjIn_nI, nI_clamp, neg1_lt0, if_pos, if_neg, if_true, if_false, Bool.false_eq_true, and_true, true_and, and_false, false_and, mI_pL, mK_pL, mN_pL, mR_pL, mL_pL, mL_pI, mI_pR, mL_pR, mK_pR, mN_pR, mR_pR, mI_pC, mL_pC, mK_pC, mN_pC, mR_pC]) <;> rfl)) | (apply stL; focus ((try simp (disch := omega) only [t.k11, t.r11_0, t.k5, q1, q2, e1, t1.k11, e2, t2.k11, e3, t3.k11, e4, ofNat_nI, i_lit, mI_pI, mK_pI, mN_pI, mR_pI, nI_ltI, nI_eq, nI_add, nI_mul, mjIn_nI, nI_clamp, neg1_lt0, if_pos, if_neg, if_true, if_false, Bool.false_eq_true, and_true, true_and, and_false, false_and, mI_pL, mK_pL, mN_pL, mR_pL, mL_pL, mL_pI, mI_pR, mL_pR, mK_pR, mN_pR, mR_pR, mI_pC, mL_pC, mK_pC, mN_pC, mR_pC]) <;> rfl)) | (apply stA; focus ((try simp (disch := omega) only [t.k11, t.r11_0, t.k5, q1, q2, e1, t1.k11, e2, t2.k11, e3, t3.k11, e4, ofNat_nI, i_lit, mI_pI, mK_pI, mN_pI, mR_pI, nI_ltI, nI_eq, nI_add, nI_mul, mjIn_nI, nI_clamp, neg1_lt0, if_pos, if_neg, if_true, if_false, Bool.false_eq_true, and_true, true_and, and_false, false_and, mI_pL, mK_pL, mN_pL, mR_pL, mL_pL, mL_pI, mI_pR, mL_pR, mK_pR, mN_pR, mR_pR, mI_pC, mL_pC, mK_pC, mN_pC, mR_pC]) <;> rfl)))
        try simp (disch := omega) only [t.k11, t.r11_0, t.k5, q1, q2, e1, t1.k11, e2, t2.k11, e3, t3.k11, e4, ofNat_nI, i_lit, mI_pI, mK_pI, mN_pI, mR_pI, nI_ltI, nI_eq, nI_add, nI_mul, mjIn_nI, nI_clamp, neg1_lt0, if_pos, if_neg, if_true, if_false, Bool.false_eq_true, and_true, true_and, and_false, false_and, mI_pL, mK_pL, mN_pL, mR_pL, mL_pL, mL_pI, mI_pR, mL_pR, mK_pR, mN_pR, mR_pR, mI_pC, mL_pC, mK_pC, mN_pC, mR_pC]
end CT
