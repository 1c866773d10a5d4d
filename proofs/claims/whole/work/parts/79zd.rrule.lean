/-! the reference reads a rule -/
/-- where the clauses are, by their numbers -/
def RCx (h : mjS) (k : Nat) : Nat → Nat → rul → Prop
  | _, _, [] => True
  | c, i, (s, t) :: r => (mI h 247 (48 * k + 4 * c) = nI i ∧ mI h 247 (48 * k + 4 * c + 1) = nI (i + s.length) ∧ (match t with
    | none => mI h 247 (48 * k + 4 * c + 2) = -nI 1
    | some t => mI h 247 (48 * k + 4 * c + 2) = nI (i + s.length) ∧ mI h 247 (48 * k + 4 * c + 3) = nI (i + s.length + t.length))) ∧ RCx h k (c + 1) (i + s.length + (t.getD []).length) r
theorem RCx.keep {h h' : mjS} {k : Nat} : ∀ {r : rul} {c i : Nat}, (∀ j, j < 48 * k + 4 * (c + r.length) → mI h' 247 j = mI h 247 j) → RCx h k c i r → RCx h' k c i r := by
  intro r
  induction r with
  | nil => intros; trivial
  | cons d r ih =>
    intro c i hk a
    obtain ⟨s, t⟩ := d
    obtain ⟨⟨a1, a2, a3⟩, a4⟩ := a
    rw [List.length_cons] at hk
    refine ⟨⟨(hk _ (by omega)).trans a1, (hk _ (by omega)).trans a2, ?_⟩, ih (fun j hj => hk j (by omega)) a4⟩
    cases t with
    | none => exact (hk _ (by omega)).trans a3
    | some t => exact ⟨(hk _ (by omega)).trans a3.1, (hk _ (by omega)).trans a3.2⟩
theorem RCx_snoc {h : mjS} {k : Nat} (x : List Nat × Option (List Nat)) : ∀ (r : rul) (c i : Nat), RCx h k c i r → RCx h k (c + r.length) (i + signsN r) [x] → RCx h k c i (r ++ [x]) := by
  intro r
  induction r with
  | nil => intro c i _ b; exact b
  | cons d r ih =>
    intro c i a b
    obtain ⟨s, t⟩ := d
    obtain ⟨a1, a4⟩ := a
    refine ⟨a1, ih _ _ a4 ?_⟩
    rw [List.length_cons] at b
    have e1 : c + 1 + r.length = c + (r.length + 1) := by omega
    have e2 : i + s.length + (t.getD []).length + signsN r = i + (s.length + (t.getD []).length + signsN r) := by omega
    rw [e1, e2]
    exact b
theorem RCx.cl {h : mjS} {k : Nat} : ∀ {r : rul} {c i : Nat}, RCx h k c i r → Rw h 245 (400 * k + i) ((sg r).map nI) → RCl h k c i r := by
  intro r
  induction r with
  | nil => intros; trivial
  | cons d r ih =>
    intro c i a b
    obtain ⟨s, t⟩ := d
    obtain ⟨a1, a4⟩ := a
    have e : sg ((s, t) :: r) = s ++ t.getD [] ++ sg r := rfl
    rw [e, List.map_append] at b
    obtain ⟨b1, b2⟩ := Rw.app.mp b
    rw [List.length_map, List.length_append] at b2
    refine ⟨a1, b1, ih a4 ?_⟩
    rw [show 400 * k + (i + s.length + (t.getD []).length) = 400 * k + i + (s.length + (t.getD []).length) by omega]
    exact b2
theorem RPo.fold {h : mjS} {tb : Nat → Int32} {tl t : Nat} {pre : List Nat} {s : rst} (q : RPo h tb tl t pre s) : RPo h tb tl t (pre ++ s.2.1) (s.1, [], s.2.2) := by
  obtain ⟨p, a, b, c1, c2, c3, c4⟩ := q
  refine ⟨p, a, b, c1, c2, ?_, ?_⟩
  · rw [c3, List.length_append]; rfl
  · show Rw h 245 (400 * t) ((pre ++ s.2.1 ++ []).map nI)
    rw [List.append_nil]; exact c4
abbrev FRw (t a k : Nat) : Prop := FRr t a k ∨ (a = 243 ∧ (k = 1 ∨ k = 14)) ∨ (a = 247 ∧ 48 * t ≤ k) ∨ (a = 248 ∧ k = t)
theorem FRr_FRw {t x k : Nat} (hx : FRr t x k) : FRw t x k := Or.inl hx
theorem FPo_FRw {t x k : Nat} (hx : FPo x k) : FRw t x k := FRr_FRw (FPo_FRr hx)
theorem FSm_FRw {t x k : Nat} (hx : FSm t x k) : FRw t x k := FRr_FRw (FSm_FRr hx)
/-- between clauses -/
def RD (h : mjS) (tb : Nat → Int32) (tl t : Nat) (acc : rul) (ts : List tok) (np : Nat) : Prop := RPo h tb tl t (sg acc) (ts, [], np) ∧ RCx h t 0 0 acc ∧ mI h 248 t = nI acc.length ∧ mI h 243 14 = nI acc.length ∧ acc.length ≤ 12
def RDr (tb : Nat → Int32) (tl t : Nat) (h : mjS) (X : mjO) (r : Nat ⊕ (rul × List tok × Nat)) : Prop := match r with
  | .inl f => ∃ h', X = some (.int (nI 0), h') ∧ Fr (FRw t) h h' ∧ mI h' 243 9 = nI f
  | .inr v => ∃ h', X = some (.int (nI 1), h') ∧ Fr (FRw t) h h' ∧ RD h' tb tl t v.1 v.2.1 v.2.2
section RW
variable {ev : mjT} {lv : Nat} {tb : Nat → Int32} {tl t : Nat}
theorem rx_fin (E : mjFix ev) {h : mjS} {acc : rul} {ts : List tok} {np : Nat} {x : List Nat × Option (List Nat)} (q : RPo h tb tl t (sg (acc ++ [x])) (ts, [], np)) (c0 : RCx h t 0 0 acc) (c8 : mI h 248 t = nI acc.length) (c14 : mI h 243 14 = nI (acc.length + 1)) (al : acc.length < 12)
    (x0 : mI h 247 (48 * t + 4 * acc.length) = nI (signsN acc)) (x1 : mI h 247 (48 * t + 4 * acc.length + 1) = nI (signsN acc + x.1.length)) (x2 : match x.2 with
      | none => mI h 247 (48 * t + 4 * acc.length + 2) = -nI 1
      | some u => mI h 247 (48 * t + 4 * acc.length + 2) = nI (signsN acc + x.1.length)) : ∃ h', ev 167 lv 110 [.ref 243, .int (nI (48 * t + 4 * acc.length))] [] h = some (.int (nI 1), h') ∧ Fr (FRw t) h h' ∧ RD h' tb tl t (acc ++ [x]) ts np := by
  have hs := q.sh
  have t6 := q.np.2
  have c := q.c
  have c11 := c.1.2.1
  have c6 : mI h 246 t = nI (signsN acc + x.1.length + (x.2.getD []).length) := by
    have e : mI h 246 t = nI ((sg (acc ++ [x])).length + 0) := c.2.2.1
    rw [e, sg_app, List.length_append, sg_len]
    congr 1
    show signsN acc + (x.1 ++ x.2.getD [] ++ []).length + 0 = _
    rw [List.append_nil, List.length_append]; omega
  have f : Fr (fun a k => (a = 247 ∧ k = 48 * t + 4 * acc.length + 3) ∨ (a = 248 ∧ k = t)) h (pI (pI h 247 (48 * t + 4 * acc.length + 3) (nI (signsN acc + x.1.length + (x.2.getD []).length))) 248 t (nI (acc.length + 1))) := (Fr.pI (F := fun a k => (a = 247 ∧ k = 48 * t + 4 * acc.length + 3) ∨ (a = 248 ∧ k = t)) (by omega)).tr (Fr.pI (F := fun a k => (a = 247 ∧ k = 48 * t + 4 * acc.length + 3) ∨ (a = 248 ∧ k = t)) (by omega))
  have ln : (acc ++ [x]).length = acc.length + 1 := by rw [List.length_append]; rfl
  refine ⟨_, ?_, f.mono (fun a k hx => by unfold FRw; omega), ?_, ?_, ?_, ?_, ?_⟩
  · rw [e_167_110 E]
    repeat (first | (apply ifT; focus ((try simp (disch := omega) only [hs.k, c11, hs.r_length, hs.k_length, hs.n_length, c6, hs.r_clause, hs.k_clause, hs.n_clause, hs.r_clauses, hs.k_clauses, hs.n_clauses, c8, ofNat_nI, i_lit, mI_pI, mK_pI, mN_pI, mR_pI, nI_ltI, nI_eq, nI_add, nI_mul, mjIn_nI, nI_clamp, neg1_lt0, if_pos, if_neg, if_true, if_false, Bool.false_eq_true, and_true, true_and, and_false, false_and, mI_pL, mK_pL, mN_pL, mR_pL, mL_pL, mL_pI, mI_pR, mL_pR, mK_pR, mN_pR, mR_pR, mI_pC, mL_pC, mK_pC, mN_pC, mR_pC]) <;> first | omega | decide)) | (apply ifF; focus ((try simp (disch := omega) only [hs.k, c11, hs.r_length, hs.k_length, hs.n_length, c6, hs.r_clause, hs.k_clause, hs.n_clause, hs.r_clauses, hs.k_clauses, hs.n_clauses, c8, ofNat_nI, i_lit, mI_pI, mK_pI, mN_pI, mR_pI, nI_ltI, nI_eq, nI_add, nI_mul, mjIn_nI, nI_clamp, neg1_lt0, if_pos, if_neg, if_true, if_false, Bool.false_eq_true, and_true, true_and, and_false, false_and, mI_pL, mK_pL, mN_pL, mR_pL, mL_pL, mL_pI, mI_pR, mL_pR, mK_pR, mN_pR, mR_pR, mI_pC, mL_pC, mK_pC, mN_pC, mR_pC]) <;> first | omega | decide)) | (apply stI; focus ((try simp (disch := omega) only [hs.k, c11, hs.r_length, hs.k_length, hs.n_length, c6, hs.r_clause, hs.k_clause, hs.n_clause, hs.r_clauses, hs.k_clauses, hs.n_clauses, c8, ofNat_nI, i_lit, mI_pI, mK_pI, mN_pI, mR_pI, nI_ltI, nI_eq, nI_add, nI_mul, mjIn_nI, nI_clamp, neg1_lt0, if_pos, if_neg, if_true, if_false, Bool.false_eq_true, and_true, true_and, and_false, false_and, mI_pL, mK_pL, mN_pL, mR_pL, mL_pL, mL_pI, mI_pR, mL_pR, mK_pR, mN_pR, mR_pR, mI_pC, mL_pC, mK_pC, mN_pC, mR_pC]) <;> rfl)) | (apply stV; focus ((try simp (disch := omega) only [hs.k, c11, hs.r_length, hs.k_length, hs.n_length, c6, hs.r_clause, hs.k_clause, hs.n_clause, hs.r_clauses, hs.k_clauses, hs.n_clauses, c8, ofNat_nI, i_lit, mI_pI, mK_pI, mN_pI, mR_pI, nI_ltI, nI_eq, nI_add, nI_mul, mjIn_nI, nI_clamp, neg1_lt0, if_pos, if_neg, if_true, if_false, Bool.false_eq_true, and_true, true_and, and_false, false_and, mI_pL, mK_pL, mN_pL, mR_pL, mL_pL, mL_pI, mI_pR, mL_pR, mK_pR, mN_pR, mR_pR, mI_pC, mL_pC, mK_pC, mN_pC, mR_pC]) <;> rfl)) | (apply stL; focus ((try simp (disch := omega) only [hs.k, c11, hs.r_length, hs.k_length, hs.n_length, c6, hs.r_clause, hs.k_clause, hs.n_clause, hs.r_clauses, hs.k_clauses, hs.n_clauses, c8, ofNat_nI, i_lit, mI_pI, mK_pI, mN_pI, mR_pI, nI_ltI, nI_eq, nI_add, nI_mul, mjIn_nI, nI_clamp, neg1_lt0, if_pos, if_neg, if_true, if_false, Bool.false_eq_true, and_true, true_and, and_false, false_and, mI_pL, mK_pL, mN_pL, mR_pL, mL_pL, mL_pI, mI_pR, mL_pR, mK_pR, mN_pR, mR_pR, mI_pC, mL_pC, mK_pC, mN_pC, mR_pC]) <;> rfl)) | (apply stA; focus ((try simp (disch := omega) only [hs.k, c11, hs.r_length, hs.k_length, hs.n_length, c6, hs.r_clause, hs.k_clause, hs.n_clause, hs.r_clauses, hs.k_clauses, hs.n_clauses, c8, ofNat_nI, i_lit, mI_pI, mK_pI, mN_pI, mR_pI, nI_ltI, nI_eq, nI_add, nI_mul, mjIn_nI, nI_clamp, neg1_lt0, if_pos, if_neg, if_true, if_false, Bool.false_eq_true, and_true, true_and, and_false, false_and, mI_pL, mK_pL, mN_pL, mR_pL, mL_pL, mL_pI, mI_pR, mL_pR, mK_pR, mN_pR, mR_pR, mI_pC, mL_pC, mK_pC, mN_pC, mR_pC]) <;> rfl)))
    try simp (disch := omega) only [hs.k, c11, hs.r_length, hs.k_length, hs.n_length, c6, hs.r_clause, hs.k_clause, hs.n_clause, hs.r_clauses, hs.k_clauses, hs.n_clauses, c8, ofNat_nI, i_lit, mI_pI, mK_pI, mN_pI, mR_pI, nI_ltI, nI_eq, nI_add, nI_mul, mjIn_nI, nI_clamp, neg1_lt0, if_pos, if_neg, if_true, if_false, Bool.false_eq_true, and_true, true_and, and_false, false_and, mI_pL, mK_pL, mN_pL, mR_pL, mL_pL, mL_pI, mI_pR, mL_pR, mK_pR, mN_pR, mR_pR, mI_pC, mL_pC, mK_pC, mN_pC, mR_pC]
  · obtain ⟨p, a, b, cr⟩ := q
    exact ⟨p, a.fr f ⟨by omega, by omega, fun k => by omega⟩, b, cr.fr f ⟨by omega, fun k => by omega, fun k => by omega⟩⟩
  · refine RCx_snoc x acc 0 0 (c0.keep (fun j hj => f.I (by omega))) ?_
    rw [Nat.zero_add, Nat.zero_add]
    obtain ⟨s, u⟩ := x
    refine ⟨⟨by rw [f.I (by omega)]; exact x0, by rw [f.I (by omega)]; exact x1, ?_⟩, trivial⟩
    cases u with
    | none => show mI _ 247 _ = _; rw [f.I (by omega)]; exact x2
    | some u => exact ⟨by rw [f.I (by omega)]; exact x2, by rw [pI_ne (by omega), pI_at]; rfl⟩
  · rw [ln]; exact pI_at
  · rw [ln, f.I (by omega)]; exact c14
  · omega
theorem rx_take (E : mjFix ev) {h : mjS} {acc : rul} {ts : List tok} {np : Nat} (q : RPn h tb tl t (sg acc) (ts, [], np)) (c0 : RCx h t 0 0 acc) (c8 : mI h 248 t = nI acc.length) (c14 : mI h 243 14 = nI (acc.length + 1)) (al : acc.length < 12) (hk : kd ts = 130) (hr : (sg acc).length + ts.length ≤ 400) : RDr tb tl t h (mjCall ev 167 lv [.ref 243] h) (oneF tl acc ts np) := by
  have tn := tail_len (ts := ts) (by omega)
  have t6 := q.o.np.2
  have hs := q.o.sh
  obtain ⟨h1, e1, f1, q1⟩ := rn_pass (lv := lv) E q (by show 128 ≤ kd ts; omega)
  have q1 : RPo h1 tb tl t (sg acc) (ts.tail, [], np) := q1
  have hs1 := q1.sh
  have c11 := q1.c.1.2.1
  have c6 : mI h1 246 t = nI (signsN acc) := by have e : mI h1 246 t = nI ((sg acc).length + 0) := q1.c.2.2.1; rw [e, Nat.add_zero, sg_len]
  have c81 : mI h1 248 t = nI acc.length := by rw [f1.I (by unfold FPo; omega)]; exact c8
  have sgl := sg_len acc
  -- the first number of the clause
  have g2 : Fr (fun a k => a = 247 ∧ 48 * t + 4 * acc.length ≤ k) h1 (pI h1 247 (48 * t + 4 * acc.length) (nI (signsN acc))) := Fr.pI ⟨rfl, Nat.le_refl _⟩
  have q2 : RPo (pI h1 247 (48 * t + 4 * acc.length) (nI (signsN acc))) tb tl t (sg acc) (ts.tail, [], np) := by
    obtain ⟨p, a, b, cr⟩ := q1
    exact ⟨p, a.fr g2 ⟨by omega, by omega, fun k => by omega⟩, b, cr.fr g2 ⟨by omega, fun k => by omega, fun k => by omega⟩⟩
  have hs2 := q2.sh
  have r3 := rx_sum (lv := lv) E q2 (by show (sg acc).length + 0 + ts.tail.length ≤ 400; omega) (by show ts.tail.length < 400; omega)
  have F2 : Fr (FRw t) h (pI h1 247 (48 * t + 4 * acc.length) (nI (signsN acc))) := (f1.mono (fun x k => FPo_FRw)).tr (g2.mono (fun a k hx => by unfold FRw; omega))
  have ef : mjCall ev 167 lv [.ref 243] h = ev 167 lv 0 [.ref 243, mjD] [] h := rfl
  rw [ef, e_167_0 E]
  unfold oneF
  cases hs3 : sumF tl (ts.tail, [], np) with
  | inl f =>
    rw [hs3] at r3
    obtain ⟨h3, e3, f3, w3⟩ := r3
    refine ⟨h3, ?_, F2.tr (f3.mono (fun x k => FSm_FRw)), w3⟩
    repeat (first | (apply ifT; focus ((try simp (disch := omega) only [hs.k, e1, hs1.k, c11, hs1.r_clauses, hs1.k_clauses, hs1.n_clauses, c81, hs1.r_length, hs1.k_length, hs1.n_length, c6, hs1.r_clause, hs1.k_clause, hs1.n_clause, e3, ofNat_nI, i_lit, mI_pI, mK_pI, mN_pI, mR_pI, nI_ltI, nI_eq, nI_add, nI_mul, mjIn_nI, nI_clamp, neg1_lt0, if_pos, if_neg, if_true, if_false, Bool.false_eq_true, and_true, true_and, and_false, false_and, mI_pL, mK_pL, mN_pL, mR_pL, mL_pL, mL_pI, mI_pR, mL_pR, mK_pR, mN_pR, mR_pR, mI_pC, mL_pC, mK_pC, mN_pC, mR_pC]) <;> first | omega | decide)) | (apply ifF; focus ((try simp (disch := omega) only [hs.k, e1, hs1.k, c11, hs1.r_clauses, hs1.k_clauses, hs1.n_clauses, c81, hs1.r_length, hs1.k_length, hs1.n_length, c6, hs1.r_clause, hs1.k_clause, hs1.n_clause, e3, ofNat_nI, i_lit, mI_pI, mK_pI, mN_pI, mR_pI, nI_ltI, nI_eq, nI_add, nI_mul, mjIn_nI, nI_clamp, neg1_lt0, if_pos, if_neg, if_true, if_false, Bool.false_eq_true, and_true, true_and, and_false, false_and, mI_pL, mK_pL, mN_pL, mR_pL, mL_pL, mL_pI, mI_pR, mL_pR, mK_pR, mN_pR, mR_pR, mI_pC, mL_pC, mK_pC, mN_pC, mR_pC]) <;> first | omega | decide)) | (apply stI; focus ((try simp (disch := omega) only [hs.k, e1, hs1.k, c11, hs1.r_clauses, hs1.k_clauses, hs1.n_clauses, c81, hs1.r_length, hs1.k_length, hs1.n_length, c6, hs1.r_clause, hs1.k_clause, hs1.n_clause, e3, ofNat_nI, i_lit, mI_pI, mK_pI, mN_pI, mR_pI, nI_ltI, nI_eq, nI_add, nI_mul, mjIn_nI, nI_clamp, neg1_lt0, if_pos, if_neg, if_true, if_false, Bool.false_eq_true, and_true, true_and, and_false, false_and, mI_pL, mK_pL, mN_pL, mR_pL, mL_pL, mL_pI, mI_pR, mL_pR, mK_pR, mN_pR, mR_pR, mI_pC, mL_pC, mK_pC, mN_pC, mR_pC]) <;> rfl)) | (apply stV; focus ((try simp (disch := omega) only [hs.k, e1, hs1.k, c11, hs1.r_clauses, hs1.k_clauses, hs1.n_clauses, c81, hs1.r_length, hs1.k_length, hs1.n_length, c6, hs1.r_clause, hs1.k_clause, hs1.n_clause, e3, ofNat_nI, i_lit, mI_pI, mK_pI, mN_pI, mR_pI, nI_ltI, nI_eq, nI_add, nI_mul, mjIn_nI, nI_clamp, neg1_lt0, if_pos, if_neg, if_true, if_false, Bool.false_eq_true, and_true, true_and, and_false, false_and, mI_pL, mK_pL, mN_pL, mR_pL, mL_pL, mL_pI, mI_pR, mL_pR, mK_pR, mN_pR, mR_pR, mI_pC, mL_pC, mK_pC, mN_pC, mR_pC]) <;> rfl)) | (apply stL; focus ((try simp (disch := omega) only [hs.k, e1, hs1.k, c11, hs1.r_clauses, hs1.k_clauses, hs1.n_clauses, c81, hs1.r_length, hs1.k_length, hs1.n_length, c6, hs1.r_clause, hs1.k_clause, hs1.n_clause, e3, ofNat_nI, i_lit, mI_pI, mK_pI, mN_pI, mR_pI, nI_ltI, nI_eq, nI_add, nI_mul, mjIn_nI, nI_clamp, neg1_lt0, if_pos, if_neg, if_true, if_false, Bool.false_eq_true, and_true, true_and, and_false, false_and, mI_pL, mK_pL, mN_pL, mR_pL, mL_pL, mL_pI, mI_pR, mL_pR, mK_pR, mN_pR, mR_pR, mI_pC, mL_pC, mK_pC, mN_pC, mR_pC]) <;> rfl)) | (apply stA; focus ((try simp (disch := omega) only [hs.k, e1, hs1.k, c11, hs1.r_clauses, hs1.k_clauses, hs1.n_clauses, c81, hs1.r_length, hs1.k_length, hs1.n_length, c6, hs1.r_clause, hs1.k_clause, hs1.n_clause, e3, ofNat_nI, i_lit, mI_pI, mK_pI, mN_pI, mR_pI, nI_ltI, nI_eq, nI_add, nI_mul, mjIn_nI, nI_clamp, neg1_lt0, if_pos, if_neg, if_true, if_false, Bool.false_eq_true, and_true, true_and, and_false, false_and, mI_pL, mK_pL, mN_pL, mR_pL, mL_pL, mL_pI, mI_pR, mL_pR, mK_pR, mN_pR, mR_pR, mI_pC, mL_pC, mK_pC, mN_pC, mR_pC]) <;> rfl)))
    try simp (disch := omega) only [hs.k, e1, hs1.k, c11, hs1.r_clauses, hs1.k_clauses, hs1.n_clauses, c81, hs1.r_length, hs1.k_length, hs1.n_length, c6, hs1.r_clause, hs1.k_clause, hs1.n_clause, e3, ofNat_nI, i_lit, mI_pI, mK_pI, mN_pI, mR_pI, nI_ltI, nI_eq, nI_add, nI_mul, mjIn_nI, nI_clamp, neg1_lt0, if_pos, if_neg, if_true, if_false, Bool.false_eq_true, and_true, true_and, and_false, false_and, mI_pL, mK_pL, mN_pL, mR_pL, mL_pL, mL_pI, mI_pR, mL_pR, mK_pR, mN_pR, mR_pR, mI_pC, mL_pC, mK_pC, mN_pC, mR_pC]
  | inr s1 =>
    rw [hs3] at r3
    obtain ⟨h3, e3, f3, q3⟩ := r3
    have q3 : RPn h3 tb tl t (sg acc) s1 := q3
    have hs3' := q3.o.sh
    have sh := sum_shr tl _ _ hs3
    have sh1 : s1.2.1.length + s1.1.length ≤ 0 + ts.tail.length := sh.1
    have c113 := q3.o.c.1.2.1
    have c63 : mI h3 246 t = nI (signsN acc + s1.2.1.length) := by rw [q3.o.c.2.2.1, sgl]
    have g4 : Fr (fun a k => a = 247 ∧ 48 * t + 4 * acc.length + 1 ≤ k) h3 (pI (pI h3 247 (48 * t + 4 * acc.length + 1) (nI (signsN acc + s1.2.1.length))) 247 (48 * t + 4 * acc.length + 2) (-nI 1)) := (Fr.pI (F := fun a k => a = 247 ∧ 48 * t + 4 * acc.length + 1 ≤ k) (by omega)).tr (Fr.pI (F := fun a k => a = 247 ∧ 48 * t + 4 * acc.length + 1 ≤ k) (by omega))
    have q4 : RPn (pI (pI h3 247 (48 * t + 4 * acc.length + 1) (nI (signsN acc + s1.2.1.length))) 247 (48 * t + 4 * acc.length + 2) (-nI 1)) tb tl t (sg acc) s1 := by
      obtain ⟨p, a, b, cr⟩ := q3
      exact ⟨p, ⟨a.1.fr g4 ⟨by omega, by omega, fun k => by omega⟩, a.2⟩, b, cr.fr g4 ⟨by omega, fun k => by omega, fun k => by omega⟩⟩
    have hs4 := q4.o.sh
    have F4 : Fr (FRw t) h (pI (pI h3 247 (48 * t + 4 * acc.length + 1) (nI (signsN acc + s1.2.1.length))) 247 (48 * t + 4 * acc.length + 2) (-nI 1)) := (F2.tr (f3.mono (fun x k => FSm_FRw))).tr (g4.mono (fun a k hx => by unfold FRw; omega))
    -- what the clauses before say
    have up : ∀ (a k : Nat), ((a = 247 ∧ k < 48 * t + 4 * acc.length) ∨ a = 248 ∨ (a = 243 ∧ k = 14)) → mI (pI (pI h3 247 (48 * t + 4 * acc.length + 1) (nI (signsN acc + s1.2.1.length))) 247 (48 * t + 4 * acc.length + 2) (-nI 1)) a k = mI h a k := by
      intro a k hx
      rw [g4.I (by omega), f3.I (by unfold FSm; omega), g2.I (by omega), f1.I (by unfold FPo; omega)]
    have c04 := c0.keep (h' := pI (pI h3 247 (48 * t + 4 * acc.length + 1) (nI (signsN acc + s1.2.1.length))) 247 (48 * t + 4 * acc.length + 2) (-nI 1)) (fun j hj => up 247 j (by omega))
    have y0 : mI (pI (pI h3 247 (48 * t + 4 * acc.length + 1) (nI (signsN acc + s1.2.1.length))) 247 (48 * t + 4 * acc.length + 2) (-nI 1)) 247 (48 * t + 4 * acc.length) = nI (signsN acc) := by rw [g4.I (by omega), f3.I (by unfold FSm; omega), pI_at]
    have y1 : mI (pI (pI h3 247 (48 * t + 4 * acc.length + 1) (nI (signsN acc + s1.2.1.length))) 247 (48 * t + 4 * acc.length + 2) (-nI 1)) 247 (48 * t + 4 * acc.length + 1) = nI (signsN acc + s1.2.1.length) := by rw [pI_nk (by omega), pI_at]
    obtain ⟨w0, w1, w2, w3, w4, w5, w6⟩ := W0
    have ew := rn_word (lv := lv) (k := 3) E q4 (by omega) w3
    show RDr tb tl t h _ (if kd s1.1 = 131 then (match orF (factF tl 10) 400 false (s1.1.tail, [], s1.2.2) with
      | .inl f => (.inl f : Nat ⊕ (rul × List tok × Nat))
      | .inr s2 => .inr (acc ++ [(s1.2.1, some s2.2.1)], s2.1, s2.2.2)) else .inr (acc ++ [(s1.2.1, none)], s1.1, s1.2.2))
    by_cases y : kd s1.1 = 131
    · rw [if_pos y]
      have tn1 := tail_len (ts := s1.1) (by omega)
      rw [if_pos (show kd s1.1 = 128 + 3 by omega)] at ew
      obtain ⟨h5, e5, f5, q5⟩ := rn_pass (lv := lv) E q4 (by omega)
      have q5 : RPo h5 tb tl t (sg acc ++ s1.2.1) (s1.1.tail, [], s1.2.2) := q5.fold
      have hs5 := q5.sh
      have c115 := q5.c.1.2.1
      have c65 : mI h5 246 t = nI (signsN acc + s1.2.1.length) := by
        have e : mI h5 246 t = nI ((sg acc ++ s1.2.1).length + 0) := q5.c.2.2.1
        rw [e, Nat.add_zero, List.length_append, sgl]
      have e151 : mjCall ev 151 lv [.ref 243, .long 26982] (pI (pI h3 247 (48 * t + 4 * acc.length + 1) (nI (signsN acc + s1.2.1.length))) 247 (48 * t + 4 * acc.length + 2) (-nI 1)) = some (.int (nI 1), h5) := by
        show ev 151 lv 0 [.ref 243, .long 26982, mjD] [] _ = _
        rw [e_151_0 E]
        have k4 := hs4.k
        repeat (first | (apply ifT; focus ((try simp (disch := omega) only [k4, ew, e5, ofNat_nI, i_lit, mI_pI, mK_pI, mN_pI, mR_pI, nI_ltI, nI_eq, nI_add, nI_mul, mjIn_nI, nI_clamp, neg1_lt0, if_pos, if_neg, if_true, if_false, Bool.false_eq_true, and_true, true_and, and_false, false_and, mI_pL, mK_pL, mN_pL, mR_pL, mL_pL, mL_pI, mI_pR, mL_pR, mK_pR, mN_pR, mR_pR, mI_pC, mL_pC, mK_pC, mN_pC, mR_pC]) <;> first | omega | decide)) | (apply ifF; focus ((try simp (disch := omega) only [k4, ew, e5, ofNat_nI, i_lit, mI_pI, mK_pI, mN_pI, mR_pI, nI_ltI, nI_eq, nI_add, nI_mul, mjIn_nI, nI_clamp, neg1_lt0, if_pos, if_neg, if_true, if_false, Bool.false_eq_true, and_true, true_and, and_false, false_and, mI_pL, mK_pL, mN_pL, mR_pL, mL_pL, mL_pI, mI_pR, mL_pR, mK_pR, mN_pR, mR_pR, mI_pC, mL_pC, mK_pC, mN_pC, mR_pC]) <;> first | omega | decide)) | (apply stI; focus ((try simp (disch := omega) only [k4, ew, e5, ofNat_nI, i_lit, mI_pI, mK_pI, mN_pI, mR_pI, nI_ltI, nI_eq, nI_add, nI_mul, mjIn_nI, nI_clamp, neg1_lt0, if_pos, if_neg, if_true, if_false, Bool.false_eq_true, and_true, true_and, and_false, false_and, mI_pL, mK_pL, mN_pL, mR_pL, mL_pL, mL_pI, mI_pR, mL_pR, mK_pR, mN_pR, mR_pR, mI_pC, mL_pC, mK_pC, mN_pC, mR_pC]) <;> rfl)) | (apply stV; focus ((try simp (disch := omega) only [k4, ew, e5, ofNat_nI, i_lit, mI_pI, mK_pI, mN_pI, mR_pI, nI_ltI, nI_eq, nI_add, nI_mul, mjIn_nI, nI_clamp, neg1_lt0, if_pos, if_neg, if_true, if_false, Bool.false_eq_true, and_true, true_and, and_false, false_and, mI_pL, mK_pL, mN_pL, mR_pL, mL_pL, mL_pI, mI_pR, mL_pR, mK_pR, mN_pR, mR_pR, mI_pC, mL_pC, mK_pC, mN_pC, mR_pC]) <;> rfl)) | (apply stL; focus ((try simp (disch := omega) only [k4, ew, e5, ofNat_nI, i_lit, mI_pI, mK_pI, mN_pI, mR_pI, nI_ltI, nI_eq, nI_add, nI_mul, mjIn_nI, nI_clamp, neg1_lt0, if_pos, if_neg, if_true, if_false, Bool.false_eq_true, and_true, true_and, and_false, false_and, mI_pL, mK_pL, mN_pL, mR_pL, mL_pL, mL_pI, mI_pR, mL_pR, mK_pR, mN_pR, mR_pR, mI_pC, mL_pC, mK_pC, mN_pC, mR_pC]) <;> rfl)) | (apply stA; focus ((try simp (disch := omega) only [k4, ew, e5, ofNat_nI, i_lit, mI_pI, mK_pI, mN_pI, mR_pI, nI_ltI, nI_eq, nI_add, nI_mul, mjIn_nI, nI_clamp, neg1_lt0, if_pos, if_neg, if_true, if_false, Bool.false_eq_true, and_true, true_and, and_false, false_and, mI_pL, mK_pL, mN_pL, mR_pL, mL_pL, mL_pI, mI_pR, mL_pR, mK_pR, mN_pR, mR_pR, mI_pC, mL_pC, mK_pC, mN_pC, mR_pC]) <;> rfl)))
        try simp (disch := omega) only [k4, ew, e5, ofNat_nI, i_lit, mI_pI, mK_pI, mN_pI, mR_pI, nI_ltI, nI_eq, nI_add, nI_mul, mjIn_nI, nI_clamp, neg1_lt0, if_pos, if_neg, if_true, if_false, Bool.false_eq_true, and_true, true_and, and_false, false_and, mI_pL, mK_pL, mN_pL, mR_pL, mL_pL, mL_pI, mI_pR, mL_pR, mK_pR, mN_pR, mR_pR, mI_pC, mL_pC, mK_pC, mN_pC, mR_pC]
      have g6 : Fr (fun a k => a = 247 ∧ k = 48 * t + 4 * acc.length + 2) h5 (pI h5 247 (48 * t + 4 * acc.length + 2) (nI (signsN acc + s1.2.1.length))) := Fr.pI ⟨rfl, rfl⟩
      have q6 : RPo (pI h5 247 (48 * t + 4 * acc.length + 2) (nI (signsN acc + s1.2.1.length))) tb tl t (sg acc ++ s1.2.1) (s1.1.tail, [], s1.2.2) := by
        obtain ⟨p, a, b, cr⟩ := q5
        exact ⟨p, a.fr g6 ⟨by omega, by omega, fun k => by omega⟩, b, cr.fr g6 ⟨by omega, fun k => by omega, fun k => by omega⟩⟩
      have lp : (sg acc ++ s1.2.1).length = (sg acc).length + s1.2.1.length := List.length_append
      have r7 := rx_test (lv := lv) E q6 (by show (sg acc ++ s1.2.1).length + 0 + s1.1.tail.length ≤ 400; omega) (by show s1.1.tail.length < 400; omega)
      have F6 := (F4.tr (f5.mono (fun x k => FPo_FRw))).tr (g6.mono (fun a k hx => by unfold FRw; omega))
      cases ht : orF (factF tl 10) 400 false (s1.1.tail, [], s1.2.2) with
      | inl f =>
        rw [ht] at r7
        obtain ⟨h7, e7, f7, w7⟩ := r7
        refine ⟨h7, ?_, F6.tr (f7.mono (fun x k => FRr_FRw)), w7⟩
        repeat (first | (apply ifT; focus ((try simp (disch := omega) only [hs.k, e1, hs1.k, c11, hs1.r_clauses, hs1.k_clauses, hs1.n_clauses, c81, hs1.r_length, hs1.k_length, hs1.n_length, c6, hs1.r_clause, hs1.k_clause, hs1.n_clause, e3, hs3'.k, c113, hs3'.r_length, hs3'.k_length, hs3'.n_length, c63, hs3'.r_clause, hs3'.k_clause, hs3'.n_clause, e151, hs5.k, c115, hs5.r_length, hs5.k_length, hs5.n_length, c65, hs5.r_clause, hs5.k_clause, hs5.n_clause, e7, ofNat_nI, i_lit, mI_pI, mK_pI, mN_pI, mR_pI, nI_ltI, nI_eq, nI_add, nI_mul, mjIn_nI, nI_clamp, neg1_lt0, if_pos, if_neg, if_true, if_false, Bool.false_eq_true, and_true, true_and, and_false, false_and, mI_pL, mK_pL, mN_pL, mR_pL, mL_pL, mL_pI, mI_pR, mL_pR, mK_pR, mN_pR, mR_pR, mI_pC, mL_pC, mK_pC, mN_pC, mR_pC]) <;> first | omega | decide)) | (apply ifF; focus ((try simp (disch := omega) only [hs.k, e1, hs1.k, c11, hs1.r_clauses, hs1.k_clauses, hs1.n_clauses, c81, hs1.r_length, hs1.k_length, hs1.n_length, c6, hs1.r_clause, hs1.k_clause, hs1.n_clause, e3, hs3'.k, c113, hs3'.r_length, hs3'.k_length, hs3'.n_length, c63, hs3'.r_clause, hs3'.k_clause, hs3'.n_clause, e151, hs5.k, c115, hs5.r_length, hs5.k_length, hs5.n_length, c65, hs5.r_clause, hs5.k_clause, hs5.n_clause, e7, ofNat_nI, i_lit, mI_pI, mK_pI, mN_pI, mR_pI, nI_ltI, nI_eq, nI_add, nI_mul, mjIn_nI, nI_clamp, neg1_lt0, if_pos, if_neg, if_true, if_false, Bool.false_eq_true, and_true, true_and, and_false, false_and, mI_pL, mK_pL, mN_pL, mR_pL, mL_pL, mL_pI, mI_pR, mL_pR, mK_pR, mN_pR, mR_pR, mI_pC, mL_pC, mK_pC, mN_pC, mR_pC]) <;> first | omega | decide)) | (apply stI; focus ((try simp (disch := omega) only [hs.k, e1, hs1.k, c11, hs1.r_clauses, hs1.k_clauses, hs1.n_clauses, c81, hs1.r_length, hs1.k_length, hs1.n_length, c6, hs1.r_clause, hs1.k_clause, hs1.n_clause, e3, hs3'.k, c113, hs3'.r_length, hs3'.k_length, hs3'.n_length, c63, hs3'.r_clause, hs3'.k_clause, hs3'.n_clause, e151, hs5.k, c115, hs5.r_length, hs5.k_length, hs5.n_length, c65, hs5.r_clause, hs5.k_clause, hs5.n_clause, e7, ofNat_nI, i_lit, mI_pI, mK_pI, mN_pI, mR_pI, nI_ltI, nI_eq, nI_add, nI_mul, mjIn_nI, nI_clamp, neg1_lt0, if_pos, if_neg, if_true, if_false, Bool.false_eq_true, and_true, true_and, and_false, false_and, mI_pL, mK_pL, mN_pL, mR_pL, mL_pL, mL_pI, mI_pR, mL_pR, mK_pR, mN_pR, mR_pR, mI_pC, mL_pC, mK_pC, mN_pC, mR_pC]) <;> rfl)) | (apply stV; focus ((try simp (disch := omega) only [hs.k, e1, hs1.k, c11, hs1.r_clauses, hs1.k_clauses, hs1.n_clauses, c81, hs1.r_length, hs1.k_length, hs1.n_length, c6, hs1.r_clause, hs1.k_clause, hs1.n_clause, e3, hs3'.k, c113, hs3'.r_length, hs3'.k_length, hs3'.n_length, c63, hs3'.r_clause, hs3'.k_clause, hs3'.n_clause, e151, hs5.k, c115, hs5.r_length, hs5.k_length, hs5.n_length, c65, hs5.r_clause, hs5.k_clause, hs5.n_clause, e7, ofNat_nI, i_lit, mI_pI, mK_pI, mN_pI, mR_pI, nI_ltI, nI_eq, nI_add, nI_mul, mjIn_nI, nI_clamp, neg1_lt0, if_pos, if_neg, if_true, if_false, Bool.false_eq_true, and_true, true_and, and_false, false_and, mI_pL, mK_pL, mN_pL, mR_pL, mL_pL, mL_pI, mI_pR, mL_pR, mK_pR, mN_pR, mR_pR, mI_pC, mL_pC, mK_pC, mN_pC, mR_pC]) <;> rfl)) | (apply stL; focus ((try simp (disch := omega) only [hs.k, e1, hs1.k, c11, hs1.r_clauses, hs1.k_clauses, hs1.n_clauses, c81, hs1.r_length, hs1.k_length, hs1.n_length, c6, hs1.r_clause, hs1.k_clause, hs1.n_clause, e3, hs3'.k, c113, hs3'.r_length, hs3'.k_length, hs3'.n_length, c63, hs3'.r_clause, hs3'.k_clause, hs3'.n_clause, e151, hs5.k, c115, hs5.r_length, hs5.k_length, hs5.n_length, c65, hs5.r_clause, hs5.k_clause, hs5.n_clause, e7, ofNat_nI, i_lit, mI_pI, mK_pI, mN_pI, mR_pI, nI_ltI, nI_eq, nI_add, nI_mul, mjIn_nI, nI_clamp, neg1_lt0, if_pos, if_neg, if_true, if_false, Bool.false_eq_true, and_true, true_and, and_false, false_and, mI_pL, mK_pL, mN_pL, mR_pL, mL_pL, mL_pI, mI_pR, mL_pR, mK_pR, mN_pR, mR_pR, mI_pC, mL_pC, mK_pC, mN_pC, mR_pC]) <;> rfl)) | (apply stA; focus ((try simp (disch := omega) only [hs.k, e1, hs1.k, c11, hs1.r_clauses, hs1.k_clauses, hs1.n_clauses, c81, hs1.r_length, hs1.k_length, hs1.n_length, c6, hs1.r_clause, hs1.k_clause, hs1.n_clause, e3, hs3'.k, c113, hs3'.r_length, hs3'.k_length, hs3'.n_length, c63, hs3'.r_clause, hs3'.k_clause, hs3'.n_clause, e151, hs5.k, c115, hs5.r_length, hs5.k_length, hs5.n_length, c65, hs5.r_clause, hs5.k_clause, hs5.n_clause, e7, ofNat_nI, i_lit, mI_pI, mK_pI, mN_pI, mR_pI, nI_ltI, nI_eq, nI_add, nI_mul, mjIn_nI, nI_clamp, neg1_lt0, if_pos, if_neg, if_true, if_false, Bool.false_eq_true, and_true, true_and, and_false, false_and, mI_pL, mK_pL, mN_pL, mR_pL, mL_pL, mL_pI, mI_pR, mL_pR, mK_pR, mN_pR, mR_pR, mI_pC, mL_pC, mK_pC, mN_pC, mR_pC]) <;> rfl)))
        try simp (disch := omega) only [hs.k, e1, hs1.k, c11, hs1.r_clauses, hs1.k_clauses, hs1.n_clauses, c81, hs1.r_length, hs1.k_length, hs1.n_length, c6, hs1.r_clause, hs1.k_clause, hs1.n_clause, e3, hs3'.k, c113, hs3'.r_length, hs3'.k_length, hs3'.n_length, c63, hs3'.r_clause, hs3'.k_clause, hs3'.n_clause, e151, hs5.k, c115, hs5.r_length, hs5.k_length, hs5.n_length, c65, hs5.r_clause, hs5.k_clause, hs5.n_clause, e7, ofNat_nI, i_lit, mI_pI, mK_pI, mN_pI, mR_pI, nI_ltI, nI_eq, nI_add, nI_mul, mjIn_nI, nI_clamp, neg1_lt0, if_pos, if_neg, if_true, if_false, Bool.false_eq_true, and_true, true_and, and_false, false_and, mI_pL, mK_pL, mN_pL, mR_pL, mL_pL, mL_pI, mI_pR, mL_pR, mK_pR, mN_pR, mR_pR, mI_pC, mL_pC, mK_pC, mN_pC, mR_pC]
      | inr s2 =>
        rw [ht] at r7
        obtain ⟨h7, e7, f7, q7⟩ := r7
        have q7 : RPn h7 tb tl t (sg acc ++ s1.2.1) s2 := q7
        have q7' : RPo h7 tb tl t (sg (acc ++ [(s1.2.1, some s2.2.1)])) (s2.1, [], s2.2.2) := by
          have e : sg (acc ++ [(s1.2.1, some s2.2.1)]) = sg acc ++ s1.2.1 ++ s2.2.1 := by
            rw [sg_app]
            show sg acc ++ (s1.2.1 ++ s2.2.1 ++ []) = _
            rw [List.append_nil, List.append_assoc]
          rw [e]; exact q7.o.fold
        have up7 : ∀ (a k : Nat), ((a = 247 ∧ k ≠ 48 * t + 4 * acc.length + 2) ∨ a = 248 ∨ (a = 243 ∧ k = 14)) → mI h7 a k = mI (pI (pI h3 247 (48 * t + 4 * acc.length + 1) (nI (signsN acc + s1.2.1.length))) 247 (48 * t + 4 * acc.length + 2) (-nI 1)) a k := by
          intro a k hx
          rw [f7.I (by unfold FRr; omega), g6.I (by omega), f5.I (by unfold FPo; omega)]
        obtain ⟨h8, e8, f8, q8⟩ := rx_fin (lv := lv) (x := (s1.2.1, some s2.2.1)) E q7' (c04.keep (fun j hj => up7 247 j (by omega))) (by rw [up7 248 t (by omega), up 248 t (by omega)]; exact c8) (by rw [up7 243 14 (by omega), up 243 14 (by omega)]; exact c14) al (by rw [up7 247 _ (by omega)]; exact y0) (by rw [up7 247 _ (by omega)]; exact y1) (by
          show mI h7 247 (48 * t + 4 * acc.length + 2) = nI (signsN acc + s1.2.1.length)
          rw [f7.I (by unfold FRr; omega), pI_at])
        have hs7 := q7.o.sh
        refine ⟨h8, ?_, (F6.tr (f7.mono (fun x k => FRr_FRw))).tr f8, q8⟩
        repeat (first | (apply ifT; focus ((try simp (disch := omega) only [hs.k, e1, hs1.k, c11, hs1.r_clauses, hs1.k_clauses, hs1.n_clauses, c81, hs1.r_length, hs1.k_length, hs1.n_length, c6, hs1.r_clause, hs1.k_clause, hs1.n_clause, e3, hs3'.k, c113, hs3'.r_length, hs3'.k_length, hs3'.n_length, c63, hs3'.r_clause, hs3'.k_clause, hs3'.n_clause, e151, hs5.k, c115, hs5.r_length, hs5.k_length, hs5.n_length, c65, hs5.r_clause, hs5.k_clause, hs5.n_clause, e7, e8, ofNat_nI, i_lit, mI_pI, mK_pI, mN_pI, mR_pI, nI_ltI, nI_eq, nI_add, nI_mul, mjIn_nI, nI_clamp, neg1_lt0, if_pos, if_neg, if_true, if_false, Bool.false_eq_true, and_true, true_and, and_false, false_and, mI_pL, mK_pL, mN_pL, mR_pL, mL_pL, mL_pI, mI_pR, mL_pR, mK_pR, mN_pR, mR_pR, mI_pC, mL_pC, mK_pC, mN_pC, mR_pC]) <;> first | omega | decide)) | (apply ifF; focus ((try simp (disch := omega) only [hs.k, e1, hs1.k, c11, hs1.r_clauses, hs1.k_clauses, hs1.n_clauses, c81, hs1.r_length, hs1.k_length, hs1.n_length, c6, hs1.r_clause, hs1.k_clause, hs1.n_clause, e3, hs3'.k, c113, hs3'.r_length, hs3'.k_length, hs3'.n_length, c63, hs3'.r_clause, hs3'.k_clause, hs3'.n_clause, e151, hs5.k, c115, hs5.r_length, hs5.k_length, hs5.n_length, c65, hs5.r_clause, hs5.k_clause, hs5.n_clause, e7, e8, ofNat_nI, i_lit, mI_pI, mK_pI, mN_pI, mR_pI, nI_ltI, nI_eq, nI_add, nI_mul, mjIn_nI, nI_clamp, neg1_lt0, if_pos, if_neg, if_true, if_false, Bool.false_eq_true, and_true, true_and, and_false, false_and, mI_pL, mK_pL, mN_pL, mR_pL, mL_pL, mL_pI, mI_pR, mL_pR, mK_pR, mN_pR, mR_pR, mI_pC, mL_pC, mK_pC, mN_pC, mR_pC]) <;> first | omega | decide)) | (apply stI; focus ((try simp (disch := omega) only [hs.k, e1, hs1.k, c11, hs1.r_clauses, hs1.k_clauses, hs1.n_clauses, c81, hs1.r_length, hs1.k_length, hs1.n_length, c6, hs1.r_clause, hs1.k_clause, hs1.n_clause, e3, hs3'.k, c113, hs3'.r_length, hs3'.k_length, hs3'.n_length, c63, hs3'.r_clause, hs3'.k_clause, hs3'.n_clause, e151, hs5.k, c115, hs5.r_length, hs5.k_length, hs5.n_length, c65, hs5.r_clause, hs5.k_clause, hs5.n_clause, e7, e8, ofNat_nI, i_lit, mI_pI, mK_pI, mN_pI, mR_pI, nI_ltI, nI_eq, nI_add, nI_mul, mjIn_nI, nI_clamp, neg1_lt0, if_pos, if_neg, if_true, if_false, Bool.false_eq_true, and_true, true_and, and_false, false_and, mI_pL, mK_pL, mN_pL, mR_pL, mL_pL, mL_pI, mI_pR, mL_pR, mK_pR, mN_pR, mR_pR, mI_pC, mL_pC, mK_pC, mN_pC, mR_pC]) <;> rfl)) | (apply stV; focus ((try simp (disch := omega) only [hs.k, e1, hs1.k, c11, hs1.r_clauses, hs1.k_clauses, hs1.n_clauses, c81, hs1.r_length, hs1.k_length, hs1.n_length, c6, hs1.r_clause, hs1.k_clause, hs1.n_clause, e3, hs3'.k, c113, hs3'.r_length, hs3'.k_length, hs3'.n_length, c63, hs3'.r_clause, hs3'.k_clause, hs3'.n_clause, e151, hs5.k, c115, hs5.r_length, hs5.k_length, hs5.n_length, c65, hs5.r_clause, hs5.k_clause, hs5.n_clause, e7, e8, ofNat_nI, i_lit, mI_pI, mK_pI, mN_pI, mR_pI, nI_ltI, nI_eq, nI_add, nI_mul, mjIn_nI, nI_clamp, neg1_lt0, if_pos, if_neg, if_true, if_false, Bool.false_eq_true, and_true, true_and, and_false, false_and, mI_pL, mK_pL, mN_pL, mR_pL, mL_pL, mL_pI, mI_pR, mL_pR, mK_pR, mN_pR, mR_pR, mI_pC, mL_pC, mK_pC, mN_pC, mR_pC]) <;> rfl)) | (apply stL; focus ((try simp (disch := omega) only [hs.k, e1, hs1.k, c11, hs1.r_clauses, hs1.k_clauses, hs1.n_clauses, c81, hs1.r_length, hs1.k_length, hs1.n_length, c6, hs1.r_clause, hs1.k_clause, hs1.n_clause, e3, hs3'.k, c113, hs3'.r_length, hs3'.k_length, hs3'.n_length, c63, hs3'.r_clause, hs3'.k_clause, hs3'.n_clause, e151, hs5.k, c115, hs5.r_length, hs5.k_length, hs5.n_length, c65, hs5.r_clause, hs5.k_clause, hs5.n_clause, e7, e8, ofNat_nI, i_lit, mI_pI, mK_pI, mN_pI, mR_pI, nI_ltI, nI_eq, nI_add, nI_mul, mjIn_nI, nI_clamp, neg1_lt0, if_pos, if_neg, if_true, if_false, Bool.false_eq_true, and_true, true_and, and_false, false_and, mI_pL, mK_pL, mN_pL, mR_pL, mL_pL, mL_pI, mI_pR, mL_pR, mK_pR, mN_pR, mR_pR, mI_pC, mL_pC, mK_pC, mN_pC, mR_pC]) <;> rfl)) | (apply stA; focus ((try simp (disch := omega) only [hs.k, e1, hs1.k, c11, hs1.r_clauses, hs1.k_clauses, hs1.n_clauses, c81, hs1.r_length, hs1.k_length, hs1.n_length, c6, hs1.r_clause, hs1.k_clause, hs1.n_clause, e3, hs3'.k, c113, hs3'.r_length, hs3'.k_length, hs3'.n_length, c63, hs3'.r_clause, hs3'.k_clause, hs3'.n_clause, e151, hs5.k, c115, hs5.r_length, hs5.k_length, hs5.n_length, c65, hs5.r_clause, hs5.k_clause, hs5.n_clause, e7, e8, ofNat_nI, i_lit, mI_pI, mK_pI, mN_pI, mR_pI, nI_ltI, nI_eq, nI_add, nI_mul, mjIn_nI, nI_clamp, neg1_lt0, if_pos, if_neg, if_true, if_false, Bool.false_eq_true, and_true, true_and, and_false, false_and, mI_pL, mK_pL, mN_pL, mR_pL, mL_pL, mL_pI, mI_pR, mL_pR, mK_pR, mN_pR, mR_pR, mI_pC, mL_pC, mK_pC, mN_pC, mR_pC]) <;> rfl)))
        try simp (disch := omega) only [hs.k, e1, hs1.k, c11, hs1.r_clauses, hs1.k_clauses, hs1.n_clauses, c81, hs1.r_length, hs1.k_length, hs1.n_length, c6, hs1.r_clause, hs1.k_clause, hs1.n_clause, e3, hs3'.k, c113, hs3'.r_length, hs3'.k_length, hs3'.n_length, c63, hs3'.r_clause, hs3'.k_clause, hs3'.n_clause, e151, hs5.k, c115, hs5.r_length, hs5.k_length, hs5.n_length, c65, hs5.r_clause, hs5.k_clause, hs5.n_clause, e7, e8, ofNat_nI, i_lit, mI_pI, mK_pI, mN_pI, mR_pI, nI_ltI, nI_eq, nI_add, nI_mul, mjIn_nI, nI_clamp, neg1_lt0, if_pos, if_neg, if_true, if_false, Bool.false_eq_true, and_true, true_and, and_false, false_and, mI_pL, mK_pL, mN_pL, mR_pL, mL_pL, mL_pI, mI_pR, mL_pR, mK_pR, mN_pR, mR_pR, mI_pC, mL_pC, mK_pC, mN_pC, mR_pC]
    · rw [if_neg y]
      rw [if_neg (show ¬ kd s1.1 = 128 + 3 by omega)] at ew
      have e151 : mjCall ev 151 lv [.ref 243, .long 26982] (pI (pI h3 247 (48 * t + 4 * acc.length + 1) (nI (signsN acc + s1.2.1.length))) 247 (48 * t + 4 * acc.length + 2) (-nI 1)) = some (.int (nI 0), pI (pI h3 247 (48 * t + 4 * acc.length + 1) (nI (signsN acc + s1.2.1.length))) 247 (48 * t + 4 * acc.length + 2) (-nI 1)) := by
        show ev 151 lv 0 [.ref 243, .long 26982, mjD] [] _ = _
        rw [e_151_0 E]
        have k4 := hs4.k
        repeat (first | (apply ifT; focus ((try simp (disch := omega) only [k4, ew, ofNat_nI, i_lit, mI_pI, mK_pI, mN_pI, mR_pI, nI_ltI, nI_eq, nI_add, nI_mul, mjIn_nI, nI_clamp, neg1_lt0, if_pos, if_neg, if_true, if_false, Bool.false_eq_true, and_true, true_and, and_false, false_and, mI_pL, mK_pL, mN_pL, mR_pL, mL_pL, mL_pI, mI_pR, mL_pR, mK_pR, mN_pR, mR_pR, mI_pC, mL_pC, mK_pC, mN_pC, mR_pC]) <;> first | omega | decide)) | (apply ifF; focus ((try simp (disch := omega) only [k4, ew, ofNat_nI, i_lit, mI_pI, mK_pI, mN_pI, mR_pI, nI_ltI, nI_eq, nI_add, nI_mul, mjIn_nI, nI_clamp, neg1_lt0, if_pos, if_neg, if_true, if_false, Bool.false_eq_true, and_true, true_and, and_false, false_and, mI_pL, mK_pL, mN_pL, mR_pL, mL_pL, mL_pI, mI_pR, mL_pR, mK_pR, mN_pR, mR_pR, mI_pC, mL_pC, mK_pC, mN_pC, mR_pC]) <;> first | omega | decide)) | (apply stI; focus ((try simp (disch := omega) only [k4, ew, ofNat_nI, i_lit, mI_pI, mK_pI, mN_pI, mR_pI, nI_ltI, nI_eq, nI_add, nI_mul, mjIn_nI, nI_clamp, neg1_lt0, if_pos, if_neg, if_true, if_false, Bool.false_eq_true, and_true, true_and, and_false, false_and, mI_pL, mK_pL, mN_pL, mR_pL, mL_pL, mL_pI, mI_pR, mL_pR, mK_pR, mN_pR, mR_pR, mI_pC, mL_pC, mK_pC, mN_pC, mR_pC]) <;> rfl)) | (apply stV; focus ((try simp (disch := omega) only [k4, ew, ofNat_nI, i_lit, mI_pI, mK_pI, mN_pI, mR_pI, nI_ltI, nI_eq, nI_add, nI_mul, mjIn_nI, nI_clamp, neg1_lt0, if_pos, if_neg, if_true, if_false, Bool.false_eq_true, and_true, true_and, and_false, false_and, mI_pL, mK_pL, mN_pL, mR_pL, mL_pL, mL_pI, mI_pR, mL_pR, mK_pR, mN_pR, mR_pR, mI_pC, mL_pC, mK_pC, mN_pC, mR_pC]) <;> rfl)) | (apply stL; focus ((try simp (disch := omega) only [k4, ew, ofNat_nI, i_lit, mI_pI, mK_pI, mN_pI, mR_pI, nI_ltI, nI_eq, nI_add, nI_mul, mjIn_nI, nI_clamp, neg1_lt0, if_pos, if_neg, if_true, if_false, Bool.false_eq_true, and_true, true_and, and_false, false_and, mI_pL, mK_pL, mN_pL, mR_pL, mL_pL, mL_pI, mI_pR, mL_pR, mK_pR, mN_pR, mR_pR, mI_pC, mL_pC, mK_pC, mN_pC, mR_pC]) <;> rfl)) | (apply stA; focus ((try simp (disch := omega) only [k4, ew, ofNat_nI, i_lit, mI_pI, mK_pI, mN_pI, mR_pI, nI_ltI, nI_eq, nI_add, nI_mul, mjIn_nI, nI_clamp, neg1_lt0, if_pos, if_neg, if_true, if_false, Bool.false_eq_true, and_true, true_and, and_false, false_and, mI_pL, mK_pL, mN_pL, mR_pL, mL_pL, mL_pI, mI_pR, mL_pR, mK_pR, mN_pR, mR_pR, mI_pC, mL_pC, mK_pC, mN_pC, mR_pC]) <;> rfl)))
        try simp (disch := omega) only [k4, ew, ofNat_nI, i_lit, mI_pI, mK_pI, mN_pI, mR_pI, nI_ltI, nI_eq, nI_add, nI_mul, mjIn_nI, nI_clamp, neg1_lt0, if_pos, if_neg, if_true, if_false, Bool.false_eq_true, and_true, true_and, and_false, false_and, mI_pL, mK_pL, mN_pL, mR_pL, mL_pL, mL_pI, mI_pR, mL_pR, mK_pR, mN_pR, mR_pR, mI_pC, mL_pC, mK_pC, mN_pC, mR_pC]
      have q4' : RPo (pI (pI h3 247 (48 * t + 4 * acc.length + 1) (nI (signsN acc + s1.2.1.length))) 247 (48 * t + 4 * acc.length + 2) (-nI 1)) tb tl t (sg (acc ++ [(s1.2.1, none)])) (s1.1, [], s1.2.2) := by
        have e : sg (acc ++ [(s1.2.1, none)]) = sg acc ++ s1.2.1 := by
          rw [sg_app]
          show sg acc ++ (s1.2.1 ++ [] ++ []) = _
          rw [List.append_nil, List.append_nil]
        rw [e]; exact q4.o.fold
      obtain ⟨h8, e8, f8, q8⟩ := rx_fin (lv := lv) (x := (s1.2.1, none)) E q4' c04 (by rw [up 248 t (by omega)]; exact c8) (by rw [up 243 14 (by omega)]; exact c14) al y0 y1 pI_at
      refine ⟨h8, ?_, F4.tr f8, q8⟩
      repeat (first | (apply ifT; focus ((try simp (disch := omega) only [hs.k, e1, hs1.k, c11, hs1.r_clauses, hs1.k_clauses, hs1.n_clauses, c81, hs1.r_length, hs1.k_length, hs1.n_length, c6, hs1.r_clause, hs1.k_clause, hs1.n_clause, e3, hs3'.k, c113, hs3'.r_length, hs3'.k_length, hs3'.n_length, c63, hs3'.r_clause, hs3'.k_clause, hs3'.n_clause, e151, e8, ofNat_nI, i_lit, mI_pI, mK_pI, mN_pI, mR_pI, nI_ltI, nI_eq, nI_add, nI_mul, mjIn_nI, nI_clamp, neg1_lt0, if_pos, if_neg, if_true, if_false, Bool.false_eq_true, and_true, true_and, and_false, false_and, mI_pL, mK_pL, mN_pL, mR_pL, mL_pL, mL_pI, mI_pR, mL_pR, mK_pR, mN_pR, mR_pR, mI_pC, mL_pC, mK_pC, mN_pC, mR_pC]) <;> first | omega | decide)) | (apply ifF; focus ((try simp (disch := omega) only [hs.k, e1, hs1.k, c11, hs1.r_clauses, hs1.k_clauses, hs1.n_clauses, c81, hs1.r_length, hs1.k_length, hs1.n_length, c6, hs1.r_clause, hs1.k_clause, hs1.n_clause, e3, hs3'.k, c113, hs3'.r_length, hs3'.k_length, hs3'.n_length, c63, hs3'.r_clause, hs3'.k_clause, hs3'.n_clause, e151, e8, ofNat_nI, i_lit, mI_pI, mK_pI, mN_pI, mR_pI, nI_ltI, nI_eq, nI_add, nI_mul, mjIn_nI, nI_clamp, neg1_lt0, if_pos, if_neg, if_true, if_false, Bool.false_eq_true, and_true, true_and, and_false, false_and, mI_pL, mK_pL, mN_pL, mR_pL, mL_pL, mL_pI, mI_pR, mL_pR, mK_pR, mN_pR, mR_pR, mI_pC, mL_pC, mK_pC, mN_pC, mR_pC]) <;> first | omega | decide)) | (apply stI; focus ((try simp (disch := omega) only [hs.k, e1, hs1.k, c11, hs1.r_clauses, hs1.k_clauses, hs1.n_clauses, c81, hs1.r_length, hs1.k_length, hs1.n_length, c6, hs1.r_clause, hs1.k_clause, hs1.n_clause, e3, hs3'.k, c113, hs3'.r_length, hs3'.k_length, hs3'.n_length, c63, hs3'.r_clause, hs3'.k_clause, hs3'.n_clause, e151, e8, ofNat_nI, i_lit, mI_pI, mK_pI, mN_pI, mR_pI, nI_ltI, nI_eq, nI_add, nI_mul, mjIn_nI, nI_clamp, neg1_lt0, if_pos, if_neg, if_true, if_false, Bool.false_eq_true, and_true, true_and, and_false, false_and, mI_pL, mK_pL, mN_pL, mR_pL, mL_pL, mL_pI, mI_pR, mL_pR, mK_pR, mN_pR, mR_pR, mI_pC, mL_pC, mK_pC, mN_pC, mR_pC]) <;> rfl)) | (apply stV; focus ((try simp (disch := omega) only [hs.k, e1, hs1.k, c11, hs1.r_clauses, hs1.k_clauses, hs1.n_clauses, c81, hs1.r_length, hs1.k_length, hs1.n_length, c6, hs1.r_clause, hs1.k_clause, hs1.n_clause, e3, hs3'.k, c113, hs3'.r_length, hs3'.k_length, hs3'.n_length, c63, hs3'.r_clause, hs3'.k_clause, hs3'.n_clause, e151, e8, ofNat_nI, i_lit, mI_pI, mK_pI, mN_pI, mR_pI, nI_ltI, nI_eq, nI_add, nI_mul, mjIn_nI, nI_clamp, neg1_lt0, if_pos, if_neg, if_true, if_false, Bool.false_eq_true, and_true, true_and, and_false, false_and, mI_pL, mK_pL, mN_pL, mR_pL, mL_pL, mL_pI, mI_pR, mL_pR, mK_pR, mN_pR, mR_pR, mI_pC, mL_pC, mK_pC, mN_pC, mR_pC]) <;> rfl)) | (apply stL; focus ((try simp (disch := omega) only [hs.k, e1, hs1.k, c11, hs1.r_clauses, hs1.k_clauses, hs1.n_clauses, c81, hs1.r_length, hs1.k_length, hs1.n_length, c6, hs1.r_clause, hs1.k_clause, hs1.n_clause, e3, hs3'.k, c113, hs3'.r_length, hs3'.k_length, hs3'.n_length, c63, hs3'.r_clause, hs3'.k_clause, hs3'.n_clause, e151, e8, ofNat_nI, i_lit, mI_pI, mK_pI, mN_pI, mR_pI, nI_ltI, nI_eq, nI_add, nI_mul, mjIn_nI, nI_clamp, neg1_lt0, if_pos, if_neg, if_true, if_false, Bool.false_eq_true, and_true, true_and, and_false, false_and, mI_pL, mK_pL, mN_pL, mR_pL, mL_pL, mL_pI, mI_pR, mL_pR, mK_pR, mN_pR, mR_pR, mI_pC, mL_pC, mK_pC, mN_pC, mR_pC]) <;> rfl)) | (apply stA; focus ((try simp (disch := omega) only [hs.k, e1, hs1.k, c11, hs1.r_clauses, hs1.k_clauses, hs1.n_clauses, c81, hs1.r_length, hs1.k_length, hs1.n_length, c6, hs1.r_clause, hs1.k_clause, hs1.n_clause, e3, hs3'.k, c113, hs3'.r_length, hs3'.k_length, hs3'.n_length, c63, hs3'.r_clause, hs3'.k_clause, hs3'.n_clause, e151, e8, ofNat_nI, i_lit, mI_pI, mK_pI, mN_pI, mR_pI, nI_ltI, nI_eq, nI_add, nI_mul, mjIn_nI, nI_clamp, neg1_lt0, if_pos, if_neg, if_true, if_false, Bool.false_eq_true, and_true, true_and, and_false, false_and, mI_pL, mK_pL, mN_pL, mR_pL, mL_pL, mL_pI, mI_pR, mL_pR, mK_pR, mN_pR, mR_pR, mI_pC, mL_pC, mK_pC, mN_pC, mR_pC]) <;> rfl)))
      try simp (disch := omega) only [hs.k, e1, hs1.k, c11, hs1.r_clauses, hs1.k_clauses, hs1.n_clauses, c81, hs1.r_length, hs1.k_length, hs1.n_length, c6, hs1.r_clause, hs1.k_clause, hs1.n_clause, e3, hs3'.k, c113, hs3'.r_length, hs3'.k_length, hs3'.n_length, c63, hs3'.r_clause, hs3'.k_clause, hs3'.n_clause, e151, e8, ofNat_nI, i_lit, mI_pI, mK_pI, mN_pI, mR_pI, nI_ltI, nI_eq, nI_add, nI_mul, mjIn_nI, nI_clamp, neg1_lt0, if_pos, if_neg, if_true, if_false, Bool.false_eq_true, and_true, true_and, and_false, false_and, mI_pL, mK_pL, mN_pL, mR_pL, mL_pL, mL_pI, mI_pR, mL_pR, mK_pR, mN_pR, mR_pR, mI_pC, mL_pC, mK_pC, mN_pC, mR_pC]
end RW
