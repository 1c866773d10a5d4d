/-! what is read can be reckoned out: comparisons, facts, tests -/
theorem np_op {o : Nat} (h : ¬ (o % 16 = 0 ∨ o % 16 = 1)) : npush [o] = 0 := by
  show (if o % 16 = 0 ∨ o % 16 = 1 then 1 else 0) + 0 = 0
  rw [if_neg h]
theorem opC_ok {k o : Nat} (h : opC k = some o) : tyo o [false, false] = some [true] ∧ okO o ∧ ¬ (o % 16 = 0 ∨ o % 16 = 1) := by
  unfold opC at h
  split at h
  · cases h; exact ⟨by decide, ⟨by decide, by decide⟩, by decide⟩
  · split at h
    · cases h; exact ⟨by decide, ⟨by decide, by decide⟩, by decide⟩
    · split at h
      · cases h; exact ⟨by decide, ⟨by decide, by decide⟩, by decide⟩
      · split at h
        · cases h; exact ⟨by decide, ⟨by decide, by decide⟩, by decide⟩
        · split at h
          · cases h; exact ⟨by decide, ⟨by decide, by decide⟩, by decide⟩
          · cases h
theorem cmp_gd (tl : Nat) : Gd tl true (cmpF tl) := by
  intro s s' ok hn e
  obtain ⟨s1, e1, e⟩ := thn_inr e
  obtain ⟨s2, e2, e⟩ := thn_inr e
  obtain ⟨s3, e3, e⟩ := thn_inr e
  cases e
  obtain ⟨ok1, hn1, x, x1, x2, x3, x4, x5⟩ := sum_gd tl s s1 ok hn e1
  have sg := sign_shr e2
  obtain ⟨o, ho⟩ : ∃ o, opC (kd s1.1) = some o := by
    cases hc : opC (kd s1.1) with
    | none => exact absurd hc sg.2.2
    | some o => exact ⟨o, rfl⟩
  have oc := opC_ok ho
  have s2e : s2 = (s1.1.tail, s1.2.1, s1.2.2 + 1) ∧ s1.2.2 + 1 ≤ 60 := by
    unfold signF at e2
    rw [if_neg sg.2.2] at e2
    by_cases y : 60 ≤ s1.2.2
    · rw [if_pos y] at e2; cases e2
    · rw [if_neg y] at e2; cases e2; exact ⟨rfl, by omega⟩
  rw [s2e.1] at e3
  obtain ⟨ok3, hn3, z, z1, z2, z3, z4, z5⟩ := sum_gd tl _ s3 ok1.tail s2e.2 e3
  have z1 : s3.2.1 = s1.2.1 ++ z := z1
  have z4 : npush z + (s1.2.2 + 1) ≤ s3.2.2 := z4
  have np := np_op oc.2.2
  rw [ho]
  refine ⟨ok3, hn3, x ++ z ++ [o], ?_, ty_bin x2 z2 oc.1, okL_app (okL_app x3 z3) (okL_one oc.2.1), ?_, ?_⟩
  · show s3.2.1 ++ [o] = _
    rw [z1, x1]; simp only [List.append_assoc]
  · show npush (x ++ z ++ [o]) + s.2.2 ≤ s3.2.2
    rw [npush_app, npush_app, np]; omega
  · rw [npush_app, npush_app]; omega
theorem and_gd {tl : Nat} {F : rst → rrs} (hF : Gd tl true F) : ∀ n s s', okT tl s.1 → s.2.2 ≤ 60 → andF F n s = .inr s' → okT tl s'.1 ∧ s'.2.2 ≤ 60 ∧ ∃ e, s'.2.1 = s.2.1 ++ e ∧ ty e [true] = some [true] ∧ okL e ∧ npush e + s.2.2 ≤ s'.2.2 := by
  intro n
  have nil : ∀ s : rst, okT tl s.1 → s.2.2 ≤ 60 → okT tl s.1 ∧ s.2.2 ≤ 60 ∧ ∃ e, s.2.1 = s.2.1 ++ e ∧ ty e [true] = some [true] ∧ okL e ∧ npush e + s.2.2 ≤ s.2.2 := fun s ok hn => ⟨ok, hn, [], (List.append_nil _).symm, rfl, fun x hx => absurd hx List.not_mem_nil, by show 0 + s.2.2 ≤ s.2.2; omega⟩
  induction n with
  | zero => intro s s' ok hn e; cases e; exact nil s ok hn
  | succ n ih =>
    intro s s' ok hn e
    have e : (if kd s.1 = 133 then thn (F (s.1.tail, s.2)) fun s1 => andF F n (s1.1, s1.2.1 ++ [12], s1.2.2) else .inr s) = .inr s' := e
    by_cases y : kd s.1 = 133
    · rw [if_pos y] at e
      obtain ⟨s1, e1, e⟩ := thn_inr e
      obtain ⟨ok1, hn1, x, x1, x2, x3, x4, x5⟩ := hF (s.1.tail, s.2) s1 ok.tail hn e1
      obtain ⟨ok2, hn2, z, z1, z2, z3, z4⟩ := ih (s1.1, s1.2.1 ++ [12], s1.2.2) s' ok1 hn1 e
      have x1 : s1.2.1 = s.2.1 ++ x := x1
      have x4 : npush x + s.2.2 ≤ s1.2.2 := x4
      have z1 : s'.2.1 = s1.2.1 ++ [12] ++ z := z1
      have z4 : npush z + s1.2.2 ≤ s'.2.2 := z4
      refine ⟨ok2, hn2, x ++ [12] ++ z, by rw [z1, x1]; simp only [List.append_assoc], ?_, okL_app (okL_app x3 (okL_one ⟨by decide, by decide⟩)) z3, by rw [npush_app, npush_app, np_op (o := 12) (by decide)]; omega⟩
      rw [ty_cat _ z (ty_more (c := true) x2 (by decide))]; exact z2
    · rw [if_neg y] at e; cases e; exact nil s ok hn
def bab (b : Bool) : List Bool := if b = true then [true] else []
theorem or_gd {tl : Nat} {F : rst → rrs} (hF : Gd tl true F) : ∀ n b s s', (0 < n ∨ b = true) → okT tl s.1 → s.2.2 ≤ 60 → orF F n b s = .inr s' → okT tl s'.1 ∧ s'.2.2 ≤ 60 ∧ ∃ e, s'.2.1 = s.2.1 ++ e ∧ ty e (bab b) = some [true] ∧ okL e ∧ npush e + s.2.2 ≤ s'.2.2 ∧ (b = false → 1 ≤ npush e) := by
  intro n
  induction n with
  | zero =>
    intro b s s' h0 ok hn e
    cases e
    have hb : b = true := h0.resolve_left (Nat.lt_irrefl _)
    subst hb
    exact ⟨ok, hn, [], (List.append_nil _).symm, rfl, fun x hx => absurd hx List.not_mem_nil, by show 0 + s.2.2 ≤ s.2.2; omega, fun z => by cases z⟩
  | succ n ih =>
    intro b s s' h0 ok hn e
    obtain ⟨s1, e1, e⟩ := thn_inr e
    obtain ⟨s2, e2, e⟩ := thn_inr e
    obtain ⟨ok1, hn1, x, x1, x2, x3, x4, x5⟩ := hF s s1 ok hn e1
    obtain ⟨ok2, hn2, z, z1, z2, z3, z4⟩ := and_gd hF 399 s1 s2 ok1 hn1 e2
    have xz : ty (x ++ z) [] = some [true] := by rw [ty_cat x z x2]; exact z2
    have mid : ∃ m, (orE b s2).2.1 = s.2.1 ++ m ∧ ty m (bab b) = some [true] ∧ okL m ∧ npush m + s.2.2 ≤ s2.2.2 ∧ 1 ≤ npush m := by
      cases b with
      | false =>
        refine ⟨x ++ z, ?_, xz, okL_app x3 z3, by rw [npush_app]; omega, by rw [npush_app]; omega⟩
        show s2.2.1 ++ [] = _
        rw [List.append_nil, z1, x1, List.append_assoc]
      | true =>
        refine ⟨x ++ z ++ [13], ?_, ty_more (c := true) xz (by decide), okL_app (okL_app x3 z3) (okL_one ⟨by decide, by decide⟩), by rw [npush_app, npush_app, np_op (o := 13) (by decide)]; omega, by rw [npush_app, npush_app]; omega⟩
        show s2.2.1 ++ [13] = _
        rw [z1, x1]; simp only [List.append_assoc]
    obtain ⟨m, m1, m2, m3, m4, m5⟩ := mid
    by_cases y : kd s2.1 = 132
    · rw [if_pos y] at e
      obtain ⟨ok3, hn3, v, v1, v2, v3, v4, v5⟩ := ih true ((orE b s2).1.tail, (orE b s2).2) s' (Or.inr rfl) ok2.tail hn2 e
      have v1 : s'.2.1 = (orE b s2).2.1 ++ v := v1
      have v4 : npush v + s2.2.2 ≤ s'.2.2 := v4
      refine ⟨ok3, hn3, m ++ v, by rw [v1, m1, List.append_assoc], ?_, okL_app m3 v3, by rw [npush_app]; omega, fun _ => by rw [npush_app]; omega⟩
      rw [ty_cat m v m2]; exact v2
    · rw [if_neg y] at e
      cases e
      exact ⟨ok2, hn2, m, m1, m2, m3, m4, fun _ => m5⟩
theorem fact_gd (tl : Nat) : ∀ k, Gd tl true (factF tl k) := by
  intro k
  induction k with
  | zero =>
    intro s s' ok hn e
    have e : (if kd s.1 = 134 ∨ kd s.1 = 91 then flt tl s.1 2 else cmpF tl s) = .inr s' := e
    by_cases y : kd s.1 = 134 ∨ kd s.1 = 91
    · rw [if_pos y] at e; cases e
    · rw [if_neg y] at e; exact cmp_gd tl s s' ok hn e
  | succ k ih =>
    intro s s' ok hn e
    have e : (if kd s.1 = 134 then thn (factF tl k (s.1.tail, s.2)) fun s1 => .inr (s1.1, s1.2.1 ++ [11], s1.2.2) else if kd s.1 = 91 then thn (orF (factF tl k) 400 false (s.1.tail, s.2)) fun s1 => if kd s1.1 = 93 then .inr (s1.1.tail, s1.2) else flt tl s1.1 0 else cmpF tl s) = .inr s' := e
    by_cases y : kd s.1 = 134
    · rw [if_pos y] at e
      obtain ⟨s1, e1, e⟩ := thn_inr e
      cases e
      obtain ⟨ok1, hn1, x, x1, x2, x3, x4, x5⟩ := ih (s.1.tail, s.2) s1 ok.tail hn e1
      have x1 : s1.2.1 = s.2.1 ++ x := x1
      refine ⟨ok1, hn1, x ++ [11], by show s1.2.1 ++ [11] = _; rw [x1, List.append_assoc], ?_, okL_app x3 (okL_one ⟨by decide, by decide⟩), by rw [npush_app, np_op (o := 11) (by decide)]; exact x4, by rw [npush_app]; omega⟩
      rw [ty_cat x [11] x2]; rfl
    · rw [if_neg y] at e
      by_cases y2 : kd s.1 = 91
      · rw [if_pos y2] at e
        obtain ⟨s1, e1, e⟩ := thn_inr e
        obtain ⟨ok1, hn1, x, x1, x2, x3, x4, x5⟩ := or_gd ih 400 false (s.1.tail, s.2) s1 (Or.inl (by omega)) ok.tail hn e1
        by_cases y3 : kd s1.1 = 93
        · rw [if_pos y3] at e
          cases e
          exact ⟨ok1.tail, hn1, x, x1, x2, x3, x4, x5 rfl⟩
        · rw [if_neg y3] at e; cases e
      · rw [if_neg y2] at e; exact cmp_gd tl s s' ok hn e
