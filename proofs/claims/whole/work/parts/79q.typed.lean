/-! what is read can be reckoned out: pieces, products, sums -/
theorem npush_app (a b : List Nat) : npush (a ++ b) = npush a + npush b := by
  induction a with
  | nil => show npush b = 0 + npush b; omega
  | cons o l ih => show (if o % 16 = 0 ∨ o % 16 = 1 then 1 else 0) + npush (l ++ b) = (if o % 16 = 0 ∨ o % 16 = 1 then 1 else 0) + npush l + npush b; rw [ih]; omega
theorem okL_app {a b : List Nat} (ha : okL a) (hb : okL b) : okL (a ++ b) := fun o ho => (List.mem_append.mp ho).elim (ha o) (hb o)
theorem okL_one {o : Nat} (h : okO o) : okL [o] := fun x hx => by rw [List.mem_singleton.mp hx]; exact h
theorem ty_one (o : Nat) (ts : List Bool) : ty [o] ts = tyo o ts := by
  show (tyo o ts).bind (fun t => some t) = _
  cases tyo o ts <;> rfl
theorem ty_bin {e1 e2 : List Nat} {a b c : Bool} {o : Nat} (h1 : ty e1 [] = some [a]) (h2 : ty e2 [] = some [b]) (h : tyo o [b, a] = some [c]) : ty (e1 ++ e2 ++ [o]) [] = some [c] := by
  have h3 : ty e2 [a] = some [b, a] := ty_app e2 [a] h2
  rw [List.append_assoc, ty_cat e1 (e2 ++ [o]) h1, ty_cat e2 [o] h3, ty_one]; exact h
theorem ty_more {e2 : List Nat} {a b c : Bool} {o : Nat} (h2 : ty e2 [] = some [b]) (h : tyo o [b, a] = some [c]) : ty (e2 ++ [o]) [a] = some [c] := by
  have h3 : ty e2 [a] = some [b, a] := ty_app e2 [a] h2
  rw [ty_cat e2 [o] h3, ty_one]; exact h
/-- a reader of numbers (of facts) -/
def Gd (tl : Nat) (T : Bool) (F : rst → rrs) : Prop := ∀ s s', okT tl s.1 → s.2.2 ≤ 60 → F s = .inr s' → okT tl s'.1 ∧ s'.2.2 ≤ 60 ∧ ∃ e, s'.2.1 = s.2.1 ++ e ∧ ty e [] = some [T] ∧ okL e ∧ npush e + s.2.2 ≤ s'.2.2 ∧ 1 ≤ npush e
theorem va_lt {tl : Nat} {ts : List tok} (o : okT tl ts) {v : Nat} (h : va ts = some v) : v < 100000 := by
  cases ts with
  | nil => have h : some 0 = some v := h; cases h; omega
  | cons x r => exact (o x List.mem_cons_self).2.2 v h
theorem piece_gd (tl : Nat) : Gd tl false (pieceF tl) := by
  have push : ∀ (s s' : rst) (o : Nat), okT tl s.1 → okO o → (o % 16 = 0 ∨ o % 16 = 1) → pushF tl s o = .inr s' → okT tl s'.1 ∧ s'.2.2 ≤ 60 ∧ ∃ e, s'.2.1 = s.2.1 ++ e ∧ ty e [] = some [false] ∧ okL e ∧ npush e + s.2.2 ≤ s'.2.2 ∧ 1 ≤ npush e := by
    intro s s' o ok oo h01 e
    unfold pushF at e
    by_cases y : 60 ≤ s.2.2
    · rw [if_pos y] at e; cases e
    · rw [if_neg y] at e
      cases e
      have n1 : npush [o] = 1 := by show (if o % 16 = 0 ∨ o % 16 = 1 then 1 else 0) + 0 = 1; rw [if_pos h01]
      refine ⟨ok.tail, by show s.2.2 + 1 ≤ 60; omega, [o], rfl, ?_, okL_one oo, ?_, ?_⟩
      · rw [ty_one]; unfold tyo; rw [if_pos h01]
      · rw [n1]; show 1 + s.2.2 ≤ s.2.2 + 1; omega
      · rw [n1]; omega
  intro s s' ok hn e
  unfold pieceF at e
  by_cases y : kd s.1 = 3
  · rw [if_pos y] at e
    cases hv : va s.1 with
    | none => rw [hv] at e; cases e
    | some v =>
      rw [hv] at e
      have vl := va_lt ok hv
      exact push s s' _ ok ⟨by omega, fun z => by omega⟩ (Or.inl (by omega)) e
  · rw [if_neg y] at e
    by_cases y2 : 135 ≤ kd s.1 ∧ kd s.1 ≤ 145
    · rw [if_pos y2] at e; exact push s s' _ ok ⟨by omega, fun z => by omega⟩ (Or.inr (by omega)) e
    · rw [if_neg y2] at e; cases e
def bas (o : Option Nat) : List Bool := match o with
  | none => []
  | some _ => [false]
theorem chF_gd {tl : Nat} {F : rst → rrs} {op : Nat → Option Nat} (hF : Gd tl false F) (hop : ∀ k o, op k = some o → tyo o [false, false] = some [false] ∧ okO o) : ∀ n o s s', (0 < n ∨ o ≠ none) → (∀ o', o = some o' → tyo o' [false, false] = some [false] ∧ okO o') → okT tl s.1 → s.2.2 ≤ 60 → chF F op n o s = .inr s' → okT tl s'.1 ∧ s'.2.2 ≤ 60 ∧ ∃ e, s'.2.1 = s.2.1 ++ e ∧ ty e (bas o) = some [false] ∧ okL e ∧ npush e + s.2.2 ≤ s'.2.2 ∧ (o = none → 1 ≤ npush e) := by
  intro n
  induction n with
  | zero =>
    intro o s s' h0 ho ok hn e
    cases e
    cases o with
    | none => exact absurd rfl (h0.resolve_left (Nat.lt_irrefl _))
    | some o' => exact ⟨ok, hn, [], (List.append_nil _).symm, rfl, fun x hx => absurd hx List.not_mem_nil, by show 0 + s.2.2 ≤ s.2.2; omega, fun z => by cases z⟩
  | succ n ih =>
    intro o s s' h0 ho ok hn e
    cases e1 : F s with
    | inl f => rw [chF_inl e1] at e; cases e
    | inr s1 =>
      obtain ⟨ok1, hn1, e0, x1, x2, x3, x4, x5⟩ := hF s s1 ok hn e1
      have mid : ty (e0 ++ o.toList) (bas o) = some [false] ∧ okL (e0 ++ o.toList) ∧ npush e0 ≤ npush (e0 ++ o.toList) ∧ npush (e0 ++ o.toList) + s.2.2 ≤ s1.2.2 := by
        cases o with
        | none => rw [show (none : Option Nat).toList = [] from rfl, List.append_nil]; exact ⟨x2, x3, Nat.le_refl _, x4⟩
        | some o' =>
          have h2 := ho o' rfl
          have np0 : npush [o'] = 0 := by
            show (if o' % 16 = 0 ∨ o' % 16 = 1 then 1 else 0) + 0 = 0
            by_cases y : o' % 16 = 0 ∨ o' % 16 = 1
            · have := h2.1; unfold tyo at this; rw [if_pos y] at this; cases this
            · rw [if_neg y]
          refine ⟨ty_more x2 h2.1, okL_app x3 (okL_one h2.2), by rw [npush_app]; omega, ?_⟩
          show npush (e0 ++ [o']) + s.2.2 ≤ s1.2.2
          rw [npush_app, np0]; omega
      cases e2 : op (kd s1.1) with
      | none =>
        rw [chF_none e1 e2] at e
        cases e
        exact ⟨ok1, hn1, e0 ++ o.toList, by show s1.2.1 ++ o.toList = _; rw [x1, List.append_assoc], mid.1, mid.2.1, mid.2.2.2, fun _ => by omega⟩
      | some o' =>
        rw [chF_some e1 e2] at e
        obtain ⟨ok2, hn2, e3, w1, w2, w3, w4, w5⟩ := ih (some o') (s1.1.tail, s1.2.1 ++ o.toList, s1.2.2) s' (Or.inr (by simp)) (fun q hq => by cases hq; exact hop _ _ e2) ok1.tail hn1 e
        have w1 : s'.2.1 = (s1.2.1 ++ o.toList) ++ e3 := w1
        have w4 : npush e3 + s1.2.2 ≤ s'.2.2 := w4
        refine ⟨ok2, hn2, (e0 ++ o.toList) ++ e3, by rw [w1, x1]; simp only [List.append_assoc], ?_, okL_app mid.2.1 w3, by rw [npush_app]; omega, fun _ => by rw [npush_app]; omega⟩
        rw [ty_cat _ e3 mid.1]; exact w2
theorem prod_gd (tl : Nat) : Gd tl false (prodF tl) := fun s s' ok hn e => by
  obtain ⟨a, b, e0, c1, c2, c3, c4, c5⟩ := chF_gd (piece_gd tl) (op := opM) (fun k o h => by
    unfold opM at h
    split at h
    · cases h; exact ⟨by decide, by decide, by decide⟩
    · split at h
      · cases h; exact ⟨by decide, by decide, by decide⟩
      · split at h
        · cases h; exact ⟨by decide, by decide, by decide⟩
        · cases h) 400 none s s' (Or.inl (by omega)) (fun _ z => by cases z) ok hn e
  exact ⟨a, b, e0, c1, c2, c3, c4, c5 rfl⟩
theorem sum_gd (tl : Nat) : Gd tl false (sumF tl) := fun s s' ok hn e => by
  obtain ⟨a, b, e0, c1, c2, c3, c4, c5⟩ := chF_gd (prod_gd tl) (op := opA) (fun k o h => by
    unfold opA at h
    split at h
    · cases h; exact ⟨by decide, by decide, by decide⟩
    · split at h
      · cases h; exact ⟨by decide, by decide, by decide⟩
      · cases h) 400 none s s' (Or.inl (by omega)) (fun _ z => by cases z) ok hn e
  exact ⟨a, b, e0, c1, c2, c3, c4, c5 rfl⟩
