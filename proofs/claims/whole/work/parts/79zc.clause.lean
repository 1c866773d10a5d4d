/-! a rule's clauses: what is read can be kept; clause by clause -/
def sg : rul → List Nat
  | [] => []
  | c :: r => c.1 ++ c.2.getD [] ++ sg r
theorem sg_app (a b : rul) : sg (a ++ b) = sg a ++ sg b := by
  induction a with
  | nil => rfl
  | cons c r ih => show c.1 ++ c.2.getD [] ++ sg (r ++ b) = c.1 ++ c.2.getD [] ++ sg r ++ sg b; rw [ih]; simp only [List.append_assoc]
theorem sg_len (r : rul) : (sg r).length = signsN r := by
  induction r with
  | nil => rfl
  | cons c r ih =>
    obtain ⟨s, t⟩ := c
    show (s ++ t.getD [] ++ sg r).length = s.length + (t.getD []).length + signsN r
    rw [List.length_append, List.length_append, ih]
/-- one clause -/
def oneF (tl : Nat) (acc : rul) (ts : List tok) (np : Nat) : Nat ⊕ (rul × List tok × Nat) := match sumF tl (ts.tail, [], np) with
  | .inl f => .inl f
  | .inr s1 => if kd s1.1 = 131 then (match orF (factF tl 10) 400 false (s1.1.tail, [], s1.2.2) with
    | .inl f => .inl f
    | .inr s2 => .inr (acc ++ [(s1.2.1, some s2.2.1)], s2.1, s2.2.2)) else .inr (acc ++ [(s1.2.1, none)], s1.1, s1.2.2)
def bndF (r : Nat ⊕ (rul × List tok × Nat)) (K : rul → List tok → Nat → Nat ⊕ rul) : Nat ⊕ rul := match r with
  | .inl f => .inl f
  | .inr v => K v.1 v.2.1 v.2.2
theorem clF_one {tl n : Nat} {acc : rul} {ts : List tok} {np : Nat} (y : kd ts = 130) : clF tl (n + 1) acc ts np = bndF (oneF tl acc ts np) (nxF (clF tl n) tl) := by
  have q : clF tl (n + 1) acc ts np = (match sumF tl (ts.tail, [], np) with
    | .inl f => (.inl f : Nat ⊕ rul)
    | .inr s1 => if kd s1.1 = 131 then (match orF (factF tl 10) 400 false (s1.1.tail, [], s1.2.2) with
      | .inl f => .inl f
      | .inr s2 => nxF (clF tl n) tl (acc ++ [(s1.2.1, some s2.2.1)]) s2.1 s2.2.2) else nxF (clF tl n) tl (acc ++ [(s1.2.1, none)]) s1.1 s1.2.2) := by
    show (if kd ts = 130 then _ else _) = _
    rw [if_pos y]
    rfl
  rw [q]
  unfold oneF
  cases sumF tl (ts.tail, [], np) with
  | inl f => rfl
  | inr s1 =>
    by_cases z : kd s1.1 = 131
    · have p1 : ∀ (A B : Nat ⊕ rul), (if kd s1.1 = 131 then A else B) = A := fun A B => if_pos z
      have p2 : ∀ (A B : Nat ⊕ (rul × List tok × Nat)), (if kd s1.1 = 131 then A else B) = A := fun A B => if_pos z
      refine (p1 _ _).trans (Eq.trans ?_ (congrArg (fun x => bndF x (nxF (clF tl n) tl)) (p2 _ _)).symm)
      cases orF (factF tl 10) 400 false (s1.1.tail, [], s1.2.2) with
      | inl f => rfl
      | inr s2 => rfl
    · have p1 : ∀ (A B : Nat ⊕ rul), (if kd s1.1 = 131 then A else B) = B := fun A B => if_neg z
      have p2 : ∀ (A B : Nat ⊕ (rul × List tok × Nat)), (if kd s1.1 = 131 then A else B) = B := fun A B => if_neg z
      refine (p1 _ _).trans (Eq.trans ?_ (congrArg (fun x => bndF x (nxF (clF tl n) tl)) (p2 _ _)).symm)
      rfl
/-- what one clause adds can be kept -/
theorem oneF_ok {tl : Nat} {acc : rul} {ts : List tok} {np B : Nat} {v : rul × List tok × Nat} (y : kd ts = 130) (e : oneF tl acc ts np = .inr v) (ok : okT tl ts) (hn : np ≤ 60) (ha : okR acc) (h1 : (stepsR acc).length + ts.length ≤ B) (h2 : (sg acc).length + ts.length ≤ B) : okR v.1 ∧ v.1.length = acc.length + 1 ∧ (stepsR v.1).length + v.2.1.length ≤ B ∧ (sg v.1).length + v.2.1.length ≤ B ∧ okT tl v.2.1 ∧ v.2.2 ≤ 60 ∧ v.2.1.length < ts.length := by
  have tn := tail_len (ts := ts) (by omega)
  unfold oneF at e
  cases hs : sumF tl (ts.tail, [], np) with
  | inl f => rw [hs] at e; cases e
  | inr s1 =>
    rw [hs] at e
    obtain ⟨ok1, hn1, x, x1, x2, x3, x4, x5⟩ := sum_gd tl _ s1 ok.tail hn hs
    have sh := sum_shr tl _ _ hs
    have sh1 : s1.2.1.length + s1.1.length ≤ 0 + ts.tail.length := sh.1
    have sh2 : s1.1.length < ts.tail.length := sh.2
    have x1 : s1.2.1 = x := x1
    have x4 : npush x + np ≤ s1.2.2 := x4
    have e : (if kd s1.1 = 131 then (match orF (factF tl 10) 400 false (s1.1.tail, [], s1.2.2) with
      | .inl f => (.inl f : Nat ⊕ (rul × List tok × Nat))
      | .inr s2 => .inr (acc ++ [(s1.2.1, some s2.2.1)], s2.1, s2.2.2)) else .inr (acc ++ [(s1.2.1, none)], s1.1, s1.2.2)) = .inr v := e
    have app : ∀ c : List Nat × Option (List Nat), okC c → okR (acc ++ [c]) := fun c hc d hd => by
      rcases List.mem_append.mp hd with u | u
      · exact ha d u
      · rw [List.mem_singleton.mp u]; exact hc
    by_cases z : kd s1.1 = 131
    · rw [if_pos z] at e
      have tn1 := tail_len (ts := s1.1) (by omega)
      cases ht : orF (factF tl 10) 400 false (s1.1.tail, [], s1.2.2) with
      | inl f => rw [ht] at e; cases e
      | inr s2 =>
        rw [ht] at e
        cases e
        obtain ⟨ok2, hn2, u, u1, u2, u3, u4, u5⟩ := or_gd (fact_gd tl 10) 400 false (s1.1.tail, [], s1.2.2) s2 (Or.inl (by omega)) ok1.tail hn1 ht
        have sh3 := or_shr (fact_shr tl 10) _ _ _ _ ht
        have sh4 : s2.2.1.length + s2.1.length ≤ 0 + s1.1.tail.length + 0 := sh3.1
        have sh5 : s2.1.length ≤ s1.1.tail.length := sh3.2.2
        have u1 : s2.2.1 = u := u1
        have u4 : npush u + s1.2.2 ≤ s2.2.2 := u4
        have ss : (stepsR (acc ++ [(s1.2.1, some s2.2.1)])).length = (stepsR acc).length + s1.2.1.length + s2.2.1.length + 1 := by
          rw [stepsR_app, List.length_append]
          show (stepsR acc).length + (s1.2.1.map stepO ++ (s2.2.1.map stepO ++ [-nI 131]) ++ []).length = _
          rw [List.append_nil, List.length_append, List.length_append, List.length_map, List.length_map, List.length_singleton]; omega
        have gs : (sg (acc ++ [(s1.2.1, some s2.2.1)])).length = (sg acc).length + s1.2.1.length + s2.2.1.length := by
          rw [sg_app, List.length_append]
          show (sg acc).length + (s1.2.1 ++ s2.2.1 ++ []).length = _
          rw [List.append_nil, List.length_append]; omega
        refine ⟨app _ ⟨by rw [x1]; exact x3, by rw [x1]; exact x2, by rw [x1]; exact x5, ?_, ?_, ?_⟩, by rw [List.length_append]; rfl, ?_, ?_, ok2, hn2, ?_⟩
        · show npush s1.2.1 + npush s2.2.1 ≤ 60
          rw [x1, u1]; omega
        · show okL s2.2.1
          rw [u1]; exact u3
        · intro t' ht'
          cases ht'
          rw [u1]; exact u2
        · show (stepsR (acc ++ [(s1.2.1, some s2.2.1)])).length + s2.1.length ≤ B
          rw [ss]; omega
        · show (sg (acc ++ [(s1.2.1, some s2.2.1)])).length + s2.1.length ≤ B
          rw [gs]; omega
        · show s2.1.length < ts.length
          omega
    · rw [if_neg z] at e
      cases e
      have ss : (stepsR (acc ++ [(s1.2.1, none)])).length = (stepsR acc).length + s1.2.1.length + 1 := by
        rw [stepsR_app, List.length_append]
        show (stepsR acc).length + (s1.2.1.map stepO ++ [-nI 130] ++ []).length = _
        rw [List.append_nil, List.length_append, List.length_map, List.length_singleton]; omega
      have gs : (sg (acc ++ [(s1.2.1, none)])).length = (sg acc).length + s1.2.1.length := by
        rw [sg_app, List.length_append]
        show (sg acc).length + (s1.2.1 ++ [] ++ []).length = _
        rw [List.append_nil, List.append_nil]
      refine ⟨app _ ⟨by rw [x1]; exact x3, by rw [x1]; exact x2, by rw [x1]; exact x5, ?_, ?_, ?_⟩, by rw [List.length_append]; rfl, ?_, ?_, ok1, hn1, ?_⟩
      · show npush s1.2.1 + 0 ≤ 60
        rw [x1]; omega
      · exact fun o ho => absurd ho List.not_mem_nil
      · intro t' ht'; cases ht'
      · show (stepsR (acc ++ [(s1.2.1, none)])).length + s1.1.length ≤ B
        rw [ss]; omega
      · show (sg (acc ++ [(s1.2.1, none)])).length + s1.1.length ≤ B
        rw [gs]; omega
      · show s1.1.length < ts.length
        omega
theorem clF_ok {tl B : Nat} : ∀ (n : Nat) (acc : rul) (ts : List tok) (np : Nat) (r : rul), clF tl n acc ts np = .inr r → okT tl ts → np ≤ 60 → okR acc → acc.length + n = 12 → (stepsR acc).length + ts.length ≤ B → (sg acc).length + ts.length ≤ B → okR r ∧ r.length ≤ 12 ∧ (stepsR r).length ≤ B ∧ (sg r).length ≤ B := by
  intro n
  induction n with
  | zero =>
    intro acc ts np r e
    have e : (if kd ts = 130 then (.inl (1 + 8 * pl tl ts + 4) : Nat ⊕ rul) else .inl (1 + 8 * pl tl ts + 0)) = .inr r := e
    split at e <;> cases e
  | succ n ih =>
    intro acc ts np r e ok hn ha hl h1 h2
    by_cases y : kd ts = 130
    · rw [clF_one y] at e
      cases ho : oneF tl acc ts np with
      | inl f => rw [ho] at e; cases e
      | inr v =>
        rw [ho] at e
        have e : nxF (clF tl n) tl v.1 v.2.1 v.2.2 = .inr r := e
        obtain ⟨o1, o2, o3, o4, o5, o6, o7⟩ := oneF_ok y ho ok hn ha h1 h2
        unfold nxF at e
        by_cases z : kd v.2.1 = 1
        · rw [if_pos z] at e
          cases e
          exact ⟨o1, by omega, by omega, by omega⟩
        · rw [if_neg z] at e
          by_cases z2 : kd v.2.1 = 59
          · rw [if_pos z2] at e
            have tn := tail_len (ts := v.2.1) z
            exact ih v.1 v.2.1.tail v.2.2 r e o5.tail o6 o1 (by omega) (by omega) (by omega)
          · rw [if_neg z2] at e; cases e
    · have q : clF tl (n + 1) acc ts np = .inl (1 + 8 * pl tl ts + 0) := by
        show (if kd ts = 130 then _ else _) = _
        rw [if_neg y]
      rw [q] at e; cases e
/-- a rule's text has fewer tokens than bytes -/
theorem tks_take {tb : Nat → Int32} {tl : Nat} (h : kd (tks tb tl) = 130) : (tks tb tl).length + 3 ≤ tl := by
  have gen : ∀ m p, p + m = tl → kd (tkp tb tl p) = 130 → (tkp tb tl p).length + 3 ≤ tl := by
    intro m
    induction m with
    | zero =>
      intro p hm hk
      rw [show p = tl by omega, tkp_end] at hk
      have hk : 1 = 130 := hk
      omega
    | succ m ih =>
      intro p hm hk
      have y : p < tl := by omega
      by_cases b : tb p = nI 32
      · rw [tkp_blank y b] at hk ⊢
        exact ih (p + 1) (by omega) hk
      · rw [tkp_tok y b] at hk ⊢
        have hk : kiT tb tl p = 130 := hk
        have g := ndT_ge (tb := tb) y
        have ln := tkp_len (tb := tb) g.2
        have l : ltr (tb p) = true := by
          by_cases l : ltr (tb p) = true
          · exact l
          · exfalso
            have bs : kiS (tb p) < 128 := by
              have all : ∀ y ∈ mjTx 3, y.toNatClampNeg < 128 := by decide
              unfold kiS
              by_cases m : uB (tb p) ∈ mjTx 3
              · have := all _ m
                split <;> omega
              · rw [find_no m, if_pos (by decide)]; omega
            unfold kiT at hk
            rw [if_neg l] at hk
            split at hk
            · omega
            · split at hk
              · split at hk <;> omega
              · omega
        have k1 : kiT tb tl p = kwF tb p (ndT tb tl p) 18 0 := by unfold kiT; rw [if_pos l]
        rw [k1] at hk
        have iw := (kwF_iff (k := 2) (by omega)).mp hk
        have w4 : wL 2 = 4 := by decide
        have i1 := iw.1
        rw [List.length_cons]
        omega
  exact gen tl 0 (by omega) h
