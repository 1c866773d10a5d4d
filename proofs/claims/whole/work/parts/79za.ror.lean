/-! the reference's reader of tests: and, or -/
section RQ
variable {ev : mjT} {lv : Nat} {tb : Nat → Int32} {tl t : Nat} {pre : List Nat}
/-- how a fact ends -/
def FcR (ev : mjT) (lv : Nat) (tb : Nat → Int32) (tl t : Nat) (pre S : List Nat) (d : Nat) (h : mjS) (X : mjO) (r : rrs) : Prop := match r with
  | .inl f => ∃ h', X = some (.int (nI 0), h') ∧ Fr (FRr t) h h' ∧ mI h' 243 9 = nI f
  | .inr s => ∃ h' w2, X = PX ev lv w2 h' ∧ Fr (FRr t) h h' ∧ RTo h' tb tl t pre S d s
/-- how a test ends -/
def TR (ev : mjT) (lv : Nat) (tb : Nat → Int32) (tl t : Nat) (pre S : List Nat) (d : Nat) (h : mjS) (X : mjO) (r : rrs) : Prop := match r with
  | .inl f => ∃ h', X = some (.int (nI 0), h') ∧ Fr (FRr t) h h' ∧ mI h' 243 9 = nI f
  | .inr s => ∃ h' w P ops, X = PX ev lv w h' ∧ Fr (FRr t) h h' ∧ RTo h' tb tl t pre (P ++ S) d (s.1, ops, s.2.2) ∧ s.2.1 = ops ++ P ∧ (∀ x, x ∈ P → x = 12 ∨ x = 13) ∧ (kd s.1 ≠ 132 ∧ kd s.1 ≠ 133) ∧ pre.length + s.2.1.length + s.1.length + pn S ≤ 400
theorem TR.tr {S : List Nat} {d : Nat} {h h1 : mjS} {X Y : mjO} {r : rrs} (f : Fr (FRr t) h h1) (e : X = Y) (z : TR ev lv tb tl t pre S d h1 Y r) : TR ev lv tb tl t pre S d h X r := by
  cases r with
  | inl g => obtain ⟨h', a, b, c⟩ := z; exact ⟨h', e.trans a, f.tr b, c⟩
  | inr g => obtain ⟨h', w, P, ops, a, b, c⟩ := z; exact ⟨h', w, P, ops, e.trans a, f.tr b, c⟩
def HFx (ev : mjT) (lv : Nat) (tb : Nat → Int32) (tl t : Nat) (pre : List Nat) (F : rst → rrs) (d : Nat) : Prop := ∀ (S : List Nat) (h : mjS) (s : rst) (w w' : Value), RTo h tb tl t pre S d s → S.length ≤ 3 * d + 2 → pre.length + s.2.1.length + s.1.length + pn S ≤ 400 → s.1.length < 400 → FcR ev lv tb tl t pre S d h (FCx ev lv w w' h) (F s)
def pb (b : Bool) : List Nat := if b = true then [13] else []
def pa (b : Bool) : List Nat := if b = true then [12] else []
theorem hd_pb {b : Bool} {S0 : List Nat} (hS0 : S0 = [] ∨ ∃ r, S0 = 91 :: r) {x : Nat} {r : List Nat} (e : pb b ++ S0 = x :: r) : str x < 2 := by
  cases b with
  | true =>
    have e1 := (List.cons.inj (show 13 :: S0 = x :: r from e)).1
    rw [← e1]; decide
  | false =>
    have e : S0 = x :: r := e
    rcases hS0 with z | ⟨r', z⟩
    · rw [z] at e; cases e
    · rw [z] at e
      have e1 := (List.cons.inj e).1
      rw [← e1]; decide
theorem hd_s0 {S0 : List Nat} (hS0 : S0 = [] ∨ ∃ r, S0 = 91 :: r) {x : Nat} {r : List Nat} (e : S0 = x :: r) : str x < 1 := by
  rcases hS0 with z | ⟨r', z⟩
  · rw [z] at e; cases e
  · rw [z] at e
    have e1 := (List.cons.inj e).1
    rw [← e1]; decide
theorem hd_pa {a b : Bool} {S0 : List Nat} (hS0 : S0 = [] ∨ ∃ r, S0 = 91 :: r) {x : Nat} {r : List Nat} (e : pa a ++ (pb b ++ S0) = x :: r) : str x < 3 := by
  cases a with
  | true =>
    have e1 := (List.cons.inj (show 12 :: (pb b ++ S0) = x :: r from e)).1
    rw [← e1]; decide
  | false =>
    have := hd_pb (b := b) hS0 e
    omega
theorem rt_or (E : mjFix ev) {F : rst → rrs} {d : Nat} {S0 : List Nat} (sh : Shr F) (HF : HFx ev lv tb tl t pre F d) (hS0 : S0 = [] ∨ ∃ r, S0 = 91 :: r) (l0 : S0.length ≤ 3 * d) (d10 : d ≤ 10) : ∀ (n : Nat) (b : Bool) (s : rst) (h : mjS) (w w' : Value), s.1.length < n → n ≤ 400 → RTo h tb tl t pre (pb b ++ S0) d s → pre.length + s.2.1.length + s.1.length + pn (pb b ++ S0) ≤ 400 → TR ev lv tb tl t pre S0 d h (FCx ev lv w w' h) (orF F n b s) := by
  intro n
  induction n with
  | zero => intro b s h w w' hn; omega
  | succ n ih =>
    intro b s h w w' hn hn4 q hr
    have lb : (pb b).length ≤ 1 := by cases b <;> decide
    have pnb : pn (pb b ++ S0) = (pb b).length + pn S0 := by rw [pn_app]; cases b <;> rfl
    have mb : ∀ x, x ∈ pb b → x = 13 := fun x hx => by
      cases b with
      | false => exact absurd hx List.not_mem_nil
      | true => exact List.mem_singleton.mp hx
    have ands : ∀ (m : Nat) (a : Bool) (s1 : rst) (ops : List Nat) (h : mjS) (w : Value), s1.1.length < m → m ≤ 399 → s1.1.length ≤ n → RTo h tb tl t pre (pa a ++ (pb b ++ S0)) d (s1.1, ops, s1.2.2) → s1.2.1 = ops ++ pa a → pre.length + s1.2.1.length + s1.1.length + pn (pb b ++ S0) ≤ 400 → TR ev lv tb tl t pre S0 d h (PX ev lv w h) (thn (andF F m s1) fun s2 => if kd s2.1 = 132 then orF F n true ((orE b s2).1.tail, (orE b s2).2) else .inr (orE b s2)) := by
      intro m
      induction m with
      | zero => intro a s1 ops h w hm; omega
      | succ m ihm =>
        intro a s1 ops h w hm hm4 hmn q1 eo hr1
        have la : (pa a).length ≤ 1 := by cases a <;> decide
        have ma : ∀ x, x ∈ pa a → x = 12 := fun x hx => by
          cases a with
          | false => exact absurd hx List.not_mem_nil
          | true => exact List.mem_singleton.mp hx
        have lo : s1.2.1.length = ops.length + (pa a).length := by rw [eo, List.length_append]
        have top : ∀ x r, pa a ++ (pb b ++ S0) = x :: r → str x < 3 := fun x r e => hd_pa hS0 e
        by_cases y : kd s1.1 = 133
        · have qa : andF F (m + 1) s1 = thn (F (s1.1.tail, s1.2)) fun s2 => andF F m (s2.1, s2.2.1 ++ [12], s2.2.2) := by show (if kd s1.1 = 133 then _ else _) = _; rw [if_pos y]
          rw [qa]
          have tn := tail_len (ts := s1.1) (by omega)
          obtain ⟨h2, e2, f2, q2⟩ := px_go (lv := lv) E q1 w top (Or.inl (by show kd s1.1 ≠ 93; omega))
          have e3 := kk_is (lv := lv) E q2 w
          rw [if_pos (show kd (s1.1, ops, s1.2.2).1 = 133 from y)] at e3
          obtain ⟨h4, e4, f4, q4⟩ := op_push (lv := lv) (x := 12) (P := pa a) (S := pb b ++ S0) E q2 w (Or.inl rfl) (by show 128 ≤ kd s1.1; omega) (fun z hz => by rw [ma z hz]; decide) (hd3 (fun z r e => hd_pb hS0 e)) (by rw [List.length_append]; omega) (by show pre.length + ops.length + (pa a).length ≤ 400; omega)
          have q4 : RTo h4 tb tl t pre (12 :: (pb b ++ S0)) d (s1.1.tail, ops ++ pa a, s1.2.2) := q4
          rw [← eo] at q4
          have r5 := HF (12 :: (pb b ++ S0)) h4 (s1.1.tail, s1.2) (.int (nI 12)) mjD q4 (by rw [List.length_cons, List.length_append]; omega) (by
            show pre.length + s1.2.1.length + s1.1.tail.length + (1 + pn (pb b ++ S0)) ≤ 400
            omega) (by show s1.1.tail.length < 400; omega)
          have F24 := (f2.mono (fun x k => FPo_FRr (t := t))).tr f4
          have X24 : PX ev lv w h = FCx ev lv (.int (nI 12)) mjD h4 := e2.trans (e3.trans e4)
          cases hF : F (s1.1.tail, s1.2) with
          | inl f =>
            rw [hF] at r5
            obtain ⟨h5, e5, f5, w5⟩ := r5
            exact ⟨h5, X24.trans e5, F24.tr f5, w5⟩
          | inr s2 =>
            rw [hF] at r5
            obtain ⟨h5, w5, e5, f5, q5⟩ := r5
            have a2 := sh _ _ hF
            have a21 : s2.2.1.length + s2.1.length ≤ s1.2.1.length + s1.1.tail.length := a2.1
            have a22 : s2.1.length < s1.1.tail.length := a2.2
            refine TR.tr (F24.tr f5) (X24.trans e5) (ihm true (s2.1, s2.2.1 ++ [12], s2.2.2) s2.2.1 h5 w5 ?_ (by omega) ?_ q5 rfl ?_)
            · show s2.1.length < m
              omega
            · show s2.1.length ≤ n
              omega
            · show pre.length + (s2.2.1 ++ [12]).length + s2.1.length + pn (pb b ++ S0) ≤ 400
              rw [List.length_append, List.length_singleton]; omega
        · have qa : andF F (m + 1) s1 = .inr s1 := by show (if kd s1.1 = 133 then _ else _) = _; rw [if_neg y]
          rw [qa]
          show TR ev lv tb tl t pre S0 d h _ (if kd s1.1 = 132 then orF F n true ((orE b s1).1.tail, (orE b s1).2) else .inr (orE b s1))
          have ob : (orE b s1).2.1 = ops ++ (pa a ++ pb b) := by
            show s1.2.1 ++ (if b = true then [13] else []) = _
            rw [eo, List.append_assoc]; rfl
          have lob : (orE b s1).2.1.length = s1.2.1.length + (pb b).length := by rw [ob, List.length_append, List.length_append, lo]; omega
          by_cases y2 : kd s1.1 = 132
          · rw [if_pos y2]
            have tn := tail_len (ts := s1.1) (by omega)
            obtain ⟨h2, e2, f2, q2⟩ := px_go (lv := lv) E q1 w top (Or.inl (by show kd s1.1 ≠ 93; omega))
            have e3 := kk_is (lv := lv) E q2 w
            rw [if_neg (show ¬ kd (s1.1, ops, s1.2.2).1 = 133 from y), if_pos (show kd (s1.1, ops, s1.2.2).1 = 132 from y2)] at e3
            have q2' : RTn h2 tb tl t pre ((pa a ++ pb b) ++ S0) d (s1.1, ops, s1.2.2) := by rw [List.append_assoc]; exact q2
            obtain ⟨h4, e4, f4, q4⟩ := op_push (lv := lv) (x := 13) (P := pa a ++ pb b) (S := S0) E q2' w (Or.inr rfl) (by show 128 ≤ kd s1.1; omega) (fun z hz => by
              rcases List.mem_append.mp hz with u | u
              · rw [ma z u]; decide
              · rw [mb z u]; decide) (hd3 (fun z r e => hd_s0 hS0 e)) (by omega) (by show pre.length + ops.length + (pa a ++ pb b).length ≤ 400; rw [List.length_append]; omega)
            have q4 : RTo h4 tb tl t pre (13 :: S0) d (s1.1.tail, ops ++ (pa a ++ pb b), s1.2.2) := q4
            rw [← ob] at q4
            refine TR.tr ((f2.mono (fun x k => FPo_FRr (t := t))).tr f4) (e2.trans (e3.trans e4)) (ih true ((orE b s1).1.tail, (orE b s1).2) h4 (.int (nI 13)) mjD ?_ (by omega) q4 ?_)
            · show s1.1.tail.length < n
              omega
            · show pre.length + (orE b s1).2.1.length + s1.1.tail.length + (1 + pn S0) ≤ 400
              omega
          · rw [if_neg y2]
            refine ⟨h, w, pa a ++ pb b, ops, rfl, Fr.rf, ?_, ob, fun z hz => ?_, ⟨y2, y⟩, ?_⟩
            · show RTo h tb tl t pre ((pa a ++ pb b) ++ S0) d (s1.1, ops, s1.2.2)
              rw [List.append_assoc]; exact q1
            · rcases List.mem_append.mp hz with u | u
              · exact Or.inl (ma z u)
              · exact Or.inr (mb z u)
            · show pre.length + (orE b s1).2.1.length + s1.1.length + pn S0 ≤ 400
              omega
    have r1 := HF (pb b ++ S0) h s w w' q (by rw [List.length_append]; omega) hr (by omega)
    show TR ev lv tb tl t pre S0 d h _ (thn (F s) fun s1 => thn (andF F 399 s1) fun s2 => if kd s2.1 = 132 then orF F n true ((orE b s2).1.tail, (orE b s2).2) else .inr (orE b s2))
    cases hF : F s with
    | inl f =>
      rw [hF] at r1
      obtain ⟨h1, e1, f1, w1⟩ := r1
      exact ⟨h1, e1, f1, w1⟩
    | inr s1 =>
      rw [hF] at r1
      obtain ⟨h1, w1, e1, f1, q1⟩ := r1
      have a := sh _ _ hF
      exact TR.tr f1 e1 (ands 399 false s1 s1.2.1 h1 w1 (by omega) (by omega) (by omega) q1 (List.append_nil _).symm (by omega))
end RQ
