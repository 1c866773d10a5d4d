/-! THE SMALL MACHINE'S LOCALS AND CELLS as the machine has them: f tells where a numbered cell lies -/
def mjOp (f : Nat → Nat) (r : Nat) : Option Nat := if r = 0 then none else some (f r)
def mjTr (f : Nat → Nat) : Value → Value
  | .ref a => va_rf (mjOp f a)
  | v => v
theorem mjTr_cat (f : Nat → Nat) (v : Value) : (mjTr f v).category = v.category := by
  cases v <;> simp only [mjTr]
  rename_i a
  unfold mjOp
  split <;> rfl
theorem mjTr_null (f : Nat → Nat) : mjTr f (.ref 0) = .null := rfl
theorem mjTr_ref (f : Nat → Nat) {a : Nat} (h : a ≠ 0) : mjTr f (.ref a) = .ref (f a) := by
  show va_rf (mjOp f a) = _
  unfold mjOp
  rw [if_neg h]; rfl
def mjNF : Value → Prop
  | .float _ => False
  | _ => True
def mjLv (f : Nat → Nat) : List Value → Nat → List (Nat × Value)
  | [], _ => []
  | .float _ :: l, i => mjLv f l (i + 1)
  | v :: l, i => (i, mjTr f v) :: mjLv f l (i + 1)
theorem mjLv_cons (f : Nat → Nat) {v : Value} (hv : mjNF v) (l : List Value) (i : Nat) : mjLv f (v :: l) i = (i, mjTr f v) :: mjLv f l (i + 1) := by
  cases v <;> first | rfl | exact absurd hv id
theorem mjLv_mem (f : Nat → Nat) : ∀ (l : List Value) (i : Nat) (q : Nat × Value), q ∈ mjLv f l i → ∃ j v, mjAt l j = some v ∧ mjNF v ∧ q = (i + j, mjTr f v) := by
  intro l
  induction l with
  | nil => intro i q h; cases h
  | cons a l ih =>
    intro i q h
    by_cases ha : mjNF a
    · rw [mjLv_cons f ha] at h
      rcases List.mem_cons.mp h with h | h
      · exact ⟨0, a, rfl, ha, h⟩
      · obtain ⟨j, v, h1, h2, h3⟩ := ih (i + 1) q h
        exact ⟨j + 1, v, h1, h2, by rw [h3]; congr 1; omega⟩
    · have h : q ∈ mjLv f l (i + 1) := by
        cases a <;> first | exact h | exact absurd trivial ha
      obtain ⟨j, v, h1, h2, h3⟩ := ih (i + 1) q h
      exact ⟨j + 1, v, h1, h2, by rw [h3]; congr 1; omega⟩
theorem mjLv_in (f : Nat → Nat) : ∀ (l : List Value) (i j : Nat) (v : Value), mjAt l j = some v → mjNF v → (i + j, mjTr f v) ∈ mjLv f l i := by
  intro l
  induction l with
  | nil => intro i j v h; cases h
  | cons a l ih =>
    intro i j v h hv
    cases j with
    | zero =>
      obtain rfl : a = v := Option.some.inj h
      rw [mjLv_cons f hv]; exact List.mem_cons_self
    | succ j =>
      have h1 := ih (i + 1) j v h hv
      rw [show i + (j + 1) = i + 1 + j by omega]
      by_cases ha : mjNF a
      · rw [mjLv_cons f ha]; exact List.mem_cons_of_mem _ h1
      · cases a <;> first | exact h1 | exact absurd trivial ha
/-- the locals, as the machine has them -/
def mjLs (f : Nat → Nat) (l : List Value) (ls : Array Slot) (n : Nat) : Prop := l.length = n ∧ lv_has ls n (mjLv f l 0)
theorem mjLs.read {f : Nat → Nat} {l : List Value} {ls : Array Slot} {n : Nat} (h : mjLs f l ls n) {i : Nat} {v : Value} (hv : mjAt l i = some v) (hn : mjNF v) : ls[i]? = some (.val (mjTr f v)) := by
  have h1 := h.2.2.2 _ (mjLv_in f l 0 i v hv hn)
  simpa using h1
theorem mjSt1_len (v : Value) : ∀ (l : List Value) (i : Nat), (mjSt1 l i v).length = l.length := by
  intro l
  induction l with
  | nil => intro i; rfl
  | cons a l ih => intro i; cases i with
    | zero => rfl
    | succ i => simp [mjSt1, ih]
theorem mjSet_len (v : Value) : ∀ (l : List Value) (i : Nat), (mjSet l i v).length = l.length := by
  intro l
  induction l with
  | nil => intro i; rfl
  | cons a l ih => intro i; cases i with
    | zero => rfl
    | succ i => simp [mjSet, ih]
theorem mjSt1_at (v : Value) : ∀ (l : List Value) (i j : Nat) (w : Value), mjAt (mjSt1 l i v) j = some w → (j = i ∧ w = v) ∨ (j ≠ i ∧ ∃ w0, mjAt l j = some w0 ∧ ((j + 1 ≠ i ∧ w = w0) ∨ (j + 1 = i ∧ w = mjKill w0))) := by
  intro l
  induction l with
  | nil => intro i j w h; cases h
  | cons a l ih =>
    intro i j w h
    cases i with
    | zero =>
      cases j with
      | zero => exact Or.inl ⟨rfl, (Option.some.inj h).symm⟩
      | succ j => exact Or.inr ⟨by omega, w, h, Or.inl ⟨by omega, rfl⟩⟩
    | succ i =>
      cases j with
      | zero =>
        have h : some (bif Nat.beq i 0 then mjKill a else a) = some w := h
        have h := Option.some.inj h
        refine Or.inr ⟨by omega, a, rfl, ?_⟩
        cases i with
        | zero => exact Or.inr ⟨rfl, h.symm⟩
        | succ i => exact Or.inl ⟨by omega, h.symm⟩
      | succ j =>
        have h : mjAt (mjSt1 l i v) j = some w := h
        rcases ih i j w h with ⟨h1, h2⟩ | ⟨h1, w0, h2, h3⟩
        · exact Or.inl ⟨by omega, h2⟩
        · refine Or.inr ⟨by omega, w0, h2, ?_⟩
          rcases h3 with ⟨h3, h4⟩ | ⟨h3, h4⟩
          · exact Or.inl ⟨by omega, h4⟩
          · exact Or.inr ⟨by omega, h4⟩
theorem mjSet_at (v : Value) : ∀ (l : List Value) (i j : Nat) (w : Value), mjAt (mjSet l i v) j = some w → (j = i ∧ w = v) ∨ (j ≠ i ∧ mjAt l j = some w) := by
  intro l
  induction l with
  | nil => intro i j w h; cases h
  | cons a l ih =>
    intro i j w h
    cases i with
    | zero =>
      cases j with
      | zero => exact Or.inl ⟨rfl, (Option.some.inj h).symm⟩
      | succ j => exact Or.inr ⟨by omega, h⟩
    | succ i =>
      cases j with
      | zero => exact Or.inr ⟨by omega, h⟩
      | succ j =>
        rcases ih i j w h with ⟨h1, h2⟩ | ⟨h1, h2⟩
        · exact Or.inl ⟨by omega, h2⟩
        · exact Or.inr ⟨by omega, h2⟩
theorem mjKill_cat {w0 : Value} (h : mjNF (mjKill w0)) (hc : w0.category = 2) (h0 : ∀ b, w0 ≠ .double b) : False := by
  cases w0 with
  | long x => exact h
  | double b => exact h0 b rfl
  | _ => simp [Value.category] at hc
def mjND : Value → Prop
  | .double _ => False
  | _ => True
/-- no doubles among them -/
def mjNDs (l : List Value) : Prop := ∀ j w, mjAt l j = some w → mjND w
theorem mjLs.st1 {f : Nat → Nat} {l : List Value} {ls ls' : Array Slot} {n : Nat} (h : mjLs f l ls n) (hd : mjNDs l) {i : Nat} {v : Value} (h' : lv_has ls' n ((i, mjTr f v) :: (mjLv f l 0).filter (fun q => !(q.1 == i) && !(q.1 + 1 == i && q.2.category == 2)))) : mjLs f (mjSt1 l i v) ls' n := by
  refine ⟨(mjSt1_len v l i).trans h.1, h'.1, h'.2.1, fun q hq => h'.2.2 q ?_⟩
  obtain ⟨j, w, h1, h2, h3⟩ := mjLv_mem f _ _ _ hq
  rw [Nat.zero_add] at h3
  rcases mjSt1_at v l i j w h1 with ⟨rfl, rfl⟩ | ⟨hne, w0, h4, h5⟩
  · rw [h3]; exact List.mem_cons_self
  · refine List.mem_cons_of_mem _ (List.mem_filter.mpr ⟨?_, ?_⟩)
    · rcases h5 with ⟨-, rfl⟩ | ⟨-, rfl⟩
      · have := mjLv_in f l 0 j w h4 h2
        rw [h3]; simpa using this
      · have hk : mjKill w0 = w0 := by cases w0 <;> first | rfl | exact absurd h2 id
        rw [hk] at h2 h3
        have := mjLv_in f l 0 j w0 h4 h2
        rw [h3]; simpa using this
    · rw [h3]
      have a1 : (j == i) = false := by simpa using hne
      simp only [a1, Bool.not_false, Bool.true_and]
      by_cases h6 : j + 1 = i
      · rcases h5 with ⟨h7, -⟩ | ⟨-, rfl⟩
        · exact absurd h6 h7
        · have hk : mjKill w0 = w0 := by cases w0 <;> first | rfl | exact absurd h2 id
          have hc : ¬ (mjTr f (mjKill w0)).category = 2 := by
            rw [mjTr_cat, hk]
            intro hc
            exact mjKill_cat h2 hc (fun b hb => by have := hd j w0 h4; rw [hb] at this; exact this)
          simp [hc]
      · have : (j + 1 == i) = false := by simpa using h6
        simp [this]
theorem mjLs.st2 {f : Nat → Nat} {l : List Value} {ls ls' : Array Slot} {n : Nat} (h : mjLs f l ls n) (hd : mjNDs l) {i : Nat} {v : Value} (h' : lv_has ls' n ((i, mjTr f v) :: (mjLv f l 0).filter (fun q => !(q.1 == i) && (!(q.1 == i + 1) && !(q.1 + 1 == i && q.2.category == 2))))) : mjLs f (mjSt2 l i v) ls' n := by
  refine ⟨(mjSet_len _ _ _).trans ((mjSt1_len v l i).trans h.1), h'.1, h'.2.1, fun q hq => h'.2.2 q ?_⟩
  obtain ⟨j, w, h1, h2, h3⟩ := mjLv_mem f _ _ _ hq
  rw [Nat.zero_add] at h3
  rcases mjSet_at mjD _ (i + 1) j w h1 with ⟨-, rfl⟩ | ⟨hn1, h1⟩
  · exact absurd h2 id
  · rcases mjSt1_at v l i j w h1 with ⟨rfl, rfl⟩ | ⟨hne, w0, h4, h5⟩
    · rw [h3]; exact List.mem_cons_self
    · refine List.mem_cons_of_mem _ (List.mem_filter.mpr ⟨?_, ?_⟩)
      · rcases h5 with ⟨-, rfl⟩ | ⟨-, rfl⟩
        · have := mjLv_in f l 0 j w h4 h2
          rw [h3]; simpa using this
        · have hk : mjKill w0 = w0 := by cases w0 <;> first | rfl | exact absurd h2 id
          rw [hk] at h2 h3
          have := mjLv_in f l 0 j w0 h4 h2
          rw [h3]; simpa using this
      · rw [h3]
        have a1 : (j == i) = false := by simpa using hne
        have a2 : (j == i + 1) = false := by simpa using hn1
        simp only [a1, a2, Bool.not_false, Bool.true_and]
        by_cases h6 : j + 1 = i
        · rcases h5 with ⟨h7, -⟩ | ⟨-, rfl⟩
          · exact absurd h6 h7
          · have hk : mjKill w0 = w0 := by cases w0 <;> first | rfl | exact absurd h2 id
            have hc : ¬ (mjTr f (mjKill w0)).category = 2 := by
              rw [mjTr_cat, hk]
              intro hc
              exact mjKill_cat h2 hc (fun b hb => by have := hd j w0 h4; rw [hb] at this; exact this)
            simp [hc]
        · have : (j + 1 == i) = false := by simpa using h6
          simp [this]
/-- a value that names no cell behind the last, and is no double -/
def mjV (n : Nat) : Value → Prop
  | .ref a => a < n
  | .double _ => False
  | _ => True
def mjVs (n : Nat) (l : List Value) : Prop := ∀ v ∈ l, mjV n v
theorem mjAt_mem : ∀ (l : List Value) (j : Nat) (w : Value), mjAt l j = some w → w ∈ l := by
  intro l
  induction l with
  | nil => intro j w h; cases h
  | cons a l ih =>
    intro j w h
    cases j with
    | zero => rw [← Option.some.inj h]; exact List.mem_cons_self
    | succ j => exact List.mem_cons_of_mem _ (ih j w h)
theorem mjVs.nd {n : Nat} {l : List Value} (h : mjVs n l) : mjNDs l := fun j w hw => by
  have := h w (mjAt_mem l j w hw)
  cases w <;> first | trivial | exact this
theorem mjV.up {n n' : Nat} (hn : n ≤ n') {v : Value} (h : mjV n v) : mjV n' v := by
  cases v <;> first | exact h | exact Nat.lt_of_lt_of_le h hn
theorem mjVs.up {n n' : Nat} (hn : n ≤ n') {l : List Value} (h : mjVs n l) : mjVs n' l := fun v hv => (h v hv).up hn
theorem mjVs.cons {n : Nat} {v : Value} {l : List Value} (h1 : mjV n v) (h : mjVs n l) : mjVs n (v :: l) := fun w hw => by
  rcases List.mem_cons.mp hw with rfl | hw
  · exact h1
  · exact h w hw
theorem mjVs.tail {n : Nat} {v : Value} {l : List Value} (h : mjVs n (v :: l)) : mjVs n l := fun w hw => h w (List.mem_cons_of_mem _ hw)
theorem mjVs.head {n : Nat} {v : Value} {l : List Value} (h : mjVs n (v :: l)) : mjV n v := h v List.mem_cons_self
theorem mjVs.st1 {n : Nat} {v : Value} (hv : mjV n v) : ∀ (l : List Value) (i : Nat), mjVs n l → mjVs n (mjSt1 l i v) := by
  intro l
  induction l with
  | nil => intro i h w hw; cases hw
  | cons a l ih =>
    intro i h
    cases i with
    | zero => exact mjVs.cons hv h.tail
    | succ i =>
      refine mjVs.cons ?_ (ih i h.tail)
      cases i with
      | zero =>
        show mjV n (mjKill a)
        have := h.head
        cases a <;> first | exact this | trivial
      | succ i => exact h.head
theorem mjVs.set {n : Nat} {v : Value} (hv : mjV n v) : ∀ (l : List Value) (i : Nat), mjVs n l → mjVs n (mjSet l i v) := by
  intro l
  induction l with
  | nil => intro i h w hw; cases hw
  | cons a l ih =>
    intro i h
    cases i with
    | zero => exact mjVs.cons hv h.tail
    | succ i => exact mjVs.cons h.head (ih i h.tail)
theorem mjVs.st2 {n : Nat} {v : Value} (hv : mjV n v) {l : List Value} {i : Nat} (h : mjVs n l) : mjVs n (mjSt2 l i v) := mjVs.set (v := mjD) trivial _ _ (mjVs.st1 hv _ _ h)
/-! the cells -/
def mjFv (f : Nat → Nat) (h : mjS) (a t k : Nat) : Value := match t with
  | 0 => .int (mI h a k)
  | 1 => .int (mI h a k)
  | 2 => .long (mL h a k)
  | _ => va_rf (mjOp f (mR h a k))
def mjFs (f : Nat → Nat) (h : mjS) (a : Nat) : List Nat → Nat → List Value
  | [], _ => []
  | t :: l, k => mjFv f h a t k :: mjFs f h a l (k + 1)
def mjE (f : Nat → Nat) (cA : Nat → ClassId) (h : mjS) (a : Nat) : va_E :=
  if mK h a = 20 ∨ mK h a = 21 ∨ mK h a = 22 then .inl (cA a, mN h a, .inl (mI h a))
  else if mK h a = 23 then .inl (cA a, mN h a, .inr (.inl (mL h a)))
  else if mK h a = 24 ∨ mK h a = 25 ∨ mK h a = 26 then .inl (cA a, mN h a, .inr (.inr (.inr (.inr fun k => mjOp f (mR h a k)))))
  else .inr (mK h a - 1, mjFs f h a (mjFt (mK h a)) 0)
def mjWs (f : Nat → Nat) (cA : Nat → ClassId) (h : mjS) : va_W := (List.range (mX h - 4)).map fun i => (f (i + 4), mjE f cA h (i + 4))
theorem mjWs_at (f : Nat → Nat) (cA : Nat → ClassId) (h : mjS) {a : Nat} (h4 : 4 ≤ a) (hx : a < mX h) : (mjWs f cA h)[a - 4]? = some (f a, mjE f cA h a) := by
  unfold mjWs
  rw [List.getElem?_map, List.getElem?_range (by omega)]
  show some (f (a - 4 + 4), mjE f cA h (a - 4 + 4)) = _
  rw [Nat.sub_add_cancel h4]
theorem mjWs_get (f : Nat → Nat) (cA : Nat → ClassId) (h : mjS) {k : Nat} {q : Nat × va_E} (hk : (mjWs f cA h)[k]? = some q) : k + 4 < mX h ∧ q = (f (k + 4), mjE f cA h (k + 4)) := by
  unfold mjWs at hk
  rw [List.getElem?_map] at hk
  by_cases hl : k < mX h - 4
  · rw [List.getElem?_range hl] at hk
    exact ⟨by omega, (Option.some.inj hk).symm⟩
  · rw [List.getElem?_eq_none (by simpa using hl)] at hk
    cases hk
theorem mjWs_set {f : Nat → Nat} {cA : Nat → ClassId} {h h' : mjS} {a : Nat} {e : va_E} (h4 : 4 ≤ a) (hx : mX h' = mX h) (he : mjE f cA h' a = e) (ho : ∀ b, b ≠ a → mjE f cA h' b = mjE f cA h b) : (mjWs f cA h).set (a - 4) (f a, e) = mjWs f cA h' := by
  apply List.ext_getElem?
  intro k
  by_cases hk : k = a - 4
  · subst hk
    by_cases hl : a < mX h
    · rw [mjWs_at f cA h' h4 (by omega), List.getElem?_set_self (by simp [mjWs]; omega), he]
    · rw [List.getElem?_eq_none (by simp [mjWs]; omega), List.getElem?_eq_none (by simp [mjWs]; omega)]
  · rw [List.getElem?_set_ne (fun q => hk q.symm)]
    unfold mjWs
    rw [List.getElem?_map, List.getElem?_map, hx]
    by_cases hl : k < mX h - 4
    · rw [List.getElem?_range hl]
      show some (f (k + 4), mjE f cA h (k + 4)) = some (f (k + 4), mjE f cA h' (k + 4))
      rw [ho (k + 4) (by omega)]
    · rw [List.getElem?_eq_none (by simpa using hl)]; rfl
