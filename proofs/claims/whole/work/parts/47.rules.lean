/-! RULES: signs as numbers (kind + 16 * value), reckoned out on a stack (its top first) -/
abbrev rul : Type := List (List Nat × Option (List Nat))
def nL (n : Nat) : Int64 := (nI n).toInt64
def xbin (s : Nat) (x y : Int64) : Int64 :=
  if s = 2 then x + y else if s = 3 then x - y else if s = 4 then x * y else if s = 5 then (if y = 0 then 0 else x / y) else if s = 14 then (if y = 0 then 0 else x - x / y * y) else if s = 6 then (if x < y then 1 else 0) else if s = 7 then (if y < x then 0 else 1) else if s = 8 then (if x = y then 1 else 0) else if s = 9 then (if x < y then 0 else 1) else if s = 10 then (if y < x then 1 else 0) else if s = 12 then x &&& y else x ||| y
def xop (W : Nat → Int64) (o : Nat) (st : List Int64) : List Int64 :=
  if o % 16 = 0 then nL (o / 16) :: st else if o % 16 = 1 then W (o / 16) :: st else if o % 16 = 11 then (match st with
    | x :: r => (1 - x) :: r
    | [] => []) else (match st with
    | y :: x :: r => xbin (o % 16) x y :: r
    | _ => [])
def xops (W : Nat → Int64) : List Nat → List Int64 → List Int64
  | [], st => st
  | o :: l, st => xops W l (xop W o st)
/-- what is on the stack: true for a fact -/
def tyo (o : Nat) (ts : List Bool) : Option (List Bool) :=
  if o % 16 = 0 ∨ o % 16 = 1 then some (false :: ts) else if o % 16 = 11 then (match ts with
    | true :: r => some (true :: r)
    | _ => none) else if o % 16 < 6 ∨ o % 16 = 14 then (match ts with
    | false :: false :: r => some (false :: r)
    | _ => none) else if o % 16 < 11 then (match ts with
    | false :: false :: r => some (true :: r)
    | _ => none) else if o % 16 < 14 then (match ts with
    | true :: true :: r => some (true :: r)
    | _ => none) else none
def ty : List Nat → List Bool → Option (List Bool)
  | [], ts => some ts
  | o :: l, ts => (tyo o ts).bind (ty l)
def npush : List Nat → Nat
  | [] => 0
  | o :: l => (if o % 16 = 0 ∨ o % 16 = 1 then 1 else 0) + npush l
/-- numbers and words are such -/
def okO (o : Nat) : Prop := o < 1600000 ∧ (o % 16 = 1 → o / 16 < 11)
def Bt : List Bool → List Int64 → Prop
  | [], [] => True
  | t :: ts, x :: xs => (t = true → x = 0 ∨ x = 1) ∧ Bt ts xs
  | _, _ => False
theorem Bt.len : ∀ {ts : List Bool} {xs : List Int64}, Bt ts xs → xs.length = ts.length := by
  intro ts
  induction ts with
  | nil => intro xs h; cases xs with
    | nil => rfl
    | cons x xs => exact h.elim
  | cons t ts ih => intro xs h; cases xs with
    | nil => exact h.elim
    | cons x xs => exact congrArg (· + 1) (ih h.2)
theorem bin01 {s : Nat} (h : 6 ≤ s) (h2 : s < 11) (x y : Int64) : xbin s x y = 0 ∨ xbin s x y = 1 := by
  rcases (show s = 6 ∨ s = 7 ∨ s = 8 ∨ s = 9 ∨ s = 10 by omega) with rfl | rfl | rfl | rfl | rfl
  · show (if x < y then (1 : Int64) else 0) = 0 ∨ (if x < y then (1 : Int64) else 0) = 1; split <;> simp
  · show (if y < x then (0 : Int64) else 1) = 0 ∨ (if y < x then (0 : Int64) else 1) = 1; split <;> simp
  · show (if x = y then (1 : Int64) else 0) = 0 ∨ (if x = y then (1 : Int64) else 0) = 1; split <;> simp
  · show (if x < y then (0 : Int64) else 1) = 0 ∨ (if x < y then (0 : Int64) else 1) = 1; split <;> simp
  · show (if y < x then (1 : Int64) else 0) = 0 ∨ (if y < x then (1 : Int64) else 0) = 1; split <;> simp
theorem tyo_Bt {W : Nat → Int64} {o : Nat} {ts ts' : List Bool} {xs : List Int64} (h : tyo o ts = some ts') (b : Bt ts xs) : Bt ts' (xop W o xs) := by
  unfold tyo at h
  unfold xop
  by_cases c0 : o % 16 = 0
  · rw [if_pos (Or.inl c0)] at h
    rw [if_pos c0]
    cases h
    exact ⟨fun z => Bool.noConfusion z, b⟩
  · by_cases c1 : o % 16 = 1
    · rw [if_pos (Or.inr c1)] at h
      rw [if_neg c0, if_pos c1]
      cases h
      exact ⟨fun z => Bool.noConfusion z, b⟩
    · rw [if_neg (by omega)] at h
      rw [if_neg c0, if_neg c1]
      by_cases c2 : o % 16 = 11
      · rw [if_pos c2] at h
        rw [if_pos c2]
        cases ts with
        | nil => cases h
        | cons t r => cases t with
          | false => cases h
          | true => cases xs with
            | nil => exact b.elim
            | cons x xs =>
              cases h
              refine ⟨fun _ => ?_, b.2⟩
              rcases b.1 rfl with e | e
              · rw [e]; exact Or.inr (by decide)
              · rw [e]; exact Or.inl (by decide)
      · rw [if_neg c2] at h
        rw [if_neg c2]
        by_cases c3 : o % 16 < 6 ∨ o % 16 = 14
        · rw [if_pos c3] at h
          split at h
          · rename_i r
            cases xs with
            | nil => exact b.elim
            | cons y xs => cases xs with
              | nil => exact b.2.elim
              | cons x xs =>
                cases h
                exact ⟨fun z => Bool.noConfusion z, b.2.2⟩
          · cases h
        · rw [if_neg c3] at h
          by_cases c4 : o % 16 < 11
          · rw [if_pos c4] at h
            split at h
            · rename_i r
              cases xs with
              | nil => exact b.elim
              | cons y xs => cases xs with
                | nil => exact b.2.elim
                | cons x xs =>
                  cases h
                  exact ⟨fun _ => bin01 (by omega) c4 x y, b.2.2⟩
            · cases h
          · rw [if_neg c4] at h
            by_cases c5 : o % 16 < 14
            · rw [if_pos c5] at h
              split at h
              · rename_i r
                cases xs with
                | nil => exact b.elim
                | cons y xs => cases xs with
                  | nil => exact b.2.elim
                  | cons x xs =>
                    cases h
                    refine ⟨fun _ => ?_, b.2.2⟩
                    have hy := b.1 rfl
                    have hx := b.2.1 rfl
                    rcases (show o % 16 = 12 ∨ o % 16 = 13 by omega) with e | e <;> rw [e] <;> rcases hx with e1 | e1 <;> rcases hy with e2 | e2 <;> rw [e1, e2] <;> decide
              · cases h
            · rw [if_neg c5] at h; cases h
theorem ty_Bt {W : Nat → Int64} : ∀ (l : List Nat) {ts ts' : List Bool} {xs : List Int64}, ty l ts = some ts' → Bt ts xs → Bt ts' (xops W l xs) := by
  intro l
  induction l with
  | nil => intro ts ts' xs h b; cases h; exact b
  | cons o l ih =>
    intro ts ts' xs h b
    have h : (tyo o ts).bind (ty l) = some ts' := h
    cases e : tyo o ts with
    | none => rw [e] at h; cases h
    | some t1 => rw [e] at h; exact ih h (tyo_Bt e b)
theorem tyo_app {o : Nat} {ts ts' : List Bool} (r : List Bool) (h : tyo o ts = some ts') : tyo o (ts ++ r) = some (ts' ++ r) := by
  unfold tyo at *
  split
  · rename_i c; rw [if_pos c] at h; cases h; rfl
  · rename_i c; rw [if_neg c] at h
    split
    · rename_i c2; rw [if_pos c2] at h
      split at h
      · cases h; rfl
      · cases h
    · rename_i c2; rw [if_neg c2] at h
      split
      · rename_i c3; rw [if_pos c3] at h
        split at h
        · cases h; rfl
        · cases h
      · rename_i c3; rw [if_neg c3] at h
        split
        · rename_i c4; rw [if_pos c4] at h
          split at h
          · cases h; rfl
          · cases h
        · rename_i c4; rw [if_neg c4] at h
          split
          · rename_i c5; rw [if_pos c5] at h
            split at h
            · cases h; rfl
            · cases h
          · rename_i c5; rw [if_neg c5] at h; cases h
theorem ty_app : ∀ (l : List Nat) {ts ts' : List Bool} (r : List Bool), ty l ts = some ts' → ty l (ts ++ r) = some (ts' ++ r) := by
  intro l
  induction l with
  | nil => intro ts ts' r h; cases h; rfl
  | cons o l ih =>
    intro ts ts' r h
    have h : (tyo o ts).bind (ty l) = some ts' := h
    show (tyo o (ts ++ r)).bind (ty l) = _
    cases e : tyo o ts with
    | none => rw [e] at h; cases h
    | some t1 => rw [e] at h; rw [tyo_app r e]; exact ih r h
theorem ty_cat : ∀ (l m : List Nat) {ts ts' : List Bool}, ty l ts = some ts' → ty (l ++ m) ts = ty m ts' := by
  intro l
  induction l with
  | nil => intro m ts ts' h; cases h; rfl
  | cons o l ih =>
    intro m ts ts' h
    have h : (tyo o ts).bind (ty l) = some ts' := h
    show (tyo o ts).bind (ty (l ++ m)) = _
    cases e : tyo o ts with
    | none => rw [e] at h; cases h
    | some t1 => rw [e] at h; exact ih m h
/-- what lies beneath stays -/
theorem xop_app {W : Nat → Int64} {o : Nat} {ts ts' : List Bool} {xs : List Int64} (r : List Int64) (h : tyo o ts = some ts') (b : xs.length = ts.length) : xop W o (xs ++ r) = xop W o xs ++ r := by
  unfold tyo at h
  unfold xop
  by_cases c0 : o % 16 = 0
  · rw [if_pos c0, if_pos c0]; rfl
  · by_cases c1 : o % 16 = 1
    · rw [if_neg c0, if_neg c0, if_pos c1, if_pos c1]; rfl
    · rw [if_neg (by omega)] at h
      rw [if_neg c0, if_neg c0, if_neg c1, if_neg c1]
      by_cases c2 : o % 16 = 11
      · rw [if_pos c2] at h
        rw [if_pos c2, if_pos c2]
        split at h
        · cases xs with
          | nil => cases b
          | cons x xs => rfl
        · cases h
      · rw [if_neg c2] at h
        rw [if_neg c2, if_neg c2]
        have two : 2 ≤ ts.length := by
          split at h
          · split at h
            · exact Nat.le_add_left 2 _
            · cases h
          · split at h
            · split at h
              · exact Nat.le_add_left 2 _
              · cases h
            · split at h
              · split at h
                · exact Nat.le_add_left 2 _
                · cases h
              · cases h
        cases xs with
        | nil => rw [List.length_nil] at b; omega
        | cons y xs => cases xs with
          | nil => simp at b; omega
          | cons x xs => rfl
theorem xops_app {W : Nat → Int64} : ∀ (l : List Nat) {ts ts' : List Bool} {xs : List Int64} (r : List Int64), ty l ts = some ts' → Bt ts xs → xops W l (xs ++ r) = xops W l xs ++ r := by
  intro l
  induction l with
  | nil => intro ts ts' xs r h b; rfl
  | cons o l ih =>
    intro ts ts' xs r h b
    have h : (tyo o ts).bind (ty l) = some ts' := h
    show xops W l (xop W o (xs ++ r)) = xops W l (xop W o xs) ++ r
    cases e : tyo o ts with
    | none => rw [e] at h; cases h
    | some t1 => rw [e] at h; rw [xop_app r e b.len]; exact ih r h (tyo_Bt e b)
def one1 (l : List Int64) : Int64 := l.headD 0
/-- the sum of the first clause without a test, or whose test holds -/
def sumR (W : Nat → Int64) : rul → Int64
  | [] => 0
  | (s, none) :: _ => one1 (xops W s [])
  | (s, some t) :: r => if one1 (xops W t []) = 1 then one1 (xops W s []) else sumR W r
def okL (l : List Nat) : Prop := ∀ o, o ∈ l → okO o
/-- a clause that was read -/
def okC (c : List Nat × Option (List Nat)) : Prop := okL c.1 ∧ ty c.1 [] = some [false] ∧ 1 ≤ npush c.1 ∧ npush c.1 + npush (c.2.getD []) ≤ 60 ∧ okL (c.2.getD []) ∧ ∀ t, c.2 = some t → ty t [] = some [true]
def okR (r : rul) : Prop := ∀ c, c ∈ r → okC c
/-- whether a rule lets a spider go -/
def Lr (r : rul) (g : Nat → Nat) (s : Nat) : Bool := decide (0 < sumR (fun w => nL (wrd g s w)) r)
def Lo (r : Option rul) (g : Nat → Nat) (s : Nat) : Bool := match r with
  | none => true
  | some r => Lr r g s
theorem Bt_one {t : Bool} {xs : List Int64} (h : Bt [t] xs) : xs = [one1 xs] := by
  cases xs with
  | nil => exact h.elim
  | cons x xs => cases xs with
    | nil => rfl
    | cons y xs => exact h.2.elim
/-- a stack of longs in a row's first places -/
def Sk (h : mjS) (c : Nat) : List Int64 → Prop
  | [] => True
  | x :: r => mL h c r.length = x ∧ Sk h c r
theorem Sk.keep {h h' : mjS} {c : Nat} : ∀ {xs : List Int64}, (∀ k, k < xs.length → mL h' c k = mL h c k) → Sk h c xs → Sk h' c xs := by
  intro xs
  induction xs with
  | nil => intros; trivial
  | cons x r ih => intro hk s; exact ⟨(hk _ (by simp)).trans s.1, ih (fun k h => hk k (by simp; omega)) s.2⟩
theorem Sk.push {h : mjS} {c : Nat} {xs : List Int64} (s : Sk h c xs) (x : Int64) {n : Nat} (hn : n = xs.length) : Sk (pL h c n x) c (x :: xs) := by
  subst hn
  refine ⟨by rw [mL_pL, if_pos ⟨rfl, rfl⟩], s.keep (fun k hk => by rw [mL_pL, if_neg (by omega)])⟩
