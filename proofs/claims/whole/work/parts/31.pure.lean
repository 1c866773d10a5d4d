/-! PIECES in five cells: moving them one by one, each time of whom there are most -/
def gup (g : Nat → Nat) (k v : Nat) : Nat → Nat := fun j => if j = k then v else g j
theorem gup_eq (g : Nat → Nat) (k v : Nat) : gup g k v k = v := by simp [gup]
theorem gup_ne (g : Nat → Nat) {k j : Nat} (v : Nat) (h : j ≠ k) : gup g k v j = g j := by simp [gup, h]
def five (g : Nat → Nat) (a : Nat) : Nat := g a + g (a + 1) + g (a + 2) + g (a + 3) + g (a + 4)
/-- the better of two -/
def btr (g : Nat → Nat) (a b k : Nat) : Nat := if g (a + b) < g (a + k) then k else b
/-- whose there are most, the least of several -/
def bst (g : Nat → Nat) (a : Nat) : Nat := btr g a (btr g a (btr g a (btr g a 0 1) 2) 3) 4
theorem btr_lt {g : Nat → Nat} {a b k n : Nat} (h1 : b < n) (h2 : k < n) : btr g a b k < n := by
  unfold btr; split <;> assumption
theorem bst_lt (g : Nat → Nat) (a : Nat) : bst g a < 5 := btr_lt (btr_lt (btr_lt (btr_lt (by omega) (by omega)) (by omega)) (by omega)) (by omega)
theorem btr_ge {g : Nat → Nat} {a b k : Nat} : g (a + b) ≤ g (a + btr g a b k) ∧ g (a + k) ≤ g (a + btr g a b k) := by
  unfold btr; split <;> omega
theorem bst_ge (g : Nat → Nat) (a : Nat) {k : Nat} (hk : k < 5) : g (a + k) ≤ g (a + bst g a) := by
  have h1 := btr_ge (g := g) (a := a) (b := 0) (k := 1)
  have h2 := btr_ge (g := g) (a := a) (b := btr g a 0 1) (k := 2)
  have h3 := btr_ge (g := g) (a := a) (b := btr g a (btr g a 0 1) 2) (k := 3)
  have h4 := btr_ge (g := g) (a := a) (b := btr g a (btr g a (btr g a 0 1) 2) 3) (k := 4)
  unfold bst
  rcases (show k = 0 ∨ k = 1 ∨ k = 2 ∨ k = 3 ∨ k = 4 by omega) with rfl | rfl | rfl | rfl | rfl <;> omega
theorem bst_zero {g : Nat → Nat} {a : Nat} : g (a + bst g a) = 0 ↔ five g a = 0 := by
  have h0 := bst_ge g a (k := 0) (by omega)
  have h1 := bst_ge g a (k := 1) (by omega)
  have h2 := bst_ge g a (k := 2) (by omega)
  have h3 := bst_ge g a (k := 3) (by omega)
  have h4 := bst_ge g a (k := 4) (by omega)
  have hb := bst_lt g a
  unfold five
  constructor
  · intro h
    rw [h] at h0 h1 h2 h3 h4
    rw [Nat.add_zero] at h0
    omega
  · intro h
    rcases (show bst g a = 0 ∨ bst g a = 1 ∨ bst g a = 2 ∨ bst g a = 3 ∨ bst g a = 4 by omega) with e | e | e | e | e <;> (rw [e]; first | omega | (show g a = 0; omega))
/-- one piece goes from five cells to five others (0: it is no more) -/
def mv1 (g : Nat → Nat) (a t : Nat) : Nat → Nat := if t = 0 then gup g (a + bst g a) (g (a + bst g a) - 1) else gup (gup g (a + bst g a) (g (a + bst g a) - 1)) (t + bst g a) (g (t + bst g a) + 1)
def mvs : Nat → (Nat → Nat) → Nat → Nat → (Nat → Nat)
  | 0, g, _, _ => g
  | n + 1, g, a, t => if g (a + bst g a) = 0 then g else mvs n (mv1 g a t) a t
/-- five cells that lie apart from five others -/
abbrev apart (a t : Nat) : Prop := a + 5 ≤ t ∨ t + 5 ≤ a
theorem five_gup_in (g : Nat → Nat) {a k : Nat} (v : Nat) (hk : k < 5) : five (gup g (a + k) v) a + g (a + k) = five g a + v := by
  unfold five gup
  rcases (show k = 0 ∨ k = 1 ∨ k = 2 ∨ k = 3 ∨ k = 4 by omega) with rfl | rfl | rfl | rfl | rfl <;> simp <;> omega
theorem five_gup_out (g : Nat → Nat) {a k : Nat} (v : Nat) (hk : k < a ∨ a + 5 ≤ k) : five (gup g k v) a = five g a := by
  unfold five gup
  rw [if_neg (by omega), if_neg (by omega), if_neg (by omega), if_neg (by omega), if_neg (by omega)]
theorem mv1_from {g : Nat → Nat} {a t : Nat} (ht : t = 0 ∨ apart a t) (h : g (a + bst g a) ≠ 0) : five (mv1 g a t) a + 1 = five g a := by
  have hb := bst_lt g a
  have h1 := five_gup_in g (a := a) (g (a + bst g a) - 1) hb
  unfold mv1
  split
  · omega
  · rw [five_gup_out _ _ (by omega)]
    omega
theorem mv1_to {g : Nat → Nat} {a t : Nat} (ht : t ≠ 0) (hat : apart a t) : five (mv1 g a t) t = five g t + 1 := by
  have hb := bst_lt g a
  unfold mv1
  rw [if_neg ht]
  have h1 := five_gup_in (gup g (a + bst g a) (g (a + bst g a) - 1)) (a := t) (g (t + bst g a) + 1) hb
  have h2 := five_gup_out g (a := t) (k := a + bst g a) (g (a + bst g a) - 1) (by omega)
  have h3 : gup g (a + bst g a) (g (a + bst g a) - 1) (t + bst g a) = g (t + bst g a) := gup_ne _ _ (by omega)
  omega
theorem mv1_out {g : Nat → Nat} {a t c : Nat} (ha : apart a c) (ht : t = 0 ∨ apart t c) : five (mv1 g a t) c = five g c := by
  have hb := bst_lt g a
  unfold mv1
  split
  · exact five_gup_out _ _ (by omega)
  · rw [five_gup_out _ _ (by omega), five_gup_out _ _ (by omega)]
theorem mv1_other {g : Nat → Nat} {a t j : Nat} (ha : j < a ∨ a + 5 ≤ j) (ht : t = 0 ∨ j < t ∨ t + 5 ≤ j) : mv1 g a t j = g j := by
  have hb := bst_lt g a
  unfold mv1
  split
  · exact gup_ne _ _ (by omega)
  · rw [gup_ne _ _ (by omega), gup_ne _ _ (by omega)]
/-- all pieces of five cells go to five others -/
theorem mvs_all : ∀ (n : Nat) (g : Nat → Nat) (a t : Nat), t ≠ 0 → apart a t → five g a ≤ n → ∀ j, mvs n g a t j = if a ≤ j ∧ j < a + 5 then 0 else if t ≤ j ∧ j < t + 5 then g j + g (a + (j - t)) else g j := by
  intro n
  induction n with
  | zero =>
    intro g a t ht hat hn j
    show g j = _
    have hz : ∀ k, k < 5 → g (a + k) = 0 := by
      intro k hk
      have := bst_ge g a hk
      have h0 := (bst_zero (g := g) (a := a)).mpr (by omega)
      omega
    split
    · have := hz (j - a) (by omega)
      rw [show a + (j - a) = j by omega] at this
      exact this
    · split
      · rw [hz (j - t) (by omega)]; rfl
      · rfl
  | succ n ih =>
    intro g a t ht hat hn j
    show (if g (a + bst g a) = 0 then g else mvs n (mv1 g a t) a t) j = _
    by_cases h0 : g (a + bst g a) = 0
    · rw [if_pos h0]
      have hz : ∀ k, k < 5 → g (a + k) = 0 := by
        intro k hk
        have := bst_ge g a hk
        omega
      split
      · have := hz (j - a) (by omega)
        rw [show a + (j - a) = j by omega] at this
        exact this
      · split
        · rw [hz (j - t) (by omega)]; rfl
        · rfl
    · rw [if_neg h0]
      have hb := bst_lt g a
      have hf := mv1_from (g := g) (a := a) (t := t) (Or.inr hat) h0
      rw [ih (mv1 g a t) a t ht hat (by omega) j]
      split
      · rfl
      · split
        · rename_i h1 h2
          unfold mv1
          rw [if_neg ht]
          by_cases hj : j = t + bst g a
          · subst hj
            rw [gup_eq, show t + bst g a - t = bst g a by omega, gup_ne _ _ (by omega), gup_eq]
            omega
          · rw [gup_ne _ _ hj, gup_ne _ _ (by omega), gup_ne _ _ (by omega), gup_ne _ _ (by omega)]
        · rename_i h1 h2
          rw [mv1_other (by omega) (by omega)]
