/-! A DAY, as the reference goes through it, and what holds of a field at all times -/
/-- a cell of pieces -/
abbrev pc (k : Nat) : Prop := (12 ≤ k ∧ k < 37) ∨ (42 ≤ k ∧ k < 47) ∨ (50 ≤ k ∧ k < 95 ∧ 3 ≤ (k - 47) % 8)
/-- all pieces below a cell -/
def sm (g : Nat → Nat) : Nat → Nat
  | 0 => 0
  | n + 1 => sm g n + if pc n then g n else 0
theorem sm_congr {g g' : Nat → Nat} : ∀ n, (∀ j, j < n → pc j → g' j = g j) → sm g' n = sm g n := by
  intro n
  induction n with
  | zero => intro _; rfl
  | succ n ih =>
    intro h
    show sm g' n + _ = sm g n + _
    rw [ih (fun j hj => h j (by omega))]
    by_cases q : pc n
    · rw [if_pos q, if_pos q, h n (by omega) q]
    · rw [if_neg q, if_neg q]
theorem sm_gup {g : Nat → Nat} {k v : Nat} (hk : pc k) : ∀ n, k < n → sm (gup g k v) n + g k = sm g n + v := by
  intro n
  induction n with
  | zero => intro h; omega
  | succ n ih =>
    intro h
    show sm (gup g k v) n + _ + g k = sm g n + _ + v
    by_cases e : k = n
    · subst e
      rw [if_pos hk, if_pos hk, gup_eq, sm_congr (g := g) (g' := gup g k v) k (fun j hj _ => gup_ne _ _ (by omega))]
      omega
    · have := ih (by omega)
      have e2 : (if pc n then gup g k v n else 0) = if pc n then g n else 0 := by rw [gup_ne _ _ (fun z => e z.symm)]
      omega
theorem sm_gup_out {g : Nat → Nat} {k v : Nat} (hk : ¬ pc k) (n : Nat) : sm (gup g k v) n = sm g n := sm_congr n (fun j _ hp => gup_ne _ _ (fun e => hk (e ▸ hp)))
theorem sm_mono (g : Nat → Nat) : ∀ (d n : Nat), sm g n ≤ sm g (n + d) := by
  intro d n
  induction d with
  | zero => exact Nat.le_refl _
  | succ d ih => exact Nat.le_trans ih (Nat.le_add_right _ _)
theorem sm_five (g : Nat → Nat) {a n : Nat} (h0 : pc a) (h1 : pc (a + 1)) (h2 : pc (a + 2)) (h3 : pc (a + 3)) (h4 : pc (a + 4)) (hn : a + 5 ≤ n) : five g a ≤ sm g n := by
  have e : sm g (a + 5) = sm g a + g a + g (a + 1) + g (a + 2) + g (a + 3) + g (a + 4) := by
    show sm g a + (if pc a then _ else _) + (if pc (a + 1) then _ else _) + (if pc (a + 2) then _ else _) + (if pc (a + 3) then _ else _) + (if pc (a + 4) then _ else _) = _
    rw [if_pos h0, if_pos h1, if_pos h2, if_pos h3, if_pos h4]
  have := sm_mono g (n - (a + 5)) (a + 5)
  rw [show a + 5 + (n - (a + 5)) = n by omega] at this
  unfold five
  omega
/-- five cells of pieces -/
abbrev bk (a : Nat) : Prop := (a = 42 ∨ (12 ≤ a ∧ a < 37 ∧ a % 5 = 2)) ∨ (50 ≤ a ∧ a < 95 ∧ a % 8 = 2)
theorem bk_pc {a b : Nat} (h : bk a) (hb : b < 5) : pc (a + b) := by unfold bk at h; unfold pc; omega
theorem bk_148 {a : Nat} (h : bk a) : a + 5 ≤ 148 := by unfold bk at h; omega
theorem bk_apart {a t : Nat} (ha : bk a) (ht : bk t) (h : a ≠ t) : apart a t := by unfold bk at ha ht; unfold apart; omega
theorem five_sm (g : Nat → Nat) {a : Nat} (h : bk a) : five g a ≤ sm g 148 := sm_five g (bk_pc (b := 0) h (by omega)) (bk_pc h (by omega)) (bk_pc h (by omega)) (bk_pc h (by omega)) (bk_pc h (by omega)) (bk_148 h)
theorem mv1_sm {g : Nat → Nat} {a t : Nat} (ha : bk a) (ht : t = 0 ∨ bk t) (hat : a ≠ t) (h : g (a + bst g a) ≠ 0) : sm (mv1 g a t) 148 ≤ sm g 148 := by
  have hb := bst_lt g a
  have h1 := sm_gup (g := g) (v := g (a + bst g a) - 1) (bk_pc ha hb) 148 (by have := bk_148 ha; omega)
  unfold mv1
  split
  · omega
  · have ht' := ht.resolve_left (by assumption)
    have hap := bk_apart ha ht' hat
    have h2 := sm_gup (g := gup g (a + bst g a) (g (a + bst g a) - 1)) (v := g (t + bst g a) + 1) (bk_pc ht' hb) 148 (by have := bk_148 ht'; omega)
    rw [gup_ne (j := t + bst g a) g (g (a + bst g a) - 1) (by omega)] at h2
    omega
theorem mvs_sm : ∀ (n : Nat) (g : Nat → Nat) {a t : Nat}, bk a → (t = 0 ∨ bk t) → a ≠ t → sm (mvs n g a t) 148 ≤ sm g 148 := by
  intro n
  induction n with
  | zero => intros; exact Nat.le_refl _
  | succ n ih =>
    intro g a t ha ht hat
    show sm (if g (a + bst g a) = 0 then g else mvs n (mv1 g a t) a t) 148 ≤ _
    by_cases q : g (a + bst g a) = 0
    · rw [if_pos q]; exact Nat.le_refl _
    · rw [if_neg q]; exact Nat.le_trans (ih _ ha ht hat) (mv1_sm ha ht hat q)
theorem mvs_other : ∀ (n : Nat) (g : Nat → Nat) {a t j : Nat}, (j < a ∨ a + 5 ≤ j) → (t = 0 ∨ j < t ∨ t + 5 ≤ j) → mvs n g a t j = g j := by
  intro n
  induction n with
  | zero => intros; rfl
  | succ n ih =>
    intro g a t j ha ht
    show (if g (a + bst g a) = 0 then g else mvs n (mv1 g a t) a t) j = _
    by_cases q : g (a + bst g a) = 0
    · rw [if_pos q]
    · rw [if_neg q, ih _ ha ht, mv1_other ha ht]
theorem mvs_npc (n : Nat) (g : Nat → Nat) {a t j : Nat} (ha : bk a) (ht : t = 0 ∨ bk t) (hj : ¬ pc j) : mvs n g a t j = g j := by
  unfold pc at hj
  unfold bk at ha ht
  exact mvs_other n g (by omega) (by omega)
/-- what the text told -/
def Wc (g : Nat → Nat) : Prop := (g 0 ≤ 1 ∧ (g 0 = 0 → g 1 = 0 ∧ g 2 = 0 ∧ g 4 = 0) ∧ (g 0 = 1 → 1 ≤ g 1) ∧ g 1 ≤ 9 ∧ g 2 ≤ 5 ∧ g 3 ≤ 6 ∧ g 4 ≤ 5 ∧ (g 2 = 0 → g 3 = 0)) ∧ (∀ s, s < 6 → g (95 + s) ≤ 9) ∧ (∀ w, w < 5 → g (101 + w) ≤ 60) ∧ (∀ p, p < 5 → g (106 + p) ≤ 60) ∧ (∀ s, s < g 3 → g (111 + s) < g 2)
/-- how it stands -/
def Wd (g : Nat → Nat) : Prop := (∀ s, s < 6 → g (47 + 8 * s) ≤ 2 ∧ g (47 + 8 * s + 1) ≤ 5 ∧ g (47 + 8 * s + 2) ≤ 9 ∧ (s < g 3 → g (47 + 8 * s + 1) < g 2) ∧ (g 3 ≤ s → g (47 + 8 * s) = 0)) ∧ (∀ p, p < 5 → g (37 + p) ≤ 1 ∧ (g 2 ≤ p → g (37 + p) = 0)) ∧ g 11 ≤ g 4 ∧ sm g 148 ≤ 10000
def Wb (g : Nat → Nat) : Prop := Wc g ∧ Wd g
theorem Wc.of {g g' : Nat → Nat} (w : Wc g) (h : ∀ j, (j < 5 ∨ (95 ≤ j ∧ j < 117)) → g' j = g j) : Wc g' := by
  obtain ⟨a, b, c, d, e⟩ := w
  unfold Wc
  rw [h 0 (by omega), h 1 (by omega), h 2 (by omega), h 3 (by omega), h 4 (by omega)]
  exact ⟨a, fun s hs => by rw [h _ (by omega)]; exact b s hs, fun s hs => by rw [h _ (by omega)]; exact c s hs, fun s hs => by rw [h _ (by omega)]; exact d s hs, fun s hs => by rw [h _ (by omega)]; exact e s hs⟩
/-- other pieces -/
theorem Wb.pieces {g g' : Nat → Nat} (w : Wb g) (h : ∀ j, j < 148 → ¬ pc j → g' j = g j) (hs : sm g' 148 ≤ 10000) : Wb g' := by
  obtain ⟨wc, a, b, c, d⟩ := w
  have hc : ∀ j, (j < 5 ∨ (95 ≤ j ∧ j < 117)) → g' j = g j := fun j hj => h j (by omega) (by unfold pc; omega)
  refine ⟨wc.of hc, fun s hs => ?_, fun p hp => ?_, ?_, hs⟩
  · rw [h _ (by omega) (by unfold pc; omega), h (47 + 8 * s + 1) (by omega) (by unfold pc; omega), h (47 + 8 * s + 2) (by omega) (by unfold pc; omega), hc 3 (by omega), hc 2 (by omega)]
    exact a s hs
  · rw [h _ (by omega) (by unfold pc; omega), hc 2 (by omega)]
    exact b p hp
  · rw [h 11 (by omega) (by unfold pc; omega), hc 4 (by omega)]
    exact c
/-- another place of a spider -/
theorem Wb.spider {g g' : Nat → Nat} {s : Nat} (w : Wb g) (hs : s < g 3) (h : ∀ j, j < 148 → j ≠ 47 + 8 * s → j ≠ 47 + 8 * s + 1 → j ≠ 47 + 8 * s + 2 → g' j = g j) (h0 : g' (47 + 8 * s) ≤ 2) (h1 : g' (47 + 8 * s + 1) < g 2) (h2 : g' (47 + 8 * s + 2) ≤ 9) : Wb g' := by
  obtain ⟨wc, a, b, c, d⟩ := w
  have h36 : g 3 ≤ 6 := wc.1.2.2.2.2.2.1
  have h25 : g 2 ≤ 5 := wc.1.2.2.2.2.1
  have hc : ∀ j, (j < 5 ∨ (95 ≤ j ∧ j < 117)) → g' j = g j := fun j hj => h j (by omega) (by omega) (by omega) (by omega)
  refine ⟨wc.of hc, fun z hz => ?_, fun p hp => ?_, ?_, ?_⟩
  · rw [hc 3 (by omega), hc 2 (by omega)]
    by_cases e : z = s
    · subst e
      exact ⟨h0, by omega, h2, fun _ => h1, fun q => by omega⟩
    · rw [h (47 + 8 * z) (by omega) (by omega) (by omega) (by omega), h (47 + 8 * z + 1) (by omega) (by omega) (by omega) (by omega), h (47 + 8 * z + 2) (by omega) (by omega) (by omega) (by omega)]
      exact a z hz
  · rw [h _ (by omega) (by omega) (by omega) (by omega), hc 2 (by omega)]
    exact b p hp
  · rw [h 11 (by omega) (by omega) (by omega) (by omega), hc 4 (by omega)]
    exact c
  · rw [sm_congr (g := g) (g' := g') 148 (fun j hj hp => h j hj (by unfold pc at hp; omega) (by unfold pc at hp; omega) (by unfold pc at hp; omega))]
    exact d
/-- pieces go -/
theorem Wb.mvs {g : Nat → Nat} (w : Wb g) (n : Nat) {a t : Nat} (ha : bk a) (ht : t = 0 ∨ bk t) (hat : a ≠ t) : Wb (mvs n g a t) :=
  w.pieces (fun j _ hp => mvs_npc n g ha ht hp) (Nat.le_trans (mvs_sm n g ha ht hat) w.2.2.2.2)
theorem Wb.far {g : Nat → Nat} (w : Wb g) (h : 0 < g 3) : 1 ≤ g 1 ∧ g 1 ≤ 9 ∧ 0 < g 2 ∧ g 0 = 1 := by
  obtain ⟨⟨h0, h1, h2, h3, h4, h5, h6, h7⟩, -⟩ := w.1
  have : g 2 ≠ 0 := fun e => by have := h7 e; omega
  have e0 : g 0 = 1 := by
    rcases (show g 0 = 0 ∨ g 0 = 1 by omega) with e | e
    · exact absurd (h1 e).2.1 this
    · exact e
  exact ⟨h2 e0, h3, by omega, e0⟩
/-! the day -/
def gout (g : Nat → Nat) (s : Nat) : Nat → Nat := gup (gup g (47 + 8 * s) 1) (47 + 8 * s + 2) (g 1)
def stF (L : (Nat → Nat) → Nat → Bool) (g : Nat → Nat) (s : Nat) : Nat → Nat :=
  if g (37 + g (47 + 8 * s + 1)) = 1 then gout g s else if five g (12 + 5 * g (47 + 8 * s + 1)) = 0 then g else if L g s = true then gout (mvs (g (95 + s)) g (12 + 5 * g (47 + 8 * s + 1)) (47 + 8 * s + 3)) s else g
/-- the least who lies; 9: nobody -/
def lier (g : Nat → Nat) : Nat → Nat → Nat
  | 0, _ => 9
  | n + 1, p => if g (37 + p) = 1 then p else lier g n (p + 1)
def gld (g : Nat → Nat) : Nat → Nat → Nat → Nat
  | 0, b, _ => b
  | n + 1, b, p => gld g n (if five g (12 + 5 * b) < five g (12 + 5 * p) then p else b) (p + 1)
def glds (g : Nat → Nat) : Nat := gld g (g 2 - 1) 0 1
def gsp (g : Nat → Nat) (s a b c : Nat) : Nat → Nat := gup (gup (gup g (47 + 8 * s) a) (47 + 8 * s + 1) b) (47 + 8 * s + 2) c
def thF (g : Nat → Nat) (s : Nat) : Nat → Nat :=
  if lier g (g 2) 0 = 9 then gsp (mvs (five g (47 + 8 * s + 3)) g (47 + 8 * s + 3) 42) s 2 (glds g) (g 1)
  else mvs (g (95 + s)) (gsp (mvs (five g (47 + 8 * s + 3)) g (47 + 8 * s + 3) 42) s 2 (lier g (g 2) 0) (g 1)) 42 (47 + 8 * s + 3)
def hoF (g : Nat → Nat) (s : Nat) : Nat → Nat := gup (mvs (five g (47 + 8 * s + 3)) g (47 + 8 * s + 3) (12 + 5 * g (47 + 8 * s + 1))) (47 + 8 * s) 0
def dec (g : Nat → Nat) (s : Nat) : Nat → Nat := gup g (47 + 8 * s + 2) (g (47 + 8 * s + 2) - 1)
def ruF (L : (Nat → Nat) → Nat → Bool) (g : Nat → Nat) (s : Nat) : Nat → Nat :=
  if g (47 + 8 * s) = 0 then stF L g s else if 1 < g (47 + 8 * s + 2) then dec g s else if g (47 + 8 * s) = 1 then thF (dec g s) s else hoF (dec g s) s
/-- how many pieces it brings -/
def ruN (g : Nat → Nat) (s : Nat) : Nat := if g (47 + 8 * s) = 1 ∧ ¬ 1 < g (47 + 8 * s + 2) then five g (47 + 8 * s + 3) else 0
def runs (L : (Nat → Nat) → Nat → Bool) : Nat → Nat → (Nat → Nat) → (Nat → Nat)
  | 0, _, g => g
  | n + 1, s, g => runs L n (s + 1) (ruF L g s)
def came (L : (Nat → Nat) → Nat → Bool) : Nat → Nat → (Nat → Nat) → Nat → Nat
  | 0, _, _, m => m
  | n + 1, s, g, m => came L n (s + 1) (ruF L g s) (m + ruN g s)
def buF (g : Nat → Nat) : Nat → Nat := if g 11 < g 4 ∧ ¬ five g 42 < g (101 + g 11) then gup (mvs (g (101 + g 11)) g 42 0) 11 (g 11 + 1) else g
def dayF (L : (Nat → Nat) → Nat → Bool) (g : Nat → Nat) : Nat → Nat := gup (buF (runs L (g 3) 0 g)) 10 (buF (runs L (g 3) 0 g) 10 + 1)
def dayN (L : (Nat → Nat) → Nat → Bool) (g : Nat → Nat) : Nat := came L (g 3) 0 g 0
theorem lier_le (g : Nat → Nat) : ∀ n p, lier g n p = 9 ∨ (p ≤ lier g n p ∧ lier g n p < p + n ∧ g (37 + lier g n p) = 1) := by
  intro n
  induction n with
  | zero => intro p; exact Or.inl rfl
  | succ n ih =>
    intro p
    show (if g (37 + p) = 1 then p else lier g n (p + 1)) = 9 ∨ _
    by_cases q : g (37 + p) = 1
    · right
      have e : lier g (n + 1) p = p := by show (if g (37 + p) = 1 then p else _) = _; rw [if_pos q]
      rw [e]; exact ⟨by omega, by omega, q⟩
    · have e : lier g (n + 1) p = lier g n (p + 1) := by show (if g (37 + p) = 1 then p else _) = _; rw [if_neg q]
      rw [if_neg q, e]
      rcases ih (p + 1) with h | ⟨h1, h2, h3⟩
      · exact Or.inl h
      · exact Or.inr ⟨by omega, by omega, h3⟩
theorem lier_lt {g : Nat → Nat} (h2 : g 2 ≤ 5) (h : lier g (g 2) 0 ≠ 9) : lier g (g 2) 0 < g 2 := by
  rcases lier_le g (g 2) 0 with e | ⟨-, e, -⟩
  · exact absurd e h
  · omega
theorem gld_lt (g : Nat → Nat) {m : Nat} : ∀ n b p, b < m → p + n ≤ m → gld g n b p < m := by
  intro n
  induction n with
  | zero => intro b p h _; exact h
  | succ n ih =>
    intro b p h1 h2
    show gld g n (if five g (12 + 5 * b) < five g (12 + 5 * p) then p else b) (p + 1) < m
    exact ih _ _ (by split <;> omega) (by omega)
theorem glds_lt {g : Nat → Nat} (h : 0 < g 2) : glds g < g 2 := gld_lt g _ _ _ h (by omega)
