/-! the reference moves pieces -/
section RM
variable {ev : mjT} {lv : Nat}
/-- the row's cell that a piece goes to: none below 0 -/
def toI (t : Nat) : Int32 := if t = 0 then -1 else nI t
theorem rm_inner (E : mjFix ev) {h : mjS} {g : Nat → Nat} (hs : rSh h) (v : V h g) {a : Nat} (ha : a + 5 ≤ 148) (t m i : Int32) {b k : Nat} (hb : b < 5) (hk : k < 5) : ev 204 lv 15 [.ref 243, .int (nI a), .int t, .int m, .int i, .int (nI b), .int (nI k)] [] h = ev 204 lv 15 [.ref 243, .int (nI a), .int t, .int m, .int i, .int (nI (btr g a b k)), .int (nI (k + 1))] [] h := by
  have hb1 := v.lt (k := a + b) (by omega)
  have hk1 := v.lt (k := a + k) (by omega)
  rw [e_204_15 E]
  simp (disch := omega) only [hs.k, hs.r_said, hs.k_said, hs.n_said, v.at, i_lit, nI_ltI, nI_add, mjIn_nI, nI_clamp, if_pos, if_true, if_false]
  unfold btr
  by_cases q : g (a + b) < g (a + k)
  · rw [if_pos q, if_pos q]
  · rw [if_neg q, if_neg q]
theorem rm_best (E : mjFix ev) {h : mjS} {g : Nat → Nat} (hs : rSh h) (v : V h g) {a : Nat} (ha : a + 5 ≤ 148) (t m i : Int32) : ev 204 lv 15 [.ref 243, .int (nI a), .int t, .int m, .int i, .int 0, .int 1] [] h = ev 204 lv 15 [.ref 243, .int (nI a), .int t, .int m, .int i, .int (nI (bst g a)), .int (nI 5)] [] h := by
  have e0 : ev 204 lv 15 [.ref 243, .int (nI a), .int t, .int m, .int i, .int 0, .int 1] [] h = ev 204 lv 15 [.ref 243, .int (nI a), .int t, .int m, .int i, .int (nI 0), .int (nI 1)] [] h := rfl
  have b1 : btr g a 0 1 < 5 := btr_lt (by omega) (by omega)
  have b2 : btr g a (btr g a 0 1) 2 < 5 := btr_lt b1 (by omega)
  have b3 : btr g a (btr g a (btr g a 0 1) 2) 3 < 5 := btr_lt b2 (by omega)
  rw [e0, rm_inner E hs v ha t m i (by omega) (by omega), rm_inner E hs v ha t m i b1 (by omega), rm_inner E hs v ha t m i b2 (by omega), rm_inner E hs v ha t m i b3 (by omega)]
  rfl
/-- so many pieces go, one by one -/
theorem sp_moves_at (E : mjFix ev) {a t many : Nat} (ha : a + 5 ≤ 148) (ht : t + 5 ≤ 148) (hat : t = 0 ∨ apart a t) (hm : many < 1000000) : ∀ (n : Nat) (h : mjS) (g : Nat → Nat) (i : Nat) (w5 w6 : Value), rSh h → V h g → (∀ k, t ≤ k → k < t + 5 → g k + n < 1048576) → i + n = many →
    ∃ h', ev 204 lv 3 [.ref 243, .int (nI a), .int (toI t), .int (nI many), .int (nI i), w5, w6] [] h = some (.ref 0, h') ∧ Fr (fun x _ => x = 253) h h' ∧ V h' (mvs n g a t) := by
  intro n
  induction n with
  | zero =>
    intro h g i w5 w6 hs v hb hi
    refine ⟨h, ?_, Fr.rf, v⟩
    rw [e_204_3 E]
    simp (disch := omega) only [nI_ltI, if_neg]
  | succ n ih =>
    intro h g i w5 w6 hs v hb hi
    have hbl := bst_lt g a
    have hbb := v.lt (k := a + bst g a) (by omega)
    have hbt := hb (t + bst g a) (by omega) (by omega)
    rw [e_204_3 E, if_pos ((nI_ltI (by omega) (by omega)).mpr (by omega)), rm_best E hs v ha]
    rw [e_204_15 E]
    simp (disch := omega) only [hs.k, hs.r_said, hs.k_said, hs.n_said, v.at, i_lit, nI_ltI, nI_add, mjIn_nI, nI_clamp, nI_eq, if_pos, if_neg, if_true, if_false]
    by_cases q : g (a + bst g a) = 0
    · rw [if_pos q]
      exact ⟨h, rfl, Fr.rf, by show V h (if g (a + bst g a) = 0 then g else _); rw [if_pos q]; exact v⟩
    · rw [if_neg q, nI_sub (by omega)]
      have v1 := v.up (k := a + bst g a) (x := g (a + bst g a) - 1) (by omega)
      have f1 : Fr (fun x _ => x = 253) h (pI h 253 (a + bst g a) (nI (g (a + bst g a) - 1))) := Fr.pI rfl
      have em : mvs (n + 1) g a t = mvs n (mv1 g a t) a t := by
        show (if g (a + bst g a) = 0 then g else mvs n (mv1 g a t) a t) = _
        rw [if_neg q]
      rw [em]
      by_cases h0 : t = 0
      · have et : toI t = -1 := by unfold toI; rw [if_pos h0]
        have e1 : mv1 g a t = gup g (a + bst g a) (g (a + bst g a) - 1) := by unfold mv1; rw [if_pos h0]
        obtain ⟨h', r1, r2, r3⟩ := ih (pI h 253 (a + bst g a) (nI (g (a + bst g a) - 1))) (mv1 g a t) (i + 1) (.int (nI (bst g a))) (.int (nI 5)) (f1.rSh hs) (by rw [e1]; exact v1) (fun k hk hk2 => by
          have := hb k hk hk2
          rw [e1]
          unfold gup
          split
          · rename_i ek; subst ek; omega
          · omega) (by omega)
        refine ⟨h', ?_, f1.tr r2, r3⟩
        rw [← r1, et]
        simp only [show ((-1 : Int32) < nI 0) = True from by decide, if_true]
      · have et : toI t = nI t := by unfold toI; rw [if_neg h0]
        have hap : apart a t := hat.resolve_left h0
        have e1 : mv1 g a t = gup (gup g (a + bst g a) (g (a + bst g a) - 1)) (t + bst g a) (g (t + bst g a) + 1) := by unfold mv1; rw [if_neg h0]
        have v2 := v1.up (k := t + bst g a) (x := g (t + bst g a) + 1) (by omega)
        have f2 : Fr (fun x _ => x = 253) (pI h 253 (a + bst g a) (nI (g (a + bst g a) - 1))) (pI (pI h 253 (a + bst g a) (nI (g (a + bst g a) - 1))) 253 (t + bst g a) (nI (g (t + bst g a) + 1))) := Fr.pI rfl
        have rd : mI (pI h 253 (a + bst g a) (nI (g (a + bst g a) - 1))) 253 (t + bst g a) = nI (g (t + bst g a)) := by
          rw [v1.at _ (by omega), gup_ne _ _ (by omega)]
        obtain ⟨h', r1, r2, r3⟩ := ih (pI (pI h 253 (a + bst g a) (nI (g (a + bst g a) - 1))) 253 (t + bst g a) (nI (g (t + bst g a) + 1))) (mv1 g a t) (i + 1) (.int (nI (bst g a))) (.int (nI 5)) ((f1.tr f2).rSh hs) (by rw [e1]; exact v2) (fun k hk hk2 => by
          have := hb k hk hk2
          rw [e1]
          unfold gup
          split
          · rename_i ek; subst ek; omega
          · split
            · rename_i ek; subst ek; omega
            · omega) (by omega)
        refine ⟨h', ?_, (f1.tr f2).tr r2, r3⟩
        rw [← r1, et]
        simp (disch := omega) only [nI_ltI, nI_add, mjIn_nI, nI_clamp, rd, if_pos, if_neg, if_true, if_false]
theorem sp_mv (E : mjFix ev) {h : mjS} {g : Nat → Nat} {a t n : Nat} (hs : rSh h) (v : V h g) (ha : a + 5 ≤ 148) (ht : t + 5 ≤ 148) (t0 : t ≠ 0) (hat : apart a t) (hb : ∀ k, t ≤ k → k < t + 5 → g k + n < 1048576) (hn : n < 1000000) : ∃ h', mjCall ev 204 lv [.ref 243, .int (nI a), .int (nI t), .int (nI n)] h = some (.ref 0, h') ∧ Fr (fun x _ => x = 253) h h' ∧ V h' (mvs n g a t) := by
  obtain ⟨h', r1, r2, r3⟩ := sp_moves_at (lv := lv) E ha ht (Or.inr hat) hn n h g 0 mjD mjD hs v hb (by omega)
  refine ⟨h', ?_, r2, r3⟩
  show ev 204 lv 0 [.ref 243, .int (nI a), .int (nI t), .int (nI n), mjD, mjD, mjD] [] h = _
  rw [e_204_0 E, ← r1, show toI t = nI t by unfold toI; rw [if_neg t0]]
  rfl
theorem sp_mvOff (E : mjFix ev) {h : mjS} {g : Nat → Nat} {a n : Nat} (hs : rSh h) (v : V h g) (ha : a + 5 ≤ 148) (hb : ∀ k, k < 5 → g k + n < 1048576) (hn : n < 1000000) : ∃ h', mjCall ev 204 lv [.ref 243, .int (nI a), .int (-1), .int (nI n)] h = some (.ref 0, h') ∧ Fr (fun x _ => x = 253) h h' ∧ V h' (mvs n g a 0) := by
  obtain ⟨h', r1, r2, r3⟩ := sp_moves_at (lv := lv) E (t := 0) ha (by omega) (Or.inl rfl) hn n h g 0 mjD mjD hs v (fun k _ hk => hb k (by omega)) (by omega)
  refine ⟨h', ?_, r2, r3⟩
  show ev 204 lv 0 [.ref 243, .int (nI a), .int (-1), .int (nI n), mjD, mjD, mjD] [] h = _
  rw [e_204_0 E, ← r1]
  rfl
end RM
