/-! the class's summers: pieces taken up and laid off -/
/-- five counts of a row: which cells they are -/
abbrev RW (q a n B m : Nat) : Prop := (a = q + 1 ∧ n < 5 ∧ B = 12 + 5 * n ∧ m = 25) ∨ (a = q + 2 ∧ n = 0 ∧ B = 42 ∧ m = 5)
theorem RW.at {h : mjS} {q a n B m : Nat} {g : Nat → Nat} (r : RW q a n B m) (c : CQ h q g) : ∀ k, k < 5 → mI h a (n * 5 + k) = nI (g (B + k)) ∧ g (B + k) < 1048576 := by
  intro k hk
  refine ⟨?_, c.lt (by unfold RW at r; omega)⟩
  rcases r with ⟨rfl, r1, rfl, -⟩ | ⟨rfl, rfl, rfl, -⟩
  · exact c.1 1 _ _ (by unfold Tb; omega)
  · exact c.1 2 _ _ (by unfold Tb; omega)
theorem RW.up {h : mjS} {q a n B m : Nat} {g : Nat → Nat} (r : RW q a n B m) (c : CQ h q g) {k v : Nat} (hk : k < 5) (hv : v < 1048576) : CQ (pI h a (n * 5 + k) (nI v)) q (gup g (B + k) v) := by
  rcases r with ⟨rfl, r1, rfl, -⟩ | ⟨rfl, rfl, rfl, -⟩
  · exact c.up (by unfold Tb; omega) (by omega) hv
  · exact c.up (by unfold Tb; omega) (by omega) hv
theorem RW.k {h : mjS} {q a n B m : Nat} (r : RW q a n B m) (hq : qSh h q) : mK h a = 20 ∧ mN h a = m := by
  rcases r with ⟨rfl, r1, rfl, rfl⟩ | ⟨rfl, rfl, rfl, rfl⟩
  · exact ⟨hq.k1, hq.n1⟩
  · exact ⟨hq.k2, hq.n2⟩
theorem RW.bk {q a n B m : Nat} (r : RW q a n B m) : bk B := by unfold RW at r; unfold bk; omega
theorem bst_congr {g g' : Nat → Nat} {a : Nat} (h : ∀ k, k < 5 → g' (a + k) = g (a + k)) : bst g' a = bst g a := by
  have e : ∀ b k, b < 5 → k < 5 → btr g' a b k = btr g a b k := by
    intro b k hb hk
    unfold btr
    rw [h b hb, h k hk]
  have b1 : btr g a 0 1 < 5 := btr_lt (by omega) (by omega)
  have b2 : btr g a (btr g a 0 1) 2 < 5 := btr_lt b1 (by omega)
  have b3 : btr g a (btr g a (btr g a 0 1) 2) 3 < 5 := btr_lt b2 (by omega)
  unfold bst
  rw [e 0 1 (by omega) (by omega), e _ 2 b1 (by omega), e _ 3 b2 (by omega), e _ 4 b3 (by omega)]
section CT
variable {ev : mjT} {lv : Nat}
theorem sp_takeUp (E : mjFix ev) {q f a n B m s : Nat} (r : RW q a n B m) (h6 : s < 6) {h : mjS} {g : Nat → Nat} (cs : CS h q f g) (w : Wb g) : ∃ h', mjCall ev 70 lv [.ref q, .int (nI s), .ref a, .int (nI n)] h = some (.ref 0, h') ∧ Fr (FQ q) h h' ∧ CQ h' q (mvs (g (95 + s)) g B (47 + 8 * s + 3)) := by
  have hT := bk_s h6
  have hB := r.bk
  have hBT : B ≠ 47 + 8 * s + 3 := by unfold RW at r; omega
  have hap := bk_apart hB hT hBT
  have hm5 : n * 5 + 5 ≤ m ∧ m ≤ 1000 := by unfold RW at r; omega
  have hcar := w.1.2.1 s h6
  have hle : ∀ k, k < 5 → g (47 + 8 * s + 3 + k) ≤ 10000 := fun k hk => w.le hT (by omega) (by omega)
  have at_ : ∀ (j i : Nat) (h1 : mjS) (g1 : Nat → Nat) (w5 : Value), qSh h1 q → fSh h1 f → mR h1 q 0 = f → (f + 5 ≤ q ∨ q + 7 ≤ f) → CF h1 f g → CQ h1 q g1 → (∀ k, k < 5 → g1 (47 + 8 * s + 3 + k) + j < 20000) → i + j = g (95 + s) → ∃ h', ev 70 lv 3 [.ref q, .int (nI s), .ref a, .int (nI n), .int (nI i), w5] [] h1 = some (.ref 0, h') ∧ Fr (FQ q) h1 h' ∧ CQ h' q (mvs j g1 B (47 + 8 * s + 3)) := by
    intro j
    induction j with
    | zero =>
      intro i h1 g1 w5 hq hf h0 hd cf c _ hij
      refine ⟨h1, ?_, Fr.rf, c⟩
      rw [e_70_3 E]
      repeat (first | (apply ifT; focus ((try simp (disch := omega) only [hq.k, hq.r1, hq.k1, hq.n1, hq.r2, hq.k2, hq.n2, hq.r3, hq.k3, hq.n3, hq.r4, hq.k4, hq.n4, hq.r5, hq.k5, hq.n5, hq.r6, hq.k6, hq.n6, hf.k, hf.r2, hf.r4, hf.r5, hf.r7, hf.k1, hf.n1, hf.k2, hf.n2, hf.k3, hf.n3, hf.k4, hf.n4, h0, c.own, c.plc, c.lft, c.lod, c.blt, c.day, c.lyg, cf.far, cf.ppl, cf.spd, cf.wrk, cf.pcs, cf.slv, cf.car, cf.ned, i_lit, mI_pI, mK_pI, mN_pI, mR_pI, nI_ltI, nI_eq, nI_add, nI_mul, mjIn_nI, nI_clamp, neg1_lt0, if_pos, if_neg, if_true, if_false, Bool.false_eq_true, and_true, true_and, and_false, false_and]) <;> omega)) | (apply ifF; focus ((try simp (disch := omega) only [hq.k, hq.r1, hq.k1, hq.n1, hq.r2, hq.k2, hq.n2, hq.r3, hq.k3, hq.n3, hq.r4, hq.k4, hq.n4, hq.r5, hq.k5, hq.n5, hq.r6, hq.k6, hq.n6, hf.k, hf.r2, hf.r4, hf.r5, hf.r7, hf.k1, hf.n1, hf.k2, hf.n2, hf.k3, hf.n3, hf.k4, hf.n4, h0, c.own, c.plc, c.lft, c.lod, c.blt, c.day, c.lyg, cf.far, cf.ppl, cf.spd, cf.wrk, cf.pcs, cf.slv, cf.car, cf.ned, i_lit, mI_pI, mK_pI, mN_pI, mR_pI, nI_ltI, nI_eq, nI_add, nI_mul, mjIn_nI, nI_clamp, neg1_lt0, if_pos, if_neg, if_true, if_false, Bool.false_eq_true, and_true, true_and, and_false, false_and]) <;> omega)) | (apply stI; focus ((try simp (disch := omega) only [hq.k, hq.r1, hq.k1, hq.n1, hq.r2, hq.k2, hq.n2, hq.r3, hq.k3, hq.n3, hq.r4, hq.k4, hq.n4, hq.r5, hq.k5, hq.n5, hq.r6, hq.k6, hq.n6, hf.k, hf.r2, hf.r4, hf.r5, hf.r7, hf.k1, hf.n1, hf.k2, hf.n2, hf.k3, hf.n3, hf.k4, hf.n4, h0, c.own, c.plc, c.lft, c.lod, c.blt, c.day, c.lyg, cf.far, cf.ppl, cf.spd, cf.wrk, cf.pcs, cf.slv, cf.car, cf.ned, i_lit, mI_pI, mK_pI, mN_pI, mR_pI, nI_ltI, nI_eq, nI_add, nI_mul, mjIn_nI, nI_clamp, neg1_lt0, if_pos, if_neg, if_true, if_false, Bool.false_eq_true, and_true, true_and, and_false, false_and]) <;> rfl)) | (apply stV; focus ((try simp (disch := omega) only [hq.k, hq.r1, hq.k1, hq.n1, hq.r2, hq.k2, hq.n2, hq.r3, hq.k3, hq.n3, hq.r4, hq.k4, hq.n4, hq.r5, hq.k5, hq.n5, hq.r6, hq.k6, hq.n6, hf.k, hf.r2, hf.r4, hf.r5, hf.r7, hf.k1, hf.n1, hf.k2, hf.n2, hf.k3, hf.n3, hf.k4, hf.n4, h0, c.own, c.plc, c.lft, c.lod, c.blt, c.day, c.lyg, cf.far, cf.ppl, cf.spd, cf.wrk, cf.pcs, cf.slv, cf.car, cf.ned, i_lit, mI_pI, mK_pI, mN_pI, mR_pI, nI_ltI, nI_eq, nI_add, nI_mul, mjIn_nI, nI_clamp, neg1_lt0, if_pos, if_neg, if_true, if_false, Bool.false_eq_true, and_true, true_and, and_false, false_and]) <;> rfl)) | (apply stL; focus ((try simp (disch := omega) only [hq.k, hq.r1, hq.k1, hq.n1, hq.r2, hq.k2, hq.n2, hq.r3, hq.k3, hq.n3, hq.r4, hq.k4, hq.n4, hq.r5, hq.k5, hq.n5, hq.r6, hq.k6, hq.n6, hf.k, hf.r2, hf.r4, hf.r5, hf.r7, hf.k1, hf.n1, hf.k2, hf.n2, hf.k3, hf.n3, hf.k4, hf.n4, h0, c.own, c.plc, c.lft, c.lod, c.blt, c.day, c.lyg, cf.far, cf.ppl, cf.spd, cf.wrk, cf.pcs, cf.slv, cf.car, cf.ned, i_lit, mI_pI, mK_pI, mN_pI, mR_pI, nI_ltI, nI_eq, nI_add, nI_mul, mjIn_nI, nI_clamp, neg1_lt0, if_pos, if_neg, if_true, if_false, Bool.false_eq_true, and_true, true_and, and_false, false_and]) <;> rfl)))
      try simp (disch := omega) only [hq.k, hq.r1, hq.k1, hq.n1, hq.r2, hq.k2, hq.n2, hq.r3, hq.k3, hq.n3, hq.r4, hq.k4, hq.n4, hq.r5, hq.k5, hq.n5, hq.r6, hq.k6, hq.n6, hf.k, hf.r2, hf.r4, hf.r5, hf.r7, hf.k1, hf.n1, hf.k2, hf.n2, hf.k3, hf.n3, hf.k4, hf.n4, h0, c.own, c.plc, c.lft, c.lod, c.blt, c.day, c.lyg, cf.far, cf.ppl, cf.spd, cf.wrk, cf.pcs, cf.slv, cf.car, cf.ned, i_lit, mI_pI, mK_pI, mN_pI, mR_pI, nI_ltI, nI_eq, nI_add, nI_mul, mjIn_nI, nI_clamp, neg1_lt0, if_pos, if_neg, if_true, if_false, Bool.false_eq_true, and_true, true_and, and_false, false_and]
    | succ j ih =>
      intro i h1 g1 w5 hq hf h0 hd cf c hb hij
      obtain ⟨hk, hn⟩ := r.k hq
      have hr := r.at c
      have hbl := bst_lt g1 B
      have hbb := (hr _ hbl).2
      by_cases z : g1 (B + bst g1 B) = 0
      · refine ⟨h1, ?_, Fr.rf, ?_⟩
        · rw [e_70_3 E]
          have e1 := sp_takeNone (lv := lv) E hk hn hr hm5.1 hm5.2 z
          repeat (first | (apply ifT; focus ((try simp (disch := omega) only [e1, hq.k, hq.r1, hq.k1, hq.n1, hq.r2, hq.k2, hq.n2, hq.r3, hq.k3, hq.n3, hq.r4, hq.k4, hq.n4, hq.r5, hq.k5, hq.n5, hq.r6, hq.k6, hq.n6, hf.k, hf.r2, hf.r4, hf.r5, hf.r7, hf.k1, hf.n1, hf.k2, hf.n2, hf.k3, hf.n3, hf.k4, hf.n4, h0, c.own, c.plc, c.lft, c.lod, c.blt, c.day, c.lyg, cf.far, cf.ppl, cf.spd, cf.wrk, cf.pcs, cf.slv, cf.car, cf.ned, i_lit, mI_pI, mK_pI, mN_pI, mR_pI, nI_ltI, nI_eq, nI_add, nI_mul, mjIn_nI, nI_clamp, neg1_lt0, if_pos, if_neg, if_true, if_false, Bool.false_eq_true, and_true, true_and, and_false, false_and]) <;> omega)) | (apply ifF; focus ((try simp (disch := omega) only [e1, hq.k, hq.r1, hq.k1, hq.n1, hq.r2, hq.k2, hq.n2, hq.r3, hq.k3, hq.n3, hq.r4, hq.k4, hq.n4, hq.r5, hq.k5, hq.n5, hq.r6, hq.k6, hq.n6, hf.k, hf.r2, hf.r4, hf.r5, hf.r7, hf.k1, hf.n1, hf.k2, hf.n2, hf.k3, hf.n3, hf.k4, hf.n4, h0, c.own, c.plc, c.lft, c.lod, c.blt, c.day, c.lyg, cf.far, cf.ppl, cf.spd, cf.wrk, cf.pcs, cf.slv, cf.car, cf.ned, i_lit, mI_pI, mK_pI, mN_pI, mR_pI, nI_ltI, nI_eq, nI_add, nI_mul, mjIn_nI, nI_clamp, neg1_lt0, if_pos, if_neg, if_true, if_false, Bool.false_eq_true, and_true, true_and, and_false, false_and]) <;> omega)) | (apply stI; focus ((try simp (disch := omega) only [e1, hq.k, hq.r1, hq.k1, hq.n1, hq.r2, hq.k2, hq.n2, hq.r3, hq.k3, hq.n3, hq.r4, hq.k4, hq.n4, hq.r5, hq.k5, hq.n5, hq.r6, hq.k6, hq.n6, hf.k, hf.r2, hf.r4, hf.r5, hf.r7, hf.k1, hf.n1, hf.k2, hf.n2, hf.k3, hf.n3, hf.k4, hf.n4, h0, c.own, c.plc, c.lft, c.lod, c.blt, c.day, c.lyg, cf.far, cf.ppl, cf.spd, cf.wrk, cf.pcs, cf.slv, cf.car, cf.ned, i_lit, mI_pI, mK_pI, mN_pI, mR_pI, nI_ltI, nI_eq, nI_add, nI_mul, mjIn_nI, nI_clamp, neg1_lt0, if_pos, if_neg, if_true, if_false, Bool.false_eq_true, and_true, true_and, and_false, false_and]) <;> rfl)) | (apply stV; focus ((try simp (disch := omega) only [e1, hq.k, hq.r1, hq.k1, hq.n1, hq.r2, hq.k2, hq.n2, hq.r3, hq.k3, hq.n3, hq.r4, hq.k4, hq.n4, hq.r5, hq.k5, hq.n5, hq.r6, hq.k6, hq.n6, hf.k, hf.r2, hf.r4, hf.r5, hf.r7, hf.k1, hf.n1, hf.k2, hf.n2, hf.k3, hf.n3, hf.k4, hf.n4, h0, c.own, c.plc, c.lft, c.lod, c.blt, c.day, c.lyg, cf.far, cf.ppl, cf.spd, cf.wrk, cf.pcs, cf.slv, cf.car, cf.ned, i_lit, mI_pI, mK_pI, mN_pI, mR_pI, nI_ltI, nI_eq, nI_add, nI_mul, mjIn_nI, nI_clamp, neg1_lt0, if_pos, if_neg, if_true, if_false, Bool.false_eq_true, and_true, true_and, and_false, false_and]) <;> rfl)) | (apply stL; focus ((try simp (disch := omega) only [e1, hq.k, hq.r1, hq.k1, hq.n1, hq.r2, hq.k2, hq.n2, hq.r3, hq.k3, hq.n3, hq.r4, hq.k4, hq.n4, hq.r5, hq.k5, hq.n5, hq.r6, hq.k6, hq.n6, hf.k, hf.r2, hf.r4, hf.r5, hf.r7, hf.k1, hf.n1, hf.k2, hf.n2, hf.k3, hf.n3, hf.k4, hf.n4, h0, c.own, c.plc, c.lft, c.lod, c.blt, c.day, c.lyg, cf.far, cf.ppl, cf.spd, cf.wrk, cf.pcs, cf.slv, cf.car, cf.ned, i_lit, mI_pI, mK_pI, mN_pI, mR_pI, nI_ltI, nI_eq, nI_add, nI_mul, mjIn_nI, nI_clamp, neg1_lt0, if_pos, if_neg, if_true, if_false, Bool.false_eq_true, and_true, true_and, and_false, false_and]) <;> rfl)))
          try simp (disch := omega) only [e1, hq.k, hq.r1, hq.k1, hq.n1, hq.r2, hq.k2, hq.n2, hq.r3, hq.k3, hq.n3, hq.r4, hq.k4, hq.n4, hq.r5, hq.k5, hq.n5, hq.r6, hq.k6, hq.n6, hf.k, hf.r2, hf.r4, hf.r5, hf.r7, hf.k1, hf.n1, hf.k2, hf.n2, hf.k3, hf.n3, hf.k4, hf.n4, h0, c.own, c.plc, c.lft, c.lod, c.blt, c.day, c.lyg, cf.far, cf.ppl, cf.spd, cf.wrk, cf.pcs, cf.slv, cf.car, cf.ned, i_lit, mI_pI, mK_pI, mN_pI, mR_pI, nI_ltI, nI_eq, nI_add, nI_mul, mjIn_nI, nI_clamp, neg1_lt0, if_pos, if_neg, if_true, if_false, Bool.false_eq_true, and_true, true_and, and_false, false_and]
        · show CQ h1 q (if g1 (B + bst g1 B) = 0 then g1 else _)
          rw [if_pos z]; exact c
      · have e1 := sp_takeOne (lv := lv) E hk hn hr hm5.1 hm5.2 z
        have hbT := hb _ hbl
        have c1 := r.up c (k := bst g1 B) (v := g1 (B + bst g1 B) - 1) hbl (by omega)
        have c2 := c1.up (o := 6) (i := s * 5 + bst g1 B) (j := 47 + 8 * s + 3 + bst g1 B) (v := g1 (47 + 8 * s + 3 + bst g1 B) + 1) (by unfold Tb; omega) (by omega) (by omega)
        have f1 : Fr (FQ q) h1 (pI h1 a (n * 5 + bst g1 B) (nI (g1 (B + bst g1 B) - 1))) := Fr.pI (F := FQ q) (by unfold RW at r; omega)
        have f2 : Fr (FQ q) (pI h1 a (n * 5 + bst g1 B) (nI (g1 (B + bst g1 B) - 1))) (pI (pI h1 a (n * 5 + bst g1 B) (nI (g1 (B + bst g1 B) - 1))) (q + 6) (s * 5 + bst g1 B) (nI (g1 (47 + 8 * s + 3 + bst g1 B) + 1))) := Fr.pI (F := FQ q) (by omega)
        have e2 : mv1 g1 B (47 + 8 * s + 3) = gup (gup g1 (B + bst g1 B) (g1 (B + bst g1 B) - 1)) (47 + 8 * s + 3 + bst g1 B) (g1 (47 + 8 * s + 3 + bst g1 B) + 1) := by unfold mv1; rw [if_neg (by omega)]
        have f3 := f1.tr f2
        obtain ⟨h', r1, r2, r3⟩ := ih (i + 1) _ (mv1 g1 B (47 + 8 * s + 3)) (.int (nI (bst g1 B))) (f3.qs hq) (f3.fs hf) (by rw [f3.R]; exact h0) hd (cf.fr f3 (fun x k h1 h2 => by omega)) (by rw [e2]; exact c2) (fun k hk => by
          have := hb k hk
          rw [e2]
          unfold gup
          split
          · rename_i e3; rw [show k = bst g1 B by omega]; omega
          · rw [if_neg (by omega)]; omega) (by omega)
        refine ⟨h', ?_, f3.tr r2, ?_⟩
        · rw [e_70_3 E, ← r1]
          repeat (first | (apply ifT; focus ((try simp (disch := omega) only [e1, neg1i, hq.k, hq.r1, hq.k1, hq.n1, hq.r2, hq.k2, hq.n2, hq.r3, hq.k3, hq.n3, hq.r4, hq.k4, hq.n4, hq.r5, hq.k5, hq.n5, hq.r6, hq.k6, hq.n6, hf.k, hf.r2, hf.r4, hf.r5, hf.r7, hf.k1, hf.n1, hf.k2, hf.n2, hf.k3, hf.n3, hf.k4, hf.n4, h0, c.own, c.plc, c.lft, c.lod, c.blt, c.day, c.lyg, cf.far, cf.ppl, cf.spd, cf.wrk, cf.pcs, cf.slv, cf.car, cf.ned, i_lit, mI_pI, mK_pI, mN_pI, mR_pI, nI_ltI, nI_eq, nI_add, nI_mul, mjIn_nI, nI_clamp, neg1_lt0, if_pos, if_neg, if_true, if_false, Bool.false_eq_true, and_true, true_and, and_false, false_and]) <;> omega)) | (apply ifF; focus ((try simp (disch := omega) only [e1, neg1i, hq.k, hq.r1, hq.k1, hq.n1, hq.r2, hq.k2, hq.n2, hq.r3, hq.k3, hq.n3, hq.r4, hq.k4, hq.n4, hq.r5, hq.k5, hq.n5, hq.r6, hq.k6, hq.n6, hf.k, hf.r2, hf.r4, hf.r5, hf.r7, hf.k1, hf.n1, hf.k2, hf.n2, hf.k3, hf.n3, hf.k4, hf.n4, h0, c.own, c.plc, c.lft, c.lod, c.blt, c.day, c.lyg, cf.far, cf.ppl, cf.spd, cf.wrk, cf.pcs, cf.slv, cf.car, cf.ned, i_lit, mI_pI, mK_pI, mN_pI, mR_pI, nI_ltI, nI_eq, nI_add, nI_mul, mjIn_nI, nI_clamp, neg1_lt0, if_pos, if_neg, if_true, if_false, Bool.false_eq_true, and_true, true_and, and_false, false_and]) <;> omega)) | (apply stI; focus ((try simp (disch := omega) only [e1, neg1i, hq.k, hq.r1, hq.k1, hq.n1, hq.r2, hq.k2, hq.n2, hq.r3, hq.k3, hq.n3, hq.r4, hq.k4, hq.n4, hq.r5, hq.k5, hq.n5, hq.r6, hq.k6, hq.n6, hf.k, hf.r2, hf.r4, hf.r5, hf.r7, hf.k1, hf.n1, hf.k2, hf.n2, hf.k3, hf.n3, hf.k4, hf.n4, h0, c.own, c.plc, c.lft, c.lod, c.blt, c.day, c.lyg, cf.far, cf.ppl, cf.spd, cf.wrk, cf.pcs, cf.slv, cf.car, cf.ned, i_lit, mI_pI, mK_pI, mN_pI, mR_pI, nI_ltI, nI_eq, nI_add, nI_mul, mjIn_nI, nI_clamp, neg1_lt0, if_pos, if_neg, if_true, if_false, Bool.false_eq_true, and_true, true_and, and_false, false_and]) <;> rfl)) | (apply stV; focus ((try simp (disch := omega) only [e1, neg1i, hq.k, hq.r1, hq.k1, hq.n1, hq.r2, hq.k2, hq.n2, hq.r3, hq.k3, hq.n3, hq.r4, hq.k4, hq.n4, hq.r5, hq.k5, hq.n5, hq.r6, hq.k6, hq.n6, hf.k, hf.r2, hf.r4, hf.r5, hf.r7, hf.k1, hf.n1, hf.k2, hf.n2, hf.k3, hf.n3, hf.k4, hf.n4, h0, c.own, c.plc, c.lft, c.lod, c.blt, c.day, c.lyg, cf.far, cf.ppl, cf.spd, cf.wrk, cf.pcs, cf.slv, cf.car, cf.ned, i_lit, mI_pI, mK_pI, mN_pI, mR_pI, nI_ltI, nI_eq, nI_add, nI_mul, mjIn_nI, nI_clamp, neg1_lt0, if_pos, if_neg, if_true, if_false, Bool.false_eq_true, and_true, true_and, and_false, false_and]) <;> rfl)) | (apply stL; focus ((try simp (disch := omega) only [e1, neg1i, hq.k, hq.r1, hq.k1, hq.n1, hq.r2, hq.k2, hq.n2, hq.r3, hq.k3, hq.n3, hq.r4, hq.k4, hq.n4, hq.r5, hq.k5, hq.n5, hq.r6, hq.k6, hq.n6, hf.k, hf.r2, hf.r4, hf.r5, hf.r7, hf.k1, hf.n1, hf.k2, hf.n2, hf.k3, hf.n3, hf.k4, hf.n4, h0, c.own, c.plc, c.lft, c.lod, c.blt, c.day, c.lyg, cf.far, cf.ppl, cf.spd, cf.wrk, cf.pcs, cf.slv, cf.car, cf.ned, i_lit, mI_pI, mK_pI, mN_pI, mR_pI, nI_ltI, nI_eq, nI_add, nI_mul, mjIn_nI, nI_clamp, neg1_lt0, if_pos, if_neg, if_true, if_false, Bool.false_eq_true, and_true, true_and, and_false, false_and]) <;> rfl)))
          try simp (disch := omega) only [e1, neg1i, hq.k, hq.r1, hq.k1, hq.n1, hq.r2, hq.k2, hq.n2, hq.r3, hq.k3, hq.n3, hq.r4, hq.k4, hq.n4, hq.r5, hq.k5, hq.n5, hq.r6, hq.k6, hq.n6, hf.k, hf.r2, hf.r4, hf.r5, hf.r7, hf.k1, hf.n1, hf.k2, hf.n2, hf.k3, hf.n3, hf.k4, hf.n4, h0, c.own, c.plc, c.lft, c.lod, c.blt, c.day, c.lyg, cf.far, cf.ppl, cf.spd, cf.wrk, cf.pcs, cf.slv, cf.car, cf.ned, i_lit, mI_pI, mK_pI, mN_pI, mR_pI, nI_ltI, nI_eq, nI_add, nI_mul, mjIn_nI, nI_clamp, neg1_lt0, if_pos, if_neg, if_true, if_false, Bool.false_eq_true, and_true, true_and, and_false, false_and]
          all_goals (try rw [if_neg (by omega)])
          all_goals (try rfl)
        · show CQ h' q (if g1 (B + bst g1 B) = 0 then g1 else mvs j (mv1 g1 B (47 + 8 * s + 3)) B (47 + 8 * s + 3))
          rw [if_neg z]; exact r3
  obtain ⟨⟨hq, hf, h0, hd⟩, cf, c⟩ := cs
  obtain ⟨h', r1, r2, r3⟩ := at_ (g (95 + s)) 0 h g mjD hq hf h0 hd cf c (fun k hk => by have := hle k hk; omega) (by omega)
  refine ⟨h', ?_, r2, r3⟩
  show ev 70 lv 0 [.ref q, .int (nI s), .ref a, .int (nI n), mjD, mjD] [] h = _
  rw [e_70_0 E]
  exact r1
end CT
