/-! the class's object and the reference's, as they are made -/
def RL (s : mjS) (l : List (Nat × Nat)) : Prop := ∀ x, x ∈ l → mR s 4 x.1 = x.2
/-- the class's object as it grows -/
def Sg (H s : mjS) (n z : Nat) (l : List (Nat × Nat)) (b : Int32) : Prop := (mX s = n ∧ mZ s = z ∧ 4 < n) ∧ mK s 4 = 12 ∧ RL s l ∧ (∀ a k, 4 ≤ a → a < mX s → ¬ (a = 4 ∧ k = 5) → mI s a k = 0) ∧ mI s 4 5 = b ∧ ∀ a, a < 4 → mK s a = mK H a ∧ mN s a = mN H a ∧ ∀ k, mI s a k = mI H a k ∧ mL s a k = mL H a k ∧ mR s a k = mR H a k
section SG
variable {H s s' : mjS} {n z n' z' : Nat} {l : List (Nat × Nat)} {b : Int32}
theorem Sg.nw (g : Sg H s n z l b) (w : Nw s s') (hx : mX s' = n') (hz : mZ s' = z') : Sg H s' n' z' l b := by
  obtain ⟨⟨g1, g2, g3⟩, g4, g5, g6, g7, g8⟩ := g
  have w1 := w.1
  refine ⟨⟨hx, hz, by omega⟩, (w.2.1 4 (by omega)).1.trans g4, fun x hx => ((w.2.1 4 (by omega)).2.2 _).2.2.trans (g5 x hx), fun a k h1 h2 h3 => ?_, ((w.2.1 4 (by omega)).2.2 5).1.trans g7, fun a ha => ?_⟩
  · by_cases y : a < mX s
    · rw [((w.2.1 a y).2.2 k).1]; exact g6 a k h1 y h3
    · exact w.2.2 a k (by omega) h2
  · obtain ⟨u1, u2, u3⟩ := g8 a ha
    obtain ⟨v1, v2, v3⟩ := w.2.1 a (by omega)
    exact ⟨v1.trans u1, v2.trans u2, fun k => ⟨(v3 k).1.trans (u3 k).1, (v3 k).2.1.trans (u3 k).2.1, (v3 k).2.2.trans (u3 k).2.2⟩⟩
theorem Sg.rr (g : Sg H s n z l b) (k v : Nat) (hk : ∀ x, x ∈ l → x.1 ≠ k) : Sg H (pR s 4 k v) n z (l ++ [(k, v)]) b := by
  obtain ⟨g1, g4, g5, g6, g7, g8⟩ := g
  refine ⟨g1, g4, fun x hx => ?_, g6, g7, fun a ha => ⟨(g8 a ha).1, (g8 a ha).2.1, fun j => ⟨((g8 a ha).2.2 j).1, ((g8 a ha).2.2 j).2.1, by rw [mR_pR, if_neg (by omega)]; exact ((g8 a ha).2.2 j).2.2⟩⟩⟩
  rcases List.mem_append.mp hx with y | y
  · have := hk x y
    rw [mR_pR, if_neg (fun e => this e.2)]; exact g5 x y
  · rw [List.mem_singleton.mp y, mR_pR, if_pos ⟨rfl, rfl⟩]
theorem Sg.ro (g : Sg H s n z l b) {c : Nat} (hc : 4 < c) (k v : Nat) : Sg H (pR s c k v) n z l b := by
  obtain ⟨g1, g4, g5, g6, g7, g8⟩ := g
  exact ⟨g1, g4, fun x hx => by rw [mR_pR, if_neg (by omega)]; exact g5 x hx, g6, g7, fun a ha => ⟨(g8 a ha).1, (g8 a ha).2.1, fun j => ⟨((g8 a ha).2.2 j).1, ((g8 a ha).2.2 j).2.1, by rw [mR_pR, if_neg (by omega)]; exact ((g8 a ha).2.2 j).2.2⟩⟩⟩
theorem Sg.ii (g : Sg H s n z l b) (v : Int32) : Sg H (pI s 4 5 v) n z l v := by
  obtain ⟨g1, g4, g5, g6, g7, g8⟩ := g
  exact ⟨g1, g4, g5, fun a k h1 h2 h3 => by rw [mI_pI, if_neg h3]; exact g6 a k h1 h2 h3, pI_at, fun a ha => ⟨(g8 a ha).1, (g8 a ha).2.1, fun j => ⟨by rw [pI_ne (by omega)]; exact ((g8 a ha).2.2 j).1, ((g8 a ha).2.2 j).2.1, ((g8 a ha).2.2 j).2.2⟩⟩⟩
theorem Sg.x (g : Sg H s n z l b) : mX s = n := g.1.1
theorem Sg.k (g : Sg H s n z l b) : mK s 4 = 12 := g.2.1
theorem Sg.kn (g : Sg H s n z l b) (k m w : Nat) : mK (pN s k m w) 4 = 12 := by
  have := g.1
  rw [mK_pN, if_neg (by omega)]; exact g.2.1
theorem Sg.rn (g : Sg H s n z l b) (k m w : Nat) {i v : Nat} (hi : (i, v) ∈ l) : mR (pN s k m w) 4 i = v := by
  have := g.1
  rw [mR_pN, if_neg (by omega)]; exact g.2.2.1 _ hi
end SG
/-- the class's object when it is made -/
def Gm (H s : mjS) : Prop := (mX s = 243 ∧ mZ s = mZ H + 5393) ∧ (∀ a k, 4 ≤ a → a < 243 → ¬ (a = 4 ∧ k = 5) → mI s a k = 0) ∧ mI s 4 5 = -nI 1 ∧ (tSh s ∧ uSh s ∧ sSh s ∧ zSh s ∧ nSh s 168) ∧ (fSh s 14 ∧ qSh s 19 ∧ mR s 19 0 = 14) ∧ ∀ a, a < 4 → mK s a = mK H a ∧ mN s a = mN H a ∧ ∀ k, mI s a k = mI H a k ∧ mL s a k = mL H a k ∧ mR s a k = mR H a k
section NG
variable {ev : mjT} {lv : Nat}
theorem nw_G (E : mjFix ev) (H : mjS) (xH : mX H = 4) : ∃ h', mjCall ev 95 lv [.ref 4] (pN H 12 0 13) = some (.ref 0, h') ∧ Gm H h' := by
  have c6 : Int32.toNatClampNeg 6 = 6 := by decide
  have c4 : Int32.toNatClampNeg 4 = 4 := by decide
  -- 4
  obtain ⟨s0, es0⟩ : ∃ y, y = pN H 12 0 13 := ⟨_, rfl⟩
  have w0 : Nw H s0 := by rw [es0]; exact Nw.nn H 12 0 13
  have x0 : mX s0 = 5 := by rw [es0]; show mX H + 1 = 5; omega
  have g0 : Sg H s0 5 (mZ H + 13) [] 0 := by
    refine ⟨⟨x0, by rw [es0]; rfl, by omega⟩, by rw [es0, mK_pN, if_pos (by omega)], fun x hx => absurd hx List.not_mem_nil, fun a k h1 h2 _ => w0.2.2 a k (by omega) h2, w0.2.2 4 5 (by omega) (by omega), fun a ha => w0.2.1 a (by omega)⟩
  -- 5 to 9: the tape
  obtain ⟨h1, e1, ⟨x1, z1⟩, w1, k1, a1⟩ := nw_T (lv := lv) E s0 (by omega)
  rw [x0] at k1 a1 e1
  have g1' := g0.nw w1 (n' := 10) (z' := mZ H + 1624) (by omega) (by rw [z1, g0.1.2.1])
  obtain ⟨s1, es1⟩ : ∃ y, y = pR h1 4 0 5 := ⟨_, rfl⟩
  have g1 := g1'.rr 0 5 (by decide)
  rw [← es1] at g1
  -- 10
  obtain ⟨s2, es2⟩ : ∃ y, y = pR (pR (pN s1 3 0 1) 10 0 5) 4 1 10 := ⟨_, rfl⟩
  have g2 := ((g1.nw (Nw.nn s1 3 0 1) (n' := 11) (z' := mZ H + 1625) (by show mX s1 + 1 = 11; rw [g1.x]) (by show mZ s1 + 1 = _; rw [g1.1.2.1])).ro (c := 10) (by omega) 0 5).rr 1 10 (by decide)
  rw [← es2] at g2
  have k10 : mK s2 10 = 3 ∧ mR s2 10 0 = 5 := by
    rw [es2]
    exact ⟨by show mK (pN s1 3 0 1) 10 = 3; rw [mK_pN, if_pos (by rw [g1.x])], by rw [mR_pR, if_neg (by omega), mR_pR, if_pos ⟨rfl, rfl⟩]⟩
  -- 11, 12
  obtain ⟨h3, e3, ⟨x3, z3⟩, w3, l3⟩ := nw_L (lv := lv) E s2 (by rw [g2.x]; omega) 5
  rw [g2.x] at e3 l3
  have g3' := g2.nw w3 (n' := 13) (z' := mZ H + 2029) (by rw [x3, g2.x]) (by rw [z3, g2.1.2.1])
  obtain ⟨s3, es3⟩ : ∃ y, y = pR h3 4 2 11 := ⟨_, rfl⟩
  have g3 := g3'.rr 2 11 (by decide)
  rw [← es3] at g3
  -- 13
  obtain ⟨s4, es4⟩ : ∃ y, y = pR (pN s3 24 6 6) 4 3 13 := ⟨_, rfl⟩
  have g4 := (g3.nw (Nw.nn s3 24 6 6) (n' := 14) (z' := mZ H + 2035) (by show mX s3 + 1 = 14; rw [g3.x]) (by show mZ s3 + 6 = _; rw [g3.1.2.1])).rr 3 13 (by decide)
  rw [← es4] at g4
  have k13 : mK s4 13 = 24 ∧ mN s4 13 = 6 := by
    rw [es4]
    exact ⟨by show mK (pN s3 24 6 6) 13 = 24; rw [mK_pN, if_pos (by rw [g3.x])], by show mN (pN s3 24 6 6) 13 = 6; rw [mN_pN, if_pos (by rw [g3.x])]⟩
  obtain ⟨s5, es5⟩ : ∃ y, y = pI s4 4 5 (-nI 1) := ⟨_, rfl⟩
  have g5 := g4.ii (-nI 1)
  rw [← es5] at g5
  -- 14 to 18: no field
  obtain ⟨h5, e5, fs5, zr5, x5, z5, A5⟩ := cl_newF (lv := lv) E s5 (by rw [g5.x]; omega)
  have w5 : Nw s5 h5 := ⟨by omega, fun a ha => ⟨(A5 a ha).1, (A5 a ha).2.1, fun k => ⟨((A5 a ha).2.2 k).2.2, ((A5 a ha).2.2 k).1, ((A5 a ha).2.2 k).2.1⟩⟩, fun a k h1 h2 => zr5 a k h1 (by omega)⟩
  rw [g5.x] at e5 fs5
  have g6 := g5.nw w5 (n' := 19) (z' := mZ H + 2065) (by rw [x5, g5.x]) (by rw [z5, g5.1.2.1])
  -- 19 to 25
  obtain ⟨h6, e6, ⟨x6, z6⟩, w6, qs6, r6⟩ := nw_Q (lv := lv) E h5 (by rw [g6.x]; omega) 14
  rw [g6.x] at e6 qs6 r6
  have g7' := g6.nw w6 (n' := 26) (z' := mZ H + 2153) (by rw [x6, g6.x]) (by rw [z6, g6.1.2.1])
  obtain ⟨s6, es6⟩ : ∃ y, y = pR h6 4 6 19 := ⟨_, rfl⟩
  have g7 := g7'.rr 6 19 (by decide)
  rw [← es6] at g7
  -- 26 to 167: acts
  obtain ⟨h7, e7, ⟨x7, z7⟩, w7, k7, q7⟩ := nw_A (lv := lv) E s6 (by rw [g7.x]; omega) 14
  rw [g7.x] at e7 k7 q7
  have g8' := g7.nw w7 (n' := 168) (z' := mZ H + 3936) (by rw [x7, g7.x]) (by rw [z7, g7.1.2.1])
  obtain ⟨s7, es7⟩ : ∃ y, y = pR h7 4 7 26 := ⟨_, rfl⟩
  have g8 := g8'.rr 7 26 (by decide)
  rw [← es7] at g8
  -- 168 to 171: notes
  obtain ⟨h8, e8, ⟨x8, z8⟩, w8, ns8⟩ := nw_N (lv := lv) E s7 (by rw [g8.x]; omega)
  rw [g8.x] at e8 ns8
  have g9' := g8.nw w8 (n' := 172) (z' := mZ H + 3970) (by rw [x8, g8.x]) (by rw [z8, g8.1.2.1])
  obtain ⟨s8, es8⟩ : ∃ y, y = pR h8 4 8 168 := ⟨_, rfl⟩
  have g9 := g9'.rr 8 168 (by decide)
  rw [← es8] at g9
  -- 172: images
  obtain ⟨s9, es9⟩ : ∃ y, y = pR (pN s8 25 4 4) 4 10 172 := ⟨_, rfl⟩
  have g10 := (g9.nw (Nw.nn s8 25 4 4) (n' := 173) (z' := mZ H + 3974) (by show mX s8 + 1 = 173; rw [g9.x]) (by show mZ s8 + 4 = _; rw [g9.1.2.1])).rr 10 172 (by decide)
  rw [← es9] at g10
  have k172 : mK s9 172 = 25 ∧ mN s9 172 = 4 := by
    rw [es9]
    exact ⟨by show mK (pN s8 25 4 4) 172 = 25; rw [mK_pN, if_pos (by rw [g9.x])], by show mN (pN s8 25 4 4) 172 = 4; rw [mN_pN, if_pos (by rw [g9.x])]⟩
  obtain ⟨l10, el10⟩ : ∃ l, l = ([] ++ [(0, 5)] ++ [(1, 10)] ++ [(2, 11)] ++ [(3, 13)] ++ [(6, 19)] ++ [(7, 26)] ++ [(8, 168)] ++ [(10, 172)] : List (Nat × Nat)) := ⟨_, rfl⟩
  rw [← el10] at g10
  have m10 : (10, 172) ∈ l10 := by rw [el10]; decide
  have loop : ∀ (m k : Nat) (s : mjS), k + m = 4 → Sg H s (173 + 12 * k) (mZ H + 3974 + 127 * k) l10 (-nI 1) → mK s 172 = 25 ∧ mN s 172 = 4 → Gq (fun a => a = 172) s9 s → (∀ j, j < k → mR s 172 j = 173 + 12 * j ∧ mK s (173 + 12 * j) = 5 ∧ mR s (173 + 12 * j) 1 = 178 + 12 * j ∧ mR s (173 + 12 * j) 2 = 174 + 12 * j ∧ nSh s (174 + 12 * j) ∧ qSh s (178 + 12 * j)) → ∃ s', ev 95 lv 112 [.ref 4, .ref 14, .int (nI k)] [] s = ev 95 lv 137 [.ref 4, .ref 14, .int (nI 4)] [] s' ∧ Sg H s' 221 (mZ H + 4482) l10 (-nI 1) ∧ (mK s' 172 = 25 ∧ mN s' 172 = 4) ∧ Gq (fun a => a = 172) s9 s' ∧ ∀ j, j < 4 → mR s' 172 j = 173 + 12 * j ∧ mK s' (173 + 12 * j) = 5 ∧ mR s' (173 + 12 * j) 1 = 178 + 12 * j ∧ mR s' (173 + 12 * j) 2 = 174 + 12 * j ∧ nSh s' (174 + 12 * j) ∧ qSh s' (178 + 12 * j) := by
    intro m
    induction m with
    | zero =>
      intro k s hk g kk gq im
      have hk : k = 4 := by omega
      subst hk
      refine ⟨s, ?_, g, kk, gq, im⟩
      rw [e_95_112 E]
      repeat (first | (apply ifT; focus ((try simp (disch := omega) only [ofNat_nI, i_lit, mI_pI, mK_pI, mN_pI, mR_pI, nI_ltI, nI_eq, nI_add, nI_mul, mjIn_nI, nI_clamp, neg1_lt0, if_pos, if_neg, if_true, if_false, Bool.false_eq_true, and_true, true_and, and_false, false_and, mI_pL, mK_pL, mN_pL, mR_pL, mL_pL, mL_pI, mI_pR, mL_pR, mK_pR, mN_pR, mR_pR, mI_pC, mL_pC, mK_pC, mN_pC, mR_pC]) <;> first | omega | decide)) | (apply ifF; focus ((try simp (disch := omega) only [ofNat_nI, i_lit, mI_pI, mK_pI, mN_pI, mR_pI, nI_ltI, nI_eq, nI_add, nI_mul, mjIn_nI, nI_clamp, neg1_lt0, if_pos, if_neg, if_true, if_false, Bool.false_eq_true, and_true, true_and, and_false, false_and, mI_pL, mK_pL, mN_pL, mR_pL, mL_pL, mL_pI, mI_pR, mL_pR, mK_pR, mN_pR, mR_pR, mI_pC, mL_pC, mK_pC, mN_pC, mR_pC]) <;> first | omega | decide)) | (apply stI; focus ((try simp (disch := omega) only [ofNat_nI, i_lit, mI_pI, mK_pI, mN_pI, mR_pI, nI_ltI, nI_eq, nI_add, nI_mul, mjIn_nI, nI_clamp, neg1_lt0, if_pos, if_neg, if_true, if_false, Bool.false_eq_true, and_true, true_and, and_false, false_and, mI_pL, mK_pL, mN_pL, mR_pL, mL_pL, mL_pI, mI_pR, mL_pR, mK_pR, mN_pR, mR_pR, mI_pC, mL_pC, mK_pC, mN_pC, mR_pC]) <;> rfl)) | (apply stV; focus ((try simp (disch := omega) only [ofNat_nI, i_lit, mI_pI, mK_pI, mN_pI, mR_pI, nI_ltI, nI_eq, nI_add, nI_mul, mjIn_nI, nI_clamp, neg1_lt0, if_pos, if_neg, if_true, if_false, Bool.false_eq_true, and_true, true_and, and_false, false_and, mI_pL, mK_pL, mN_pL, mR_pL, mL_pL, mL_pI, mI_pR, mL_pR, mK_pR, mN_pR, mR_pR, mI_pC, mL_pC, mK_pC, mN_pC, mR_pC]) <;> rfl)) | (apply stL; focus ((try simp (disch := omega) only [ofNat_nI, i_lit, mI_pI, mK_pI, mN_pI, mR_pI, nI_ltI, nI_eq, nI_add, nI_mul, mjIn_nI, nI_clamp, neg1_lt0, if_pos, if_neg, if_true, if_false, Bool.false_eq_true, and_true, true_and, and_false, false_and, mI_pL, mK_pL, mN_pL, mR_pL, mL_pL, mL_pI, mI_pR, mL_pR, mK_pR, mN_pR, mR_pR, mI_pC, mL_pC, mK_pC, mN_pC, mR_pC]) <;> rfl)) | (apply stA; focus ((try simp (disch := omega) only [ofNat_nI, i_lit, mI_pI, mK_pI, mN_pI, mR_pI, nI_ltI, nI_eq, nI_add, nI_mul, mjIn_nI, nI_clamp, neg1_lt0, if_pos, if_neg, if_true, if_false, Bool.false_eq_true, and_true, true_and, and_false, false_and, mI_pL, mK_pL, mN_pL, mR_pL, mL_pL, mL_pI, mI_pR, mL_pR, mK_pR, mN_pR, mR_pR, mI_pC, mL_pC, mK_pC, mN_pC, mR_pC]) <;> rfl)))
      try simp (disch := omega) only [ofNat_nI, i_lit, mI_pI, mK_pI, mN_pI, mR_pI, nI_ltI, nI_eq, nI_add, nI_mul, mjIn_nI, nI_clamp, neg1_lt0, if_pos, if_neg, if_true, if_false, Bool.false_eq_true, and_true, true_and, and_false, false_and, mI_pL, mK_pL, mN_pL, mR_pL, mL_pL, mL_pI, mI_pR, mL_pR, mK_pR, mN_pR, mR_pR, mI_pC, mL_pC, mK_pC, mN_pC, mR_pC]
    | succ m ih =>
      intro k s hk g kk gq im
      obtain ⟨h2, e2, ⟨x2, z2⟩, w2, k2, r21, r22, n2, q2⟩ := nw_I (lv := lv) E s (by rw [g.x]; omega) 14
      have gx := g.x
      rw [gx] at e2 k2 r21 r22 n2 q2
      have g2' := g.nw w2 (n' := 173 + 12 * (k + 1)) (z' := mZ H + 3974 + 127 * (k + 1)) (by rw [x2, gx]; omega) (by rw [z2, g.1.2.1]; omega)
      have o172 := w2.2.1 172 (by omega)
      have gp : Gq (fun a => a = 172) h2 (pR h2 172 k (173 + 12 * k)) := Gq.one h2 172 k (173 + 12 * k)
      have gs : Gq (fun a => a = 172) s (pR h2 172 k (173 + 12 * k)) := (w2.gq _).tr gp
      obtain ⟨s', e', r'⟩ := ih (k + 1) (pR h2 172 k (173 + 12 * k)) (by omega) (g2'.ro (c := 172) (by omega) k (173 + 12 * k)) ⟨o172.1.trans kk.1, o172.2.1.trans kk.2⟩ (gq.tr gs) (fun j hj => by
        by_cases z : j = k
        · subst z
          refine ⟨by rw [mR_pR, if_pos ⟨rfl, rfl⟩], k2, by rw [mR_pR, if_neg (by omega), r21]; omega, by rw [mR_pR, if_neg (by omega), r22]; omega, ?_, ?_⟩
          · rw [show 174 + 12 * j = 173 + 12 * j + 1 by omega]
            exact gp.ns (by omega) (by omega) n2
          · rw [show 178 + 12 * j = 173 + 12 * j + 5 by omega]
            exact gp.qs (by omega) (by omega) q2
        · obtain ⟨u1, u2, u3, u4, u5, u6⟩ := im j (by omega)
          have oj := w2.2.1 (173 + 12 * j) (by omega)
          exact ⟨by rw [mR_pR, if_neg (by omega), (o172.2.2 j).2.2]; exact u1, oj.1.trans u2, by rw [mR_pR, if_neg (by omega), (oj.2.2 1).2.2]; exact u3, by rw [mR_pR, if_neg (by omega), (oj.2.2 2).2.2]; exact u4, gs.ns (by omega) (by omega) u5, gs.qs (by omega) (by omega) u6⟩)
      refine ⟨s', ?_, r'⟩
      have kx : mK (pN s 5 0 5) (173 + 12 * k) = 5 := by rw [mK_pN, if_pos (by omega)]
      have k172' : mK h2 172 = 25 := o172.1.trans kk.1
      have n172' : mN h2 172 = 4 := o172.2.1.trans kk.2
      have r10 := g.2.2.1 _ m10
      have r10 : mR s 4 10 = 172 := r10
      have i4 : nI k < 4 := (nI_ltI (show k < 2 ^ 31 by omega) (show 4 < 2 ^ 31 by omega)).mpr (show k < 4 by omega)
      rw [← e', e_95_112 E]
      refine ifT i4 ?_
      rw [e_95_117 E]
      dsimp only [mjLet]
      rw [gx, r10]
      refine ifT g.k (ifT kx (stV e2 (ifT k172' (ifT (by rw [n172']; exact (mjIn_nI (by omega)).mpr (by omega)) (ifT k2 ?_)))))
      rw [nI_clamp (show k < 2 ^ 31 by omega), i_lit, nI_add]
  obtain ⟨h10, e10, g11, k172'', gq10, im10⟩ := loop 4 0 s9 (by omega) g10 k172 ⟨Nat.le_refl _, fun a _ => ⟨rfl, rfl, fun _ k => rfl⟩⟩ (fun j hj => by omega)
  have r46 : (6, 19) ∈ l10 := by rw [el10]; decide
  have k19 : mK h10 19 = 10 ∧ mR h10 19 0 = 14 := by
    have c : Gq (fun a => a = 4 ∨ a = 172) h6 h10 := by
      have u1 : Gq (fun a => a = 4 ∨ a = 172) h6 s6 := by rw [es6]; exact (Gq.one h6 4 6 19).mono (fun x hx => Or.inl hx)
      have u2 : Gq (fun a => a = 4 ∨ a = 172) h7 s7 := by rw [es7]; exact (Gq.one h7 4 7 26).mono (fun x hx => Or.inl hx)
      have u3 : Gq (fun a => a = 4 ∨ a = 172) h8 s8 := by rw [es8]; exact (Gq.one h8 4 8 168).mono (fun x hx => Or.inl hx)
      have u4 : Gq (fun a => a = 4 ∨ a = 172) s8 s9 := by rw [es9]; exact ((Nw.nn s8 25 4 4).gq _).tr ((Gq.one _ 4 10 172).mono (fun x hx => Or.inl hx))
      exact (((((u1.tr (w7.gq _)).tr u2).tr (w8.gq _)).tr u3).tr u4).tr (gq10.mono (fun x hx => Or.inr hx))
    have o := c.2 19 (by rw [g7'.x]; omega)
    exact ⟨o.1.trans qs6.k, (o.2.2 (by omega) 0).trans r6⟩
  -- 221 to 232
  obtain ⟨h11, e11, ⟨x11, z11⟩, w11, k11, r110, r111, a11, q11⟩ := nw_S (lv := lv) E h10 (by rw [g11.x]; omega) (v := 19) (f := 14) (by rw [g11.x]; omega) k19.1 k19.2
  rw [g11.x] at e11 k11 r110 r111 a11 q11
  have g12' := g11.nw w11 (n' := 233) (z' := mZ H + 5258) (by rw [x11, g11.x]) (by rw [z11, g11.1.2.1])
  obtain ⟨s11, es11⟩ : ∃ y, y = pR h11 4 11 221 := ⟨_, rfl⟩
  have g12 := g12'.rr 11 221 (by rw [el10]; decide)
  rw [← es11] at g12
  -- 233 to 242
  obtain ⟨h12, e12, ⟨x12, z12⟩, w12, k12, r120, a12, q12⟩ := nw_Z (lv := lv) E s11 (by rw [g12.x]; omega) 14
  rw [g12.x] at e12 k12 r120 a12 q12
  have g13' := g12.nw w12 (n' := 243) (z' := mZ H + 5393) (by rw [x12, g12.x]) (by rw [z12, g12.1.2.1])
  obtain ⟨s12, es12⟩ : ∃ y, y = pR h12 4 12 233 := ⟨_, rfl⟩
  have g13 := g13'.rr 12 233 (by rw [el10]; decide)
  rw [← es12] at g13
  have RR4 := g13.2.2.1
  rw [el10] at RR4
  -- what stays to the end
  have d12 : Gq (fun a => a = 4) h12 s12 := by rw [es12]; exact Gq.one h12 4 12 233
  have d11 : Gq (fun a => a = 4) h11 s12 := by
    have u : Gq (fun a => a = 4) h11 s11 := by rw [es11]; exact Gq.one h11 4 11 221
    exact (u.tr (w12.gq _)).tr d12
  have d10 : Gq (fun a => a = 4) h10 s12 := (w11.gq _).tr d11
  have m4 : ∀ {a b : mjS}, Gq (fun a => a = 4) a b → Gq (fun a => a = 4 ∨ a = 172) a b := fun g => g.mono (fun x hx => Or.inl hx)
  have d9 : Gq (fun a => a = 4 ∨ a = 172) s9 s12 := (gq10.mono (fun x hx => Or.inr hx)).tr (m4 d10)
  have d8' : Gq (fun a => a = 4 ∨ a = 172) s8 s12 := by
    have u : Gq (fun a => a = 4 ∨ a = 172) s8 s9 := by rw [es9]; exact ((Nw.nn s8 25 4 4).gq _).tr (m4 (Gq.one _ 4 10 172))
    exact u.tr d9
  have d8 : Gq (fun a => a = 4 ∨ a = 172) h8 s12 := by
    have u : Gq (fun a => a = 4 ∨ a = 172) h8 s8 := by rw [es8]; exact m4 (Gq.one h8 4 8 168)
    exact u.tr d8'
  have d7 : Gq (fun a => a = 4 ∨ a = 172) h7 s12 := by
    have u : Gq (fun a => a = 4 ∨ a = 172) h7 s7 := by rw [es7]; exact m4 (Gq.one h7 4 7 26)
    exact (u.tr (w8.gq _)).tr d8
  have d6 : Gq (fun a => a = 4 ∨ a = 172) h6 s12 := by
    have u : Gq (fun a => a = 4 ∨ a = 172) h6 s6 := by rw [es6]; exact m4 (Gq.one h6 4 6 19)
    exact (u.tr (w7.gq _)).tr d7
  have d5 : Gq (fun a => a = 4 ∨ a = 172) h5 s12 := (w6.gq _).tr d6
  have d4 : Gq (fun a => a = 4 ∨ a = 172) s4 s12 := by
    have u : Gq (fun a => a = 4 ∨ a = 172) s4 s5 := by rw [es5]; exact Gq.ii s4 4 5 (-nI 1)
    exact (u.tr (w5.gq _)).tr d5
  have d3 : Gq (fun a => a = 4 ∨ a = 172) h3 s12 := by
    have u : Gq (fun a => a = 4 ∨ a = 172) h3 s3 := by rw [es3]; exact m4 (Gq.one h3 4 2 11)
    have v : Gq (fun a => a = 4 ∨ a = 172) s3 s4 := by rw [es4]; exact ((Nw.nn s3 24 6 6).gq _).tr (m4 (Gq.one _ 4 3 13))
    exact (u.tr v).tr d4
  have d2 : Gq (fun a => a = 4 ∨ a = 172) s2 s12 := (w3.gq _).tr d3
  have d1 : Gq (fun a => a = 4 ∨ a = 172) h1 s12 := by
    have u : Gq (fun a => a = 4 ∨ a = 172) h1 s1 := by rw [es1]; exact m4 (Gq.one h1 4 0 5)
    have v : Gq (fun a => a = 4 ∨ a = 172) s1 s2 := by
      refine ⟨by rw [g1.x, g2.x]; omega, fun a ha => ?_⟩
      rw [g1.x] at ha
      have xs1 := g1.x
      rw [es2]
      refine ⟨by show mK (pN s1 3 0 1) a = _; rw [mK_pN, if_neg (by omega)], by show mN (pN s1 3 0 1) a = _; rw [mN_pN, if_neg (by omega)], fun hx k => by rw [mR_pR, if_neg (by omega), mR_pR, if_neg (by omega), mR_pN, if_neg (by omega)]⟩
    exact (u.tr v).tr d2
  have y1 := g1'.x
  have y2 := g2.x
  have y3 := g3'.x
  have y4 := g4.x
  have y5 := g6.x
  have y6 := g7'.x
  have y7 := g8'.x
  have y8 := g9'.x
  have y9 := g10.x
  have y10 := g11.x
  have y11 := g12'.x
  have y12 := g13'.x
  have KN : ∀ {X : Nat → Prop} {a b : mjS}, Gq X a b → ∀ c, c < mX a → mK b c = mK a c ∧ mN b c = mN a c := fun g c hc => ⟨(g.2 c hc).1, (g.2 c hc).2.1⟩
  obtain ⟨t5, t6, t7, t8, -⟩ := a1
  refine ⟨s12, ?_, ⟨g13.1.1, g13.1.2.1⟩, fun a k h1 h2 h3 => g13.2.2.2.1 a k h1 (by rw [g13.x]; exact h2) h3, g13.2.2.2.2.1, ⟨?_, ⟨fun i hi => ?_, fun k hk => ?_⟩, ?_, ?_, d8.ns (by omega) (by omega) ns8⟩, ⟨d5.fs (by omega) (by omega) fs5, d6.qs (by omega) (by omega) qs6, ((d6.2 19 (by omega)).2.2 (by omega) 0).trans r6⟩, g13.2.2.2.2.2⟩
  · rw [← es0]
    show ev 95 lv 0 [.ref 4, mjD, mjD] [] s0 = _
    rw [e_95_0 E]
    refine ifF (by omega) ?_
    have q5 : mK (pN s0 11 0 8) 5 = 11 := by rw [mK_pN, if_pos (by omega)]
    rw [e_95_4 E]
    dsimp only [mjLet]
    rw [x0]
    refine ifT q5 (stV e1 (ifT g1'.k ?_))
    rw [← es1]
    have q10 : mK (pN s1 3 0 1) 10 = 3 := by rw [mK_pN, if_pos (by rw [g1.x])]
    have e5c : mjCall ev 5 lv [.ref 10, .ref 5] (pN s1 3 0 1) = some (.ref 0, pR (pN s1 3 0 1) 10 0 5) := by
      show ev 5 lv 0 [.ref 10, .ref 5] [] (pN s1 3 0 1) = _
      rw [e_5_0 E]
      exact ifF (by omega) (ifT q10 rfl)
    rw [e_95_15 E]
    dsimp only [mjLet]
    rw [g1.x, g1.rn 3 0 1 (i := 0) (v := 5) (by decide)]
    refine ifT (g1.kn 3 0 1) (ifT q10 (stV e5c (ifT (g1.kn 3 0 1) ?_)))
    rw [← es2]
    have q11 : mK (pN s2 8 0 4) 11 = 8 := by rw [mK_pN, if_pos (by rw [g2.x])]
    rw [e_95_30 E]
    dsimp only [mjLet]
    rw [g2.x, g2.rn 8 0 4 (i := 0) (v := 5) (by decide)]
    refine ifT (g2.kn 8 0 4) (ifT q11 (stV e3 (ifT g3'.k ?_)))
    rw [← es3, e_95_45 E, c6]
    dsimp only [mjLet]
    rw [g3.x]
    refine ifT ⟨by decide, by decide⟩ (ifT (g3.kn 24 6 6) ?_)
    rw [← es4, e_95_54 E]
    dsimp only [mjLet]
    rw [y4]
    have q14 : mK (pN s5 2 0 8) 14 = 2 := by rw [mK_pN, if_pos (by rw [g5.x])]
    rw [es5] at q14 e5
    refine ifT g4.k (ifT q14 (stV e5 ?_))
    have q19 : mK (pN h5 10 0 10) 19 = 10 := by rw [mK_pN, if_pos (by rw [g6.x])]
    rw [e_95_67 E]
    dsimp only [mjLet]
    rw [g6.x]
    refine ifT q19 (stV e6 (ifT g7'.k ?_))
    rw [← es6]
    have q26 : mK (pN s6 1 0 3) 26 = 1 := by rw [mK_pN, if_pos (by rw [g7.x])]
    rw [e_95_79 E]
    dsimp only [mjLet]
    rw [g7.x]
    refine ifT q26 (stV e7 (ifT g8'.k ?_))
    rw [← es7]
    have q168 : mK (pN s7 6 0 4) 168 = 6 := by rw [mK_pN, if_pos (by rw [g8.x])]
    rw [e_95_91 E]
    dsimp only [mjLet]
    rw [g8.x]
    refine ifT q168 (stV e8 (ifT g9'.k ?_))
    rw [← es8, e_95_102 E, c4]
    dsimp only [mjLet]
    rw [g9.x]
    refine ifT ⟨by decide, by decide⟩ (ifT (g9.kn 25 4 4) ?_)
    rw [← es9]
    refine Eq.trans e10 ?_
    have q221 : mK (pN h10 4 0 9) 221 = 4 := by rw [mK_pN, if_pos (by rw [g11.x])]
    rw [e_95_137 E]
    dsimp only [mjLet]
    rw [g11.x, g11.rn 4 0 9 r46]
    refine ifT (g11.kn 4 0 9) (ifT q221 (stV e11 (ifT g12'.k ?_)))
    rw [← es11]
    have q233 : mK (pN s11 9 0 5) 233 = 9 := by rw [mK_pN, if_pos (by rw [g12.x])]
    rw [e_95_152 E]
    dsimp only [mjLet]
    rw [g12.x]
    refine ifT q233 (stV e12 (ifT g13'.k ?_))
    rw [← es12]
  · have u := fun c (hc : c < 10) => KN d1 c (by omega)
    have v := fun c (hc : c < 13) => KN d3 c (by omega)
    have r5 := (d1.2 5 (by omega)).2.2 (by omega)
    have r10 := (d2.2 10 (by omega)).2.2 (by omega)
    have r11 := (d3.2 11 (by omega)).2.2 (by omega)
    have n26 := KN d7 26 (by omega)
    have n27 := KN d7 27 (by omega)
    have r26 := (d7.2 26 (by omega)).2.2 (by omega)
    have n13 := KN d4 13 (by omega)
    have n172 := KN d10 172 (by omega)
    have n10 := KN d2 10 (by omega)
    exact ⟨g13.k, (u 5 (by omega)).1.trans k1, (u 6 (by omega)).1.trans t5.2.1, (u 6 (by omega)).2.trans t5.2.2, (u 7 (by omega)).1.trans t6.2.1, (u 7 (by omega)).2.trans t6.2.2, (u 8 (by omega)).1.trans t7.2.1, (u 8 (by omega)).2.trans t7.2.2, (u 9 (by omega)).1.trans t8.2.1, (u 9 (by omega)).2.trans t8.2.2, n10.1.trans k10.1, (v 11 (by omega)).1.trans l3.1, (v 12 (by omega)).1.trans l3.2.2.2.1, (v 12 (by omega)).2.trans l3.2.2.2.2, n13.1.trans k13.1, n13.2.trans k13.2, n26.1.trans k7.1, n27.1.trans k7.2.2.1, n27.2.trans k7.2.2.2, n172.1.trans k172''.1, n172.2.trans k172''.2, RR4 (0, 5) (by decide), RR4 (1, 10) (by decide), RR4 (2, 11) (by decide), RR4 (3, 13) (by decide), RR4 (6, 19) (by decide), RR4 (7, 26) (by decide), RR4 (8, 168) (by decide), RR4 (10, 172) (by decide), RR4 (11, 221) (by decide), RR4 (12, 233) (by decide), (r5 0).trans t5.1, (r5 2).trans t6.1, (r5 3).trans t7.1, (r5 4).trans t8.1, (r10 0).trans k10.2, (r11 0).trans l3.2.1, (r11 1).trans l3.2.2.1, (r26 0).trans k7.2.1⟩
  · obtain ⟨u1, u2⟩ := q7 i hi
    rw [show 26 + 2 + 7 * i = 28 + 7 * i by omega] at u1 u2
    exact ⟨((d7.2 27 (by omega)).2.2 (by omega) i).trans u1, d7.qs (by omega) (by omega) u2⟩
  · obtain ⟨u1, u2, u3, u4, u5, u6⟩ := im10 k hk
    have o := d10.2 (173 + 12 * k) (by omega)
    exact ⟨((d10.2 172 (by omega)).2.2 (by omega) k).trans u1, o.1.trans u2, (o.2.2 (by omega) 1).trans u3, (o.2.2 (by omega) 2).trans u4, d10.ns (by omega) (by omega) u5, d10.qs (by omega) (by omega) u6⟩
  · obtain ⟨v1, v2, v3, v4, -⟩ := a11
    have o := fun c (hc : c < 233) => KN d11 c (by omega)
    have rr := (d11.2 221 (by omega)).2.2 (by omega)
    exact ⟨⟨(o 221 (by omega)).1.trans k11, (rr 0).trans r110, (rr 1).trans r111, (rr 2).trans v1.1, (rr 3).trans v2.1, (rr 4).trans v3.1, (rr 5).trans v4.1⟩, ⟨(o 222 (by omega)).1.trans v1.2.1, (o 222 (by omega)).2.trans v1.2.2, (o 223 (by omega)).1.trans v2.2.1, (o 223 (by omega)).2.trans v2.2.2, (o 224 (by omega)).1.trans v3.2.1, (o 224 (by omega)).2.trans v3.2.2, (o 225 (by omega)).1.trans v4.2.1, (o 225 (by omega)).2.trans v4.2.2⟩, d11.qs (by omega) (by omega) q11⟩
  · obtain ⟨v1, v2, -⟩ := a12
    have o := fun c (hc : c < 243) => KN d12 c (by omega)
    have rr := (d12.2 233 (by omega)).2.2 (by omega)
    have n13 := KN d4 13 (by omega)
    exact ⟨⟨(o 233 (by omega)).1.trans k12, (rr 0).trans r120, (rr 1).trans v1.1, (rr 2).trans v2.1⟩, ⟨(o 234 (by omega)).1.trans v1.2.1, (o 234 (by omega)).2.trans v1.2.2, (o 235 (by omega)).1.trans v2.2.1, (o 235 (by omega)).2.trans v2.2.2⟩, d12.qs (by omega) (by omega) q12, n13.1.trans k13.1, n13.2.trans k13.2⟩
end NG
