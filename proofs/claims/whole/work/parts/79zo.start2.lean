/-! the reference's object, as it is made -/
def Bm (h0 : mjS) (l : List (Nat × Nat × Nat)) (v : Int32) (h : mjS) : Prop := (mX h = mX h0 + 1 + l.length ∧ mZ h = mZ h0 + 35 + sumL l) ∧ mK h (mX h0) = 13 ∧ ArL h (mX h0) 0 l ∧ (∀ a k, mX h0 ≤ a → a < mX h → ¬ (a = mX h0 ∧ k = 21) → mI h a k = 0) ∧ mI h (mX h0) 21 = v ∧ Old h0 h
theorem Bm.nx {h0 h : mjS} {l : List (Nat × Nat × Nat)} {v : Int32} (b : Bm h0 l v h) (k n f : Nat) (hf : ∀ x, x ∈ l → x.2.2 ≠ f) : ∃ h', h' = pR (pN h k n n) (mX h0) f (mX h) ∧ mK (pN h k n n) (mX h0) = 13 ∧ Bm h0 (l ++ [(k, n, f)]) v h' := by
  have x := b.1.1
  have z := b.1.2
  have kn : mK (pN h k n n) (mX h0) = 13 := by rw [mK_pN, if_neg (by omega)]; exact b.2.1
  refine ⟨_, rfl, kn, ⟨?_, ?_⟩, kn, (b.2.2.1.keep (fun y hy => ?_) (fun a h1 h2 => ⟨?_, ?_⟩)).app ⟨?_, ?_, ?_⟩, fun a j h1 h2 h3 => ?_, ?_, fun a ha => ?_⟩
  · show mX h + 1 = _
    rw [List.length_append, List.length_singleton]; omega
  · show mZ h + n = _
    rw [sumL_app]; show _ = mZ h0 + 35 + (sumL l + n); omega
  · have := hf y hy
    rw [mR_pR, if_neg (fun e => this e.2), mR_pN, if_neg (by omega)]
  · show mK (pN h k n n) a = _
    rw [mK_pN, if_neg (by omega)]
  · show mN (pN h k n n) a = _
    rw [mN_pN, if_neg (by omega)]
  · rw [mR_pR, if_pos ⟨rfl, rfl⟩]; omega
  · show mK (pN h k n n) _ = k
    rw [mK_pN, if_pos (by omega)]
  · show mN (pN h k n n) _ = n
    rw [mN_pN, if_pos (by omega)]
  · have h2 : a < mX h + 1 := h2
    show mI (pN h k n n) a j = 0
    rw [mI_pN]
    by_cases y : a = mX h
    · rw [if_pos y]
    · rw [if_neg y]; exact b.2.2.2.1 a j h1 (by omega) h3
  · show mI (pN h k n n) (mX h0) 21 = v
    rw [mI_pN, if_neg (by omega)]; exact b.2.2.2.2.1
  · obtain ⟨u1, u2, u3⟩ := b.2.2.2.2.2 a ha
    refine ⟨?_, ?_, fun j => ⟨?_, ?_, ?_⟩⟩
    · show mK (pN h k n n) a = _
      rw [mK_pN, if_neg (by omega)]; exact u1
    · show mN (pN h k n n) a = _
      rw [mN_pN, if_neg (by omega)]; exact u2
    · show mI (pN h k n n) a j = _
      rw [mI_pN, if_neg (by omega)]; exact (u3 j).1
    · show mL (pN h k n n) a j = _
      rw [mL_pN, if_neg (by omega)]; exact (u3 j).2.1
    · rw [mR_pR, if_neg (by omega), mR_pN, if_neg (by omega)]; exact (u3 j).2.2
theorem Bm.ii {h0 h : mjS} {l : List (Nat × Nat × Nat)} {v : Int32} (b : Bm h0 l v h) (u : Int32) : Bm h0 l u (pI h (mX h0) 21 u) := by
  refine ⟨b.1, b.2.1, ArL.keep (h := h) (fun _ _ => rfl) (fun _ _ _ => ⟨rfl, rfl⟩) b.2.2.1, fun a k h1 h2 h3 => by rw [mI_pI, if_neg h3]; exact b.2.2.2.1 a k h1 h2 h3, pI_at, fun a ha => ?_⟩
  obtain ⟨u1, u2, u3⟩ := b.2.2.2.2.2 a ha
  exact ⟨u1, u2, fun j => ⟨by rw [pI_ne (by omega)]; exact (u3 j).1, (u3 j).2.1, (u3 j).2.2⟩⟩
theorem ArL.get {h : mjS} {q : Nat} : ∀ {l : List (Nat × Nat × Nat)} {i j : Nat}, ArL h q i l → j < l.length → mR h q (l.getD j (0, 0, 0)).2.2 = q + 1 + (i + j) ∧ mK h (q + 1 + (i + j)) = (l.getD j (0, 0, 0)).1 ∧ mN h (q + 1 + (i + j)) = (l.getD j (0, 0, 0)).2.1 := by
  intro l
  induction l with
  | nil => intro i j _ hj; exact absurd hj (by simp)
  | cons x r ih =>
    intro i j a hj
    cases j with
    | zero => exact a.1
    | succ j =>
      have := ih (i := i + 1) (j := j) a.2 (by rw [List.length_cons] at hj; omega)
      rw [show i + 1 + j = i + (j + 1) by omega] at this
      exact this
section NM
variable {ev : mjT} {lv : Nat}
theorem nw_M (E : mjFix ev) (h : mjS) (x0 : 0 < mX h) : ∃ h', mjCall ev 138 lv [.ref (mX h)] (pN h 13 0 35) = some (.ref 0, h') ∧ Bm h [(21, 400, 0), (20, 2400, 3), (20, 7, 4), (20, 288, 5), (20, 6, 6), (20, 117, 7), (20, 400, 15), (23, 64, 17), (23, 11, 19), (20, 148, 20), (20, 1700, 23), (20, 85, 25), (20, 8, 26), (20, 671, 27), (22, 7, 28), (20, 35, 29), (20, 592, 31), (20, 4, 32), (20, 4, 33), (22, 4, 34)] (-nI 1) h' := by
  have b0 : Bm h [] 0 (pN h 13 0 35) := ⟨⟨rfl, rfl⟩, by rw [mK_pN, if_pos rfl], trivial, fun a k h1 h2 _ => (Nw.nn h 13 0 35).2.2 a k h1 h2, (Nw.nn h 13 0 35).2.2 _ _ (Nat.le_refl _) (by show mX h < mX h + 1; omega), (Nw.nn h 13 0 35).2.1⟩
  obtain ⟨h1, e1, k1, b1⟩ := b0.nx 21 400 0 (by decide)
  obtain ⟨h2, e2, k2, b2⟩ := b1.nx 20 2400 3 (by decide)
  obtain ⟨h3, e3, k3, b3⟩ := b2.nx 20 7 4 (by decide)
  obtain ⟨h4, e4, k4, b4⟩ := b3.nx 20 288 5 (by decide)
  obtain ⟨h5, e5, k5, b5⟩ := b4.nx 20 6 6 (by decide)
  obtain ⟨h6, e6, k6, b6⟩ := b5.nx 20 117 7 (by decide)
  obtain ⟨h7, e7, k7, b7⟩ := b6.nx 20 400 15 (by decide)
  obtain ⟨h8, e8, k8, b8⟩ := b7.nx 23 64 17 (by decide)
  obtain ⟨h9, e9, k9, b9⟩ := b8.nx 23 11 19 (by decide)
  obtain ⟨h10, e10, k10, b10⟩ := b9.nx 20 148 20 (by decide)
  have b10' := b10.ii (-nI 1)
  obtain ⟨hm, em⟩ : ∃ y, y = pI h10 (mX h) 21 (-nI 1) := ⟨_, rfl⟩
  rw [← em] at b10'
  obtain ⟨h11, e11, k11, b11⟩ := b10'.nx 20 1700 23 (by decide)
  obtain ⟨h12, e12, k12, b12⟩ := b11.nx 20 85 25 (by decide)
  obtain ⟨h13, e13, k13, b13⟩ := b12.nx 20 8 26 (by decide)
  obtain ⟨h14, e14, k14, b14⟩ := b13.nx 20 671 27 (by decide)
  obtain ⟨h15, e15, k15, b15⟩ := b14.nx 22 7 28 (by decide)
  obtain ⟨h16, e16, k16, b16⟩ := b15.nx 20 35 29 (by decide)
  obtain ⟨h17, e17, k17, b17⟩ := b16.nx 20 592 31 (by decide)
  obtain ⟨h18, e18, k18, b18⟩ := b17.nx 20 4 32 (by decide)
  obtain ⟨h19, e19, k19, b19⟩ := b18.nx 20 4 33 (by decide)
  obtain ⟨h20, e20, k20, b20⟩ := b19.nx 22 4 34 (by decide)
  have c4 : Int32.toNatClampNeg 4 = 4 := by decide
  have c6 : Int32.toNatClampNeg 6 = 6 := by decide
  have c7 : Int32.toNatClampNeg 7 = 7 := by decide
  have c8 : Int32.toNatClampNeg 8 = 8 := by decide
  have c11 : Int32.toNatClampNeg 11 = 11 := by decide
  have c35 : Int32.toNatClampNeg 35 = 35 := by decide
  have c64 : Int32.toNatClampNeg 64 = 64 := by decide
  have c85 : Int32.toNatClampNeg 85 = 85 := by decide
  have c117 : Int32.toNatClampNeg 117 = 117 := by decide
  have c148 : Int32.toNatClampNeg 148 = 148 := by decide
  have c288 : Int32.toNatClampNeg 288 = 288 := by decide
  have c400 : Int32.toNatClampNeg 400 = 400 := by decide
  have c592 : Int32.toNatClampNeg 592 = 592 := by decide
  have c671 : Int32.toNatClampNeg 671 = 671 := by decide
  have c1700 : Int32.toNatClampNeg 1700 = 1700 := by decide
  have c2400 : Int32.toNatClampNeg 2400 = 2400 := by decide
  refine ⟨h20, ?_, b20⟩
  show ev 138 lv 0 [.ref (mX h)] [] (pN h 13 0 35) = _
  rw [e_138_0 E]
  refine ifF (by omega) ?_
  rw [e_138_4 E, c400]
  dsimp only [mjLet]
  rw [← e1]
  refine ifT ⟨by decide, by decide⟩ (ifT k1 ?_)
  rw [e_138_13 E, c2400]
  dsimp only [mjLet]
  rw [← e2]
  refine ifT ⟨by decide, by decide⟩ (ifT k2 ?_)
  rw [e_138_22 E, c7]
  dsimp only [mjLet]
  rw [← e3]
  refine ifT ⟨by decide, by decide⟩ (ifT k3 ?_)
  rw [e_138_30 E, c288]
  dsimp only [mjLet]
  rw [← e4]
  refine ifT ⟨by decide, by decide⟩ (ifT k4 ?_)
  rw [e_138_39 E, c6]
  dsimp only [mjLet]
  rw [← e5]
  refine ifT ⟨by decide, by decide⟩ (ifT k5 ?_)
  rw [e_138_47 E, c117]
  dsimp only [mjLet]
  rw [← e6]
  refine ifT ⟨by decide, by decide⟩ (ifT k6 ?_)
  rw [e_138_55 E, c400]
  dsimp only [mjLet]
  rw [← e7]
  refine ifT ⟨by decide, by decide⟩ (ifT k7 ?_)
  rw [e_138_64 E, c64]
  dsimp only [mjLet]
  rw [← e8]
  refine ifT ⟨by decide, by decide⟩ (ifT k8 ?_)
  rw [e_138_72 E, c11]
  dsimp only [mjLet]
  rw [← e9]
  refine ifT ⟨by decide, by decide⟩ (ifT k9 ?_)
  rw [e_138_80 E, c148]
  dsimp only [mjLet]
  rw [← e10]
  refine ifT ⟨by decide, by decide⟩ (ifT k10 ?_)
  rw [e_138_89 E]
  refine ifT b10.2.1 ?_
  show ev 138 lv 94 [.ref (mX h)] [] (pI h10 (mX h) 21 (-nI 1)) = _
  rw [← em]
  rw [e_138_94 E, c1700]
  dsimp only [mjLet]
  rw [← e11]
  refine ifT ⟨by decide, by decide⟩ (ifT k11 ?_)
  rw [e_138_103 E, c85]
  dsimp only [mjLet]
  rw [← e12]
  refine ifT ⟨by decide, by decide⟩ (ifT k12 ?_)
  rw [e_138_111 E, c8]
  dsimp only [mjLet]
  rw [← e13]
  refine ifT ⟨by decide, by decide⟩ (ifT k13 ?_)
  rw [e_138_119 E, c671]
  dsimp only [mjLet]
  rw [← e14]
  refine ifT ⟨by decide, by decide⟩ (ifT k14 ?_)
  rw [e_138_128 E, c7]
  dsimp only [mjLet]
  rw [← e15]
  refine ifT ⟨by decide, by decide⟩ (ifT k15 ?_)
  rw [e_138_136 E, c35]
  dsimp only [mjLet]
  rw [← e16]
  refine ifT ⟨by decide, by decide⟩ (ifT k16 ?_)
  rw [e_138_144 E, c592]
  dsimp only [mjLet]
  rw [← e17]
  refine ifT ⟨by decide, by decide⟩ (ifT k17 ?_)
  rw [e_138_153 E, c4]
  dsimp only [mjLet]
  rw [← e18]
  refine ifT ⟨by decide, by decide⟩ (ifT k18 ?_)
  rw [e_138_160 E, c4]
  dsimp only [mjLet]
  rw [← e19]
  refine ifT ⟨by decide, by decide⟩ (ifT k19 ?_)
  rw [e_138_167 E, c4]
  dsimp only [mjLet]
  rw [← e20]
  exact ifT ⟨by decide, by decide⟩ (ifT k20 rfl)
theorem Bm.sh {h0 h : mjS} {v : Int32} (x : mX h0 = 243) (b : Bm h0 [(21, 400, 0), (20, 2400, 3), (20, 7, 4), (20, 288, 5), (20, 6, 6), (20, 117, 7), (20, 400, 15), (23, 64, 17), (23, 11, 19), (20, 148, 20), (20, 1700, 23), (20, 85, 25), (20, 8, 26), (20, 671, 27), (22, 7, 28), (20, 35, 29), (20, 592, 31), (20, 4, 32), (20, 4, 33), (22, 4, 34)] v h) : rSh h := by
  have k := b.2.1
  rw [x] at k
  refine ⟨k, fun i hi => ?_⟩
  have g := b.2.2.1.get (j := i) hi
  rw [x, show 243 + 1 + (0 + i) = 244 + i by omega] at g
  have all : ∀ i, i < 20 → ([(21, 400, 0), (20, 2400, 3), (20, 7, 4), (20, 288, 5), (20, 6, 6), (20, 117, 7), (20, 400, 15), (23, 64, 17), (23, 11, 19), (20, 148, 20), (20, 1700, 23), (20, 85, 25), (20, 8, 26), (20, 671, 27), (22, 7, 28), (20, 35, 29), (20, 592, 31), (20, 4, 32), (20, 4, 33), (22, 4, 34)] : List (Nat × Nat × Nat)).getD i (0, 0, 0) = ((rF.getD i (0, 0, 0)).2.1, (rF.getD i (0, 0, 0)).2.2, (rF.getD i (0, 0, 0)).1) := by decide
  rw [all i hi] at g
  exact g
end NM
