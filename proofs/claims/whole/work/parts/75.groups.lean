/-! the class's object in groups; acts kept and taken back -/
def c1 (h : mjS) : Prop := tSh h ∧ uSh h ∧ sSh h ∧ zSh h ∧ nSh h 168 ∧ 264 ≤ mX h
def c2 (h : mjS) (g : Nat → Nat) (f : Nat) : Prop := CS h 19 f g ∧ okF h f ∧ NT h 168 g
def c3 (h : mjS) (tb : Nat → Int32) (tl : Nat) : Prop := mI h 5 1 = nI tl ∧ ∀ i, i < tl → mI h 6 i = tb i
def c4 (h : mjS) (rs : Nat → rul) (nr : Nat) : Prop := mI h 4 4 = nI nr ∧ ∀ i, i < nr → (264 ≤ mR h 13 i ∧ mR h 13 i + 3 ≤ mX h) ∧ RU h (mR h 13 i) (rs i)
def c5 (h : mjS) (o : Option Nat) (x : Nat) : Prop := mI h 4 5 = fI o ∧ mI h 4 9 = nI x
def c6 (h : mjS) (f : Nat) (A : Nat → Nat → Nat) (ac nx : Nat) : Prop := mI h 26 1 = nI ac ∧ mI h 26 2 = nI nx ∧ nx < 20 ∧ ∀ i, i < ac → CS h (28 + 7 * ((nx + 20 - ac + i) % 20)) f (A i)
def c7 (h : mjS) (fi : Nat → Nat) (im : Nat → Bool) (ik : Nat → Option Nat × Nat) (ig : Nat → Nat → Nat) : Prop := ∀ k, k < 4 → mI h (173 + 12 * k) 0 = bI (im k) ∧ (im k = true → CS h (178 + 12 * k) (fi k) (ig k) ∧ okF h (fi k) ∧ NT h (174 + 12 * k) (ig k) ∧ mI h (173 + 12 * k) 3 = fI (ik k).1 ∧ mI h (173 + 12 * k) 4 = nI (ik k).2)
theorem CI.parts {h : mjS} {s : gst} (c : CI h s) : ∃ f nx fi, c1 h ∧ c2 h s.g f ∧ c3 h s.tb s.tl ∧ c4 h s.rs s.nr ∧ c5 h s.fo s.x ∧ c6 h f s.A s.ac nx ∧ c7 h fi s.im s.ik s.ig := c
theorem CI.of {h : mjS} {s : gst} {f nx : Nat} {fi : Nat → Nat} (a : c1 h) (b : c2 h s.g f) (c : c3 h s.tb s.tl) (d : c4 h s.rs s.nr) (e : c5 h s.fo s.x) (i : c6 h f s.A s.ac nx) (j : c7 h fi s.im s.ik s.ig) : CI h s := ⟨f, nx, fi, a, b, c, d, e, i, j⟩
section GR
variable {F : Nat → Nat → Prop} {h h' : mjS}
/-- places that no call of these changes: a field's, but for 19 to 25 and the acts' and images' own -/
theorem okF.ft {f : Nat} (a : Ft F h h') (o : okF h f) : okF h' f := by unfold okF; rw [a.X]; exact o
theorem c1.ft (a : Ft F h h') (hF : ∀ x, (4 ≤ x ∧ x < 14) ∨ x = 26 ∨ x = 27 ∨ x = 172 ∨ x = 221 ∨ x = 233 → ¬ F x 0) (c : c1 h) (h6 : ∀ k, k < 6 → ¬ F 221 k) : c1 h' :=
  ⟨c.1.ft a (fun x k hx z => by have := z.2; subst this; exact hF x (by omega) z.1), c.2.1.ft a ⟨hF _ (by omega), hF _ (by omega)⟩, c.2.2.1.ft a h6, c.2.2.2.1.ft a (hF _ (by omega)), c.2.2.2.2.1.ft a, by rw [a.X]; exact c.2.2.2.2.2⟩
theorem c2.ft {g : Nat → Nat} {f : Nat} (a : Ft F h h') (h1 : ∀ x k, (19 ≤ x ∧ x < 26) ∨ (168 ≤ x ∧ x < 172) → ¬ F x k) (h2 : ∀ x k, f ≤ x ∧ x < f + 5 → ¬ F x k) (c : c2 h g f) : c2 h' g f :=
  ⟨c.1.ft a (fun x k hx => by rcases hx with hx | hx; exact h1 x k (by omega); exact h2 x k hx), c.2.1.ft a, c.2.2.ft a (fun x k p q => h1 x k (by omega))⟩
theorem c3.ft {tb : Nat → Int32} {tl : Nat} (a : Ft F h h') (h1 : ¬ F 5 1 ∧ ∀ k, ¬ F 6 k) (c : c3 h tb tl) : c3 h' tb tl := ⟨by rw [a.I h1.1]; exact c.1, fun i hi => by rw [a.I (h1.2 i)]; exact c.2 i hi⟩
theorem c4.ft {rs : Nat → rul} {nr : Nat} (a : Ft F h h') (h1 : ¬ F 4 4 ∧ ¬ F 13 0) (h2 : ∀ x k, 264 ≤ x → mK h x ≠ 23 → ¬ F x k) (c : c4 h rs nr) : c4 h' rs nr := by
  refine ⟨by rw [a.I h1.1]; exact c.1, fun i hi => ?_⟩
  have r13 : mR h' 13 i = mR h 13 i := a.R (fun z => by have := z.2; subst this; exact h1.2 z.1)
  rw [r13]
  obtain ⟨y1, y2⟩ := c.2 i hi
  have k1 := y2.2.1.1
  have k0 := y2.1.2.1
  exact ⟨by rw [a.X]; exact y1, y2.ft a (fun k => h2 _ _ (by omega) (by omega)) (fun k => h2 _ _ (by omega) (by omega))⟩
theorem c5.ft {o : Option Nat} {x : Nat} (a : Ft F h h') (h1 : ¬ F 4 5 ∧ ¬ F 4 9) (c : c5 h o x) : c5 h' o x := ⟨by rw [a.I h1.1]; exact c.1, by rw [a.I h1.2]; exact c.2⟩
theorem c6.ft {f : Nat} {A : Nat → Nat → Nat} {ac nx : Nat} (a : Ft F h h') (h1 : ¬ F 26 1 ∧ ¬ F 26 2) (h2 : ∀ x k, (28 ≤ x ∧ x < 168) ∨ (f ≤ x ∧ x < f + 5) → ¬ F x k) (c : c6 h f A ac nx) : c6 h' f A ac nx :=
  ⟨by rw [a.I h1.1]; exact c.1, by rw [a.I h1.2]; exact c.2.1, c.2.2.1, fun i hi => (c.2.2.2 i hi).ft a (fun x k hx => h2 x k (by omega))⟩
theorem c7.ft {fi : Nat → Nat} {im : Nat → Bool} {ik : Nat → Option Nat × Nat} {ig : Nat → Nat → Nat} (a : Ft F h h') (h1 : ∀ x k, 173 ≤ x ∧ x < 221 → ¬ F x k) (h2 : ∀ j, j < 4 → im j = true → ∀ x k, fi j ≤ x ∧ x < fi j + 5 → ¬ F x k) (c : c7 h fi im ik ig) : c7 h' fi im ik ig := by
  intro k hk
  refine ⟨by rw [a.I (h1 _ _ (by omega))]; exact (c k hk).1, fun hm => ?_⟩
  obtain ⟨m1, m2, m3, m4, m5⟩ := (c k hk).2 hm
  exact ⟨m1.ft a (fun x j hx => by rcases hx with hx | hx; exact h1 x j (by omega); exact h2 k hk hm x j hx), m2.ft a, m3.ft a (fun x j p q => h1 x j (by omega)), by rw [a.I (h1 _ _ (by omega))]; exact m4, by rw [a.I (h1 _ _ (by omega))]; exact m5⟩
theorem c7.ok {fi : Nat → Nat} {im : Nat → Bool} {ik : Nat → Option Nat × Nat} {ig : Nat → Nat → Nat} (c : c7 h fi im ik ig) {j : Nat} (hj : j < 4) (hm : im j = true) : okF h (fi j) ∧ fSh h (fi j) := ⟨((c j hj).2 hm).2.1, ((c j hj).2 hm).1.1.2.1⟩
end GR
/-! other states -/
def sTape (s : gst) (tb : Nat → Int32) (tl : Nat) : gst := ((tb, tl), s.2)
def sForce (s : gst) (o : Option Nat) : gst := (s.1, s.2.1, (o, s.2.2.1.2), s.2.2.2)
def sX (s : gst) (x : Nat) : gst := (s.1, s.2.1, (s.2.2.1.1, x), s.2.2.2)
def sG (s : gst) (g : Nat → Nat) : gst := (s.1, s.2.1, s.2.2.1, g, s.2.2.2.2)
def sActs (s : gst) (A : Nat → Nat → Nat) (ac : Nat) : gst := (s.1, s.2.1, s.2.2.1, s.2.2.2.1, (A, ac), s.2.2.2.2.2)
def aA (A : Nat → Nat → Nat) (ac : Nat) (g : Nat → Nat) : Nat → Nat → Nat := if ac < 20 then fun i => if i = ac then g else A i else fun i => if i < 19 then A (i + 1) else g
def aC (ac : Nat) : Nat := if ac < 20 then ac + 1 else 20
/-- an act is kept -/
def sAct (s : gst) : gst := sActs s (aA s.A s.ac s.g) (aC s.ac)
section AC
variable {ev : mjT} {lv : Nat} {h : mjS} {s : gst} {B : Nat}
/-- the acts' cells -/
abbrev FH (a k : Nat) : Prop := (28 ≤ a ∧ a < 168) ∨ (a = 26 ∧ (k = 1 ∨ k = 2))
theorem ci_keep (E : mjFix ev) (c : CI h s) (w : WS B s) : ∃ h', mjCall ev 1 lv [.ref 26, .ref 19] h = some (.ref 0, h') ∧ Ft FH h h' ∧ CI h' (sAct s) := by
  obtain ⟨f, nx, fi, C1, C2, C3, C4, C5, C6, C7⟩ := c.parts
  obtain ⟨a1, a2, a3, a4⟩ := C6
  have t := C1.1
  have u := C1.2.1.1 nx a3
  have ac20 := w.2.2.2.2.1.1
  have ok := C2.2.1.1
  obtain ⟨h1, e1, f1, t1⟩ := cs_becomes (lv := lv) E u.2 C2.1 (by omega) (by omega)
  have f1' : Ft FH h h1 := f1.mono (fun x k hx => by unfold FQ at hx; unfold FH; omega)
  have d1 : nI (nx + 1) / nI 20 = nI ((nx + 1) / 20) := pk_div (by omega) (by omega) (by omega)
  have d2 : nI (nx + 1) - nI ((nx + 1) / 20 * 20) = nI ((nx + 1) % 20) := by rw [← nI_mul, ← d1]; exact pk_rem (by omega) (by omega) (by omega)
  have f2 : Ft FH h1 (pI (pI h1 26 2 (nI ((nx + 1) % 20))) 26 1 (nI (aC s.ac))) := (Ft.pI (by unfold FH; omega)).tr (Ft.pI (by unfold FH; omega))
  have F := f1'.tr f2
  have b1 : mI h1 26 1 = nI s.ac := by rw [f1.I (by unfold FQ; omega)]; exact a1
  have b2 : mI h1 26 2 = nI nx := by rw [f1.I (by unfold FQ; omega)]; exact a2
  refine ⟨_, ?_, F, ?_⟩
  · show ev 1 lv 0 [.ref 26, .ref 19] [] h = _
    have k1 : mK h1 26 = 1 := by rw [f1.K]; exact t.k26
    have q19 := C2.1.1.1.k
    rw [e_1_0 E]
    unfold aC
    by_cases y : s.ac < 20
    · rw [if_pos y]
      repeat (first | (apply ifT; focus ((try simp (disch := omega) only [t.k26, t.r26_0, t.k27, t.n27, a2, u.1, u.2.k, q19, e1, k1, b1, b2, d1, d2, ofNat_nI, i_lit, mI_pI, mK_pI, mN_pI, mR_pI, nI_ltI, nI_eq, nI_add, nI_mul, mjIn_nI, nI_clamp, neg1_lt0, if_pos, if_neg, if_true, if_false, Bool.false_eq_true, and_true, true_and, and_false, false_and, mI_pL, mK_pL, mN_pL, mR_pL, mL_pL, mL_pI, mI_pR, mL_pR, mK_pR, mN_pR, mR_pR, mI_pC, mL_pC, mK_pC, mN_pC, mR_pC]) <;> first | omega | decide)) | (apply ifF; focus ((try simp (disch := omega) only [t.k26, t.r26_0, t.k27, t.n27, a2, u.1, u.2.k, q19, e1, k1, b1, b2, d1, d2, ofNat_nI, i_lit, mI_pI, mK_pI, mN_pI, mR_pI, nI_ltI, nI_eq, nI_add, nI_mul, mjIn_nI, nI_clamp, neg1_lt0, if_pos, if_neg, if_true, if_false, Bool.false_eq_true, and_true, true_and, and_false, false_and, mI_pL, mK_pL, mN_pL, mR_pL, mL_pL, mL_pI, mI_pR, mL_pR, mK_pR, mN_pR, mR_pR, mI_pC, mL_pC, mK_pC, mN_pC, mR_pC]) <;> first | omega | decide)) | (apply stI; focus ((try simp (disch := omega) only [t.k26, t.r26_0, t.k27, t.n27, a2, u.1, u.2.k, q19, e1, k1, b1, b2, d1, d2, ofNat_nI, i_lit, mI_pI, mK_pI, mN_pI, mR_pI, nI_ltI, nI_eq, nI_add, nI_mul, mjIn_nI, nI_clamp, neg1_lt0, if_pos, if_neg, if_true, if_false, Bool.false_eq_true, and_true, true_and, and_false, false_and, mI_pL, mK_pL, mN_pL, mR_pL, mL_pL, mL_pI, mI_pR, mL_pR, mK_pR, mN_pR, mR_pR, mI_pC, mL_pC, mK_pC, mN_pC, mR_pC]) <;> rfl)) | (apply stV; focus ((try simp (disch := omega) only [t.k26, t.r26_0, t.k27, t.n27, a2, u.1, u.2.k, q19, e1, k1, b1, b2, d1, d2, ofNat_nI, i_lit, mI_pI, mK_pI, mN_pI, mR_pI, nI_ltI, nI_eq, nI_add, nI_mul, mjIn_nI, nI_clamp, neg1_lt0, if_pos, if_neg, if_true, if_false, Bool.false_eq_true, and_true, true_and, and_false, false_and, mI_pL, mK_pL, mN_pL, mR_pL, mL_pL, mL_pI, mI_pR, mL_pR, mK_pR, mN_pR, mR_pR, mI_pC, mL_pC, mK_pC, mN_pC, mR_pC]) <;> rfl)) | (apply stL; focus ((try simp (disch := omega) only [t.k26, t.r26_0, t.k27, t.n27, a2, u.1, u.2.k, q19, e1, k1, b1, b2, d1, d2, ofNat_nI, i_lit, mI_pI, mK_pI, mN_pI, mR_pI, nI_ltI, nI_eq, nI_add, nI_mul, mjIn_nI, nI_clamp, neg1_lt0, if_pos, if_neg, if_true, if_false, Bool.false_eq_true, and_true, true_and, and_false, false_and, mI_pL, mK_pL, mN_pL, mR_pL, mL_pL, mL_pI, mI_pR, mL_pR, mK_pR, mN_pR, mR_pR, mI_pC, mL_pC, mK_pC, mN_pC, mR_pC]) <;> rfl)) | (apply stA; focus ((try simp (disch := omega) only [t.k26, t.r26_0, t.k27, t.n27, a2, u.1, u.2.k, q19, e1, k1, b1, b2, d1, d2, ofNat_nI, i_lit, mI_pI, mK_pI, mN_pI, mR_pI, nI_ltI, nI_eq, nI_add, nI_mul, mjIn_nI, nI_clamp, neg1_lt0, if_pos, if_neg, if_true, if_false, Bool.false_eq_true, and_true, true_and, and_false, false_and, mI_pL, mK_pL, mN_pL, mR_pL, mL_pL, mL_pI, mI_pR, mL_pR, mK_pR, mN_pR, mR_pR, mI_pC, mL_pC, mK_pC, mN_pC, mR_pC]) <;> rfl)))
      try simp (disch := omega) only [t.k26, t.r26_0, t.k27, t.n27, a2, u.1, u.2.k, q19, e1, k1, b1, b2, d1, d2, ofNat_nI, i_lit, mI_pI, mK_pI, mN_pI, mR_pI, nI_ltI, nI_eq, nI_add, nI_mul, mjIn_nI, nI_clamp, neg1_lt0, if_pos, if_neg, if_true, if_false, Bool.false_eq_true, and_true, true_and, and_false, false_and, mI_pL, mK_pL, mN_pL, mR_pL, mL_pL, mL_pI, mI_pR, mL_pR, mK_pR, mN_pR, mR_pR, mI_pC, mL_pC, mK_pC, mN_pC, mR_pC]
    · rw [if_neg y]
      repeat (first | (apply ifT; focus ((try simp (disch := omega) only [t.k26, t.r26_0, t.k27, t.n27, a2, u.1, u.2.k, q19, e1, k1, b1, b2, d1, d2, ofNat_nI, i_lit, mI_pI, mK_pI, mN_pI, mR_pI, nI_ltI, nI_eq, nI_add, nI_mul, mjIn_nI, nI_clamp, neg1_lt0, if_pos, if_neg, if_true, if_false, Bool.false_eq_true, and_true, true_and, and_false, false_and, mI_pL, mK_pL, mN_pL, mR_pL, mL_pL, mL_pI, mI_pR, mL_pR, mK_pR, mN_pR, mR_pR, mI_pC, mL_pC, mK_pC, mN_pC, mR_pC]) <;> first | omega | decide)) | (apply ifF; focus ((try simp (disch := omega) only [t.k26, t.r26_0, t.k27, t.n27, a2, u.1, u.2.k, q19, e1, k1, b1, b2, d1, d2, ofNat_nI, i_lit, mI_pI, mK_pI, mN_pI, mR_pI, nI_ltI, nI_eq, nI_add, nI_mul, mjIn_nI, nI_clamp, neg1_lt0, if_pos, if_neg, if_true, if_false, Bool.false_eq_true, and_true, true_and, and_false, false_and, mI_pL, mK_pL, mN_pL, mR_pL, mL_pL, mL_pI, mI_pR, mL_pR, mK_pR, mN_pR, mR_pR, mI_pC, mL_pC, mK_pC, mN_pC, mR_pC]) <;> first | omega | decide)) | (apply stI; focus ((try simp (disch := omega) only [t.k26, t.r26_0, t.k27, t.n27, a2, u.1, u.2.k, q19, e1, k1, b1, b2, d1, d2, ofNat_nI, i_lit, mI_pI, mK_pI, mN_pI, mR_pI, nI_ltI, nI_eq, nI_add, nI_mul, mjIn_nI, nI_clamp, neg1_lt0, if_pos, if_neg, if_true, if_false, Bool.false_eq_true, and_true, true_and, and_false, false_and, mI_pL, mK_pL, mN_pL, mR_pL, mL_pL, mL_pI, mI_pR, mL_pR, mK_pR, mN_pR, mR_pR, mI_pC, mL_pC, mK_pC, mN_pC, mR_pC]) <;> rfl)) | (apply stV; focus ((try simp (disch := omega) only [t.k26, t.r26_0, t.k27, t.n27, a2, u.1, u.2.k, q19, e1, k1, b1, b2, d1, d2, ofNat_nI, i_lit, mI_pI, mK_pI, mN_pI, mR_pI, nI_ltI, nI_eq, nI_add, nI_mul, mjIn_nI, nI_clamp, neg1_lt0, if_pos, if_neg, if_true, if_false, Bool.false_eq_true, and_true, true_and, and_false, false_and, mI_pL, mK_pL, mN_pL, mR_pL, mL_pL, mL_pI, mI_pR, mL_pR, mK_pR, mN_pR, mR_pR, mI_pC, mL_pC, mK_pC, mN_pC, mR_pC]) <;> rfl)) | (apply stL; focus ((try simp (disch := omega) only [t.k26, t.r26_0, t.k27, t.n27, a2, u.1, u.2.k, q19, e1, k1, b1, b2, d1, d2, ofNat_nI, i_lit, mI_pI, mK_pI, mN_pI, mR_pI, nI_ltI, nI_eq, nI_add, nI_mul, mjIn_nI, nI_clamp, neg1_lt0, if_pos, if_neg, if_true, if_false, Bool.false_eq_true, and_true, true_and, and_false, false_and, mI_pL, mK_pL, mN_pL, mR_pL, mL_pL, mL_pI, mI_pR, mL_pR, mK_pR, mN_pR, mR_pR, mI_pC, mL_pC, mK_pC, mN_pC, mR_pC]) <;> rfl)) | (apply stA; focus ((try simp (disch := omega) only [t.k26, t.r26_0, t.k27, t.n27, a2, u.1, u.2.k, q19, e1, k1, b1, b2, d1, d2, ofNat_nI, i_lit, mI_pI, mK_pI, mN_pI, mR_pI, nI_ltI, nI_eq, nI_add, nI_mul, mjIn_nI, nI_clamp, neg1_lt0, if_pos, if_neg, if_true, if_false, Bool.false_eq_true, and_true, true_and, and_false, false_and, mI_pL, mK_pL, mN_pL, mR_pL, mL_pL, mL_pI, mI_pR, mL_pR, mK_pR, mN_pR, mR_pR, mI_pC, mL_pC, mK_pC, mN_pC, mR_pC]) <;> rfl)))
      try simp (disch := omega) only [t.k26, t.r26_0, t.k27, t.n27, a2, u.1, u.2.k, q19, e1, k1, b1, b2, d1, d2, ofNat_nI, i_lit, mI_pI, mK_pI, mN_pI, mR_pI, nI_ltI, nI_eq, nI_add, nI_mul, mjIn_nI, nI_clamp, neg1_lt0, if_pos, if_neg, if_true, if_false, Bool.false_eq_true, and_true, true_and, and_false, false_and, mI_pL, mK_pL, mN_pL, mR_pL, mL_pL, mL_pI, mI_pR, mL_pR, mK_pR, mN_pR, mR_pR, mI_pC, mL_pC, mK_pC, mN_pC, mR_pC]
  · have g1 := C1.ft F (fun x hx => by unfold FH; omega) (fun k hk => by unfold FH; omega)
    have g2 := C2.ft F (fun x k hx => by unfold FH; omega) (fun x k hx => by unfold FH; omega)
    have g3 := C3.ft F ⟨by unfold FH; omega, fun k => by unfold FH; omega⟩
    have g4 := C4.ft F (by unfold FH; omega) (fun x k hx _ => by unfold FH; omega)
    have g5 := C5.ft F (by unfold FH; omega)
    have g7 := C7.ft F (fun x k hx => by unfold FH; omega) (fun j hj hm x k hx => by have := (C7.ok hj hm).1.1; unfold FH; omega)
    have t1' : CS (pI (pI h1 26 2 (nI ((nx + 1) % 20))) 26 1 (nI (aC s.ac))) (28 + 7 * nx) f s.g := t1.ft (F := fun a _ => a = 26) ((Ft.pI (F := fun a _ => a = 26) rfl).tr (Ft.pI (F := fun a _ => a = 26) rfl)) (fun x k hx => by omega)
    have old : ∀ j, j < 20 → j ≠ nx → ∀ g', CS h (28 + 7 * j) f g' → CS (pI (pI h1 26 2 (nI ((nx + 1) % 20))) 26 1 (nI (aC s.ac))) (28 + 7 * j) f g' := by
      intro j hj hne g' cs
      exact (cs.ft f1 (fun x k hx => by unfold FQ; omega)).ft (F := fun a _ => a = 26) ((Ft.pI (F := fun a _ => a = 26) rfl).tr (Ft.pI (F := fun a _ => a = 26) rfl)) (fun x k hx => by omega)
    refine CI.of (s := sAct s) (nx := (nx + 1) % 20) g1 g2 g3 g4 g5 ⟨pI_at, by rw [pI_nk (by omega), pI_at], by omega, fun i hi => ?_⟩ g7
    have hi : i < aC s.ac := hi
    show CS _ (28 + 7 * (((nx + 1) % 20 + 20 - aC s.ac + i) % 20)) f (aA s.A s.ac s.g i)
    unfold aA
    unfold aC at hi
    by_cases y : s.ac < 20
    · have ea : aC s.ac = s.ac + 1 := by unfold aC; rw [if_pos y]
      rw [if_pos y] at hi ⊢
      show CS _ (28 + 7 * (((nx + 1) % 20 + 20 - aC s.ac + i) % 20)) f (if i = s.ac then s.g else s.A i)
      rw [ea]
      by_cases z : i = s.ac
      · rw [if_pos z, show ((nx + 1) % 20 + 20 - (s.ac + 1) + i) % 20 = nx by omega, ← ea]
        exact t1'
      · rw [if_neg z, ← ea]
        have ei : ((nx + 1) % 20 + 20 - aC s.ac + i) % 20 = (nx + 20 - s.ac + i) % 20 := by rw [ea]; omega
        rw [ei]
        exact old _ (by omega) (by omega) _ (a4 i (by omega))
    · have ea : aC s.ac = 20 := by unfold aC; rw [if_neg y]
      rw [if_neg y] at hi ⊢
      show CS _ (28 + 7 * (((nx + 1) % 20 + 20 - aC s.ac + i) % 20)) f (if i < 19 then s.A (i + 1) else s.g)
      by_cases z : i < 19
      · rw [if_pos z]
        have ei : ((nx + 1) % 20 + 20 - aC s.ac + i) % 20 = (nx + 20 - s.ac + (i + 1)) % 20 := by rw [ea]; omega
        rw [ei]
        exact old _ (by omega) (by omega) _ (a4 (i + 1) (by omega))
      · rw [if_neg z]
        have ei : ((nx + 1) % 20 + 20 - aC s.ac + i) % 20 = nx := by rw [ea]; omega
        rw [ei]
        exact t1'
end AC
