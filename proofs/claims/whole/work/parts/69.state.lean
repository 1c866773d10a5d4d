/-! the state of both: the object of the class and its cells -/
def tSh (h : mjS) : Prop := mK h 4 = 12 ∧ mK h 5 = 11 ∧ mK h 6 = 21 ∧ mN h 6 = 400 ∧ mK h 7 = 20 ∧ mN h 7 = 401 ∧ mK h 8 = 20 ∧ mN h 8 = 401 ∧ mK h 9 = 20 ∧ mN h 9 = 401 ∧ mK h 10 = 3 ∧ mK h 11 = 8 ∧ mK h 12 = 20 ∧ mN h 12 = 400 ∧ mK h 13 = 24 ∧ mN h 13 = 6 ∧ mK h 26 = 1 ∧ mK h 27 = 26 ∧ mN h 27 = 20 ∧ mK h 172 = 25 ∧ mN h 172 = 4 ∧ mR h 4 0 = 5 ∧ mR h 4 1 = 10 ∧ mR h 4 2 = 11 ∧ mR h 4 3 = 13 ∧ mR h 4 6 = 19 ∧ mR h 4 7 = 26 ∧ mR h 4 8 = 168 ∧ mR h 4 10 = 172 ∧ mR h 4 11 = 221 ∧ mR h 4 12 = 233 ∧ mR h 5 0 = 6 ∧ mR h 5 2 = 7 ∧ mR h 5 3 = 8 ∧ mR h 5 4 = 9 ∧ mR h 10 0 = 5 ∧ mR h 11 0 = 5 ∧ mR h 11 1 = 12 ∧ mR h 26 0 = 27
theorem tSh.k4 {h : mjS} (a : tSh h) : mK h 4 = 12 := a.1
theorem tSh.k5 {h : mjS} (a : tSh h) : mK h 5 = 11 := a.2.1
theorem tSh.k6 {h : mjS} (a : tSh h) : mK h 6 = 21 := a.2.2.1
theorem tSh.n6 {h : mjS} (a : tSh h) : mN h 6 = 400 := a.2.2.2.1
theorem tSh.k7 {h : mjS} (a : tSh h) : mK h 7 = 20 := a.2.2.2.2.1
theorem tSh.n7 {h : mjS} (a : tSh h) : mN h 7 = 401 := a.2.2.2.2.2.1
theorem tSh.k8 {h : mjS} (a : tSh h) : mK h 8 = 20 := a.2.2.2.2.2.2.1
theorem tSh.n8 {h : mjS} (a : tSh h) : mN h 8 = 401 := a.2.2.2.2.2.2.2.1
theorem tSh.k9 {h : mjS} (a : tSh h) : mK h 9 = 20 := a.2.2.2.2.2.2.2.2.1
theorem tSh.n9 {h : mjS} (a : tSh h) : mN h 9 = 401 := a.2.2.2.2.2.2.2.2.2.1
theorem tSh.k10 {h : mjS} (a : tSh h) : mK h 10 = 3 := a.2.2.2.2.2.2.2.2.2.2.1
theorem tSh.k11 {h : mjS} (a : tSh h) : mK h 11 = 8 := a.2.2.2.2.2.2.2.2.2.2.2.1
theorem tSh.k12 {h : mjS} (a : tSh h) : mK h 12 = 20 := a.2.2.2.2.2.2.2.2.2.2.2.2.1
theorem tSh.n12 {h : mjS} (a : tSh h) : mN h 12 = 400 := a.2.2.2.2.2.2.2.2.2.2.2.2.2.1
theorem tSh.k13 {h : mjS} (a : tSh h) : mK h 13 = 24 := a.2.2.2.2.2.2.2.2.2.2.2.2.2.2.1
theorem tSh.n13 {h : mjS} (a : tSh h) : mN h 13 = 6 := a.2.2.2.2.2.2.2.2.2.2.2.2.2.2.2.1
theorem tSh.k26 {h : mjS} (a : tSh h) : mK h 26 = 1 := a.2.2.2.2.2.2.2.2.2.2.2.2.2.2.2.2.1
theorem tSh.k27 {h : mjS} (a : tSh h) : mK h 27 = 26 := a.2.2.2.2.2.2.2.2.2.2.2.2.2.2.2.2.2.1
theorem tSh.n27 {h : mjS} (a : tSh h) : mN h 27 = 20 := a.2.2.2.2.2.2.2.2.2.2.2.2.2.2.2.2.2.2.1
theorem tSh.k172 {h : mjS} (a : tSh h) : mK h 172 = 25 := a.2.2.2.2.2.2.2.2.2.2.2.2.2.2.2.2.2.2.2.1
theorem tSh.n172 {h : mjS} (a : tSh h) : mN h 172 = 4 := a.2.2.2.2.2.2.2.2.2.2.2.2.2.2.2.2.2.2.2.2.1
theorem tSh.r4_0 {h : mjS} (a : tSh h) : mR h 4 0 = 5 := a.2.2.2.2.2.2.2.2.2.2.2.2.2.2.2.2.2.2.2.2.2.1
theorem tSh.r4_1 {h : mjS} (a : tSh h) : mR h 4 1 = 10 := a.2.2.2.2.2.2.2.2.2.2.2.2.2.2.2.2.2.2.2.2.2.2.1
theorem tSh.r4_2 {h : mjS} (a : tSh h) : mR h 4 2 = 11 := a.2.2.2.2.2.2.2.2.2.2.2.2.2.2.2.2.2.2.2.2.2.2.2.1
theorem tSh.r4_3 {h : mjS} (a : tSh h) : mR h 4 3 = 13 := a.2.2.2.2.2.2.2.2.2.2.2.2.2.2.2.2.2.2.2.2.2.2.2.2.1
theorem tSh.r4_6 {h : mjS} (a : tSh h) : mR h 4 6 = 19 := a.2.2.2.2.2.2.2.2.2.2.2.2.2.2.2.2.2.2.2.2.2.2.2.2.2.1
theorem tSh.r4_7 {h : mjS} (a : tSh h) : mR h 4 7 = 26 := a.2.2.2.2.2.2.2.2.2.2.2.2.2.2.2.2.2.2.2.2.2.2.2.2.2.2.1
theorem tSh.r4_8 {h : mjS} (a : tSh h) : mR h 4 8 = 168 := a.2.2.2.2.2.2.2.2.2.2.2.2.2.2.2.2.2.2.2.2.2.2.2.2.2.2.2.1
theorem tSh.r4_10 {h : mjS} (a : tSh h) : mR h 4 10 = 172 := a.2.2.2.2.2.2.2.2.2.2.2.2.2.2.2.2.2.2.2.2.2.2.2.2.2.2.2.2.1
theorem tSh.r4_11 {h : mjS} (a : tSh h) : mR h 4 11 = 221 := a.2.2.2.2.2.2.2.2.2.2.2.2.2.2.2.2.2.2.2.2.2.2.2.2.2.2.2.2.2.1
theorem tSh.r4_12 {h : mjS} (a : tSh h) : mR h 4 12 = 233 := a.2.2.2.2.2.2.2.2.2.2.2.2.2.2.2.2.2.2.2.2.2.2.2.2.2.2.2.2.2.2.1
theorem tSh.r5_0 {h : mjS} (a : tSh h) : mR h 5 0 = 6 := a.2.2.2.2.2.2.2.2.2.2.2.2.2.2.2.2.2.2.2.2.2.2.2.2.2.2.2.2.2.2.2.1
theorem tSh.r5_2 {h : mjS} (a : tSh h) : mR h 5 2 = 7 := a.2.2.2.2.2.2.2.2.2.2.2.2.2.2.2.2.2.2.2.2.2.2.2.2.2.2.2.2.2.2.2.2.1
theorem tSh.r5_3 {h : mjS} (a : tSh h) : mR h 5 3 = 8 := a.2.2.2.2.2.2.2.2.2.2.2.2.2.2.2.2.2.2.2.2.2.2.2.2.2.2.2.2.2.2.2.2.2.1
theorem tSh.r5_4 {h : mjS} (a : tSh h) : mR h 5 4 = 9 := a.2.2.2.2.2.2.2.2.2.2.2.2.2.2.2.2.2.2.2.2.2.2.2.2.2.2.2.2.2.2.2.2.2.2.1
theorem tSh.r10_0 {h : mjS} (a : tSh h) : mR h 10 0 = 5 := a.2.2.2.2.2.2.2.2.2.2.2.2.2.2.2.2.2.2.2.2.2.2.2.2.2.2.2.2.2.2.2.2.2.2.2.1
theorem tSh.r11_0 {h : mjS} (a : tSh h) : mR h 11 0 = 5 := a.2.2.2.2.2.2.2.2.2.2.2.2.2.2.2.2.2.2.2.2.2.2.2.2.2.2.2.2.2.2.2.2.2.2.2.2.1
theorem tSh.r11_1 {h : mjS} (a : tSh h) : mR h 11 1 = 12 := a.2.2.2.2.2.2.2.2.2.2.2.2.2.2.2.2.2.2.2.2.2.2.2.2.2.2.2.2.2.2.2.2.2.2.2.2.2.1
theorem tSh.r26_0 {h : mjS} (a : tSh h) : mR h 26 0 = 27 := a.2.2.2.2.2.2.2.2.2.2.2.2.2.2.2.2.2.2.2.2.2.2.2.2.2.2.2.2.2.2.2.2.2.2.2.2.2.2
theorem tSh.ft {F : Nat → Nat → Prop} {h h' : mjS} (a : Ft F h h') (hF : ∀ x k, (4 ≤ x ∧ x < 14) ∨ x = 26 → ¬ (F x k ∧ k = 0)) (s : tSh h) : tSh h' := ⟨by rw [a.K]; exact s.k4, by rw [a.K]; exact s.k5, by rw [a.K]; exact s.k6, by rw [a.N]; exact s.n6, by rw [a.K]; exact s.k7, by rw [a.N]; exact s.n7, by rw [a.K]; exact s.k8, by rw [a.N]; exact s.n8, by rw [a.K]; exact s.k9, by rw [a.N]; exact s.n9, by rw [a.K]; exact s.k10, by rw [a.K]; exact s.k11, by rw [a.K]; exact s.k12, by rw [a.N]; exact s.n12, by rw [a.K]; exact s.k13, by rw [a.N]; exact s.n13, by rw [a.K]; exact s.k26, by rw [a.K]; exact s.k27, by rw [a.N]; exact s.n27, by rw [a.K]; exact s.k172, by rw [a.N]; exact s.n172, by rw [a.R (hF _ _ (by omega))]; exact s.r4_0, by rw [a.R (hF _ _ (by omega))]; exact s.r4_1, by rw [a.R (hF _ _ (by omega))]; exact s.r4_2, by rw [a.R (hF _ _ (by omega))]; exact s.r4_3, by rw [a.R (hF _ _ (by omega))]; exact s.r4_6, by rw [a.R (hF _ _ (by omega))]; exact s.r4_7, by rw [a.R (hF _ _ (by omega))]; exact s.r4_8, by rw [a.R (hF _ _ (by omega))]; exact s.r4_10, by rw [a.R (hF _ _ (by omega))]; exact s.r4_11, by rw [a.R (hF _ _ (by omega))]; exact s.r4_12, by rw [a.R (hF _ _ (by omega))]; exact s.r5_0, by rw [a.R (hF _ _ (by omega))]; exact s.r5_2, by rw [a.R (hF _ _ (by omega))]; exact s.r5_3, by rw [a.R (hF _ _ (by omega))]; exact s.r5_4, by rw [a.R (hF _ _ (by omega))]; exact s.r10_0, by rw [a.R (hF _ _ (by omega))]; exact s.r11_0, by rw [a.R (hF _ _ (by omega))]; exact s.r11_1, by rw [a.R (hF _ _ (by omega))]; exact s.r26_0⟩
/-- acts and images: their summers and notes -/
def uSh (h : mjS) : Prop := (∀ i, i < 20 → mR h 27 i = 28 + 7 * i ∧ qSh h (28 + 7 * i)) ∧ ∀ k, k < 4 → mR h 172 k = 173 + 12 * k ∧ mK h (173 + 12 * k) = 5 ∧ mR h (173 + 12 * k) 1 = 178 + 12 * k ∧ mR h (173 + 12 * k) 2 = 174 + 12 * k ∧ nSh h (174 + 12 * k) ∧ qSh h (178 + 12 * k)
theorem uSh.ft {F : Nat → Nat → Prop} {h h' : mjS} (a : Ft F h h') (hF : ¬ F 27 0 ∧ ¬ F 172 0) (s : uSh h) : uSh h' :=
  ⟨fun i hi => ⟨by rw [a.R (fun z => by rw [z.2] at z; exact hF.1 z.1)]; exact (s.1 i hi).1, a.qs (s.1 i hi).2⟩, fun k hk => ⟨by rw [a.R (fun z => by rw [z.2] at z; exact hF.2 z.1)]; exact (s.2 k hk).1, by rw [a.K]; exact (s.2 k hk).2.1, by rw [a.R (by omega)]; exact (s.2 k hk).2.2.1, by rw [a.R (by omega)]; exact (s.2 k hk).2.2.2.1, (s.2 k hk).2.2.2.2.1.ft a, a.qs (s.2 k hk).2.2.2.2.2⟩⟩
/-- what there is: bytes of the tape, how many; rules, how many; the rule in force, x; the field; acts that can be undone, how many; images: made, their force, x, field -/
abbrev gst : Type := ((Nat → Int32) × Nat) × ((Nat → rul) × Nat) × (Option Nat × Nat) × (Nat → Nat) × ((Nat → Nat → Nat) × Nat) × (Nat → Bool) × (Nat → Option Nat × Nat) × (Nat → Nat → Nat)
def gst.tb (s : gst) : Nat → Int32 := s.1.1
def gst.tl (s : gst) : Nat := s.1.2
def gst.rs (s : gst) : Nat → rul := s.2.1.1
def gst.nr (s : gst) : Nat := s.2.1.2
def gst.fo (s : gst) : Option Nat := s.2.2.1.1
def gst.x (s : gst) : Nat := s.2.2.1.2
def gst.g (s : gst) : Nat → Nat := s.2.2.2.1
def gst.A (s : gst) : Nat → Nat → Nat := s.2.2.2.2.1.1
def gst.ac (s : gst) : Nat := s.2.2.2.2.1.2
def gst.im (s : gst) : Nat → Bool := s.2.2.2.2.2.1
def gst.ik (s : gst) : Nat → Option Nat × Nat := s.2.2.2.2.2.2.1
def gst.ig (s : gst) : Nat → Nat → Nat := s.2.2.2.2.2.2.2
def fI (o : Option Nat) : Int32 := match o with
  | none => -nI 1
  | some k => nI k
def bI (b : Bool) : Int32 := if b = true then nI 1 else nI 0
def gst.R (s : gst) : Option rul := match s.fo with
  | none => none
  | some k => some (s.rs k)
/-- a field's cells: of the class's first one, or made later -/
def okF (h : mjS) (f : Nat) : Prop := (f = 14 ∨ 264 ≤ f) ∧ f + 5 ≤ mX h
/-- the class's object -/
def CI (h : mjS) (s : gst) : Prop := ∃ (f nx : Nat) (fi : Nat → Nat),
  (tSh h ∧ uSh h ∧ sSh h ∧ zSh h ∧ nSh h 168 ∧ 264 ≤ mX h) ∧ (CS h 19 f s.g ∧ okF h f ∧ NT h 168 s.g) ∧ (mI h 5 1 = nI s.tl ∧ ∀ i, i < s.tl → mI h 6 i = s.tb i) ∧ (mI h 4 4 = nI s.nr ∧ ∀ i, i < s.nr → (264 ≤ mR h 13 i ∧ mR h 13 i + 3 ≤ mX h) ∧ RU h (mR h 13 i) (s.rs i)) ∧ (mI h 4 5 = fI s.fo ∧ mI h 4 9 = nI s.x) ∧
  (mI h 26 1 = nI s.ac ∧ mI h 26 2 = nI nx ∧ nx < 20 ∧ ∀ i, i < s.ac → CS h (28 + 7 * ((nx + 20 - s.ac + i) % 20)) f (s.A i)) ∧ ∀ k, k < 4 → mI h (173 + 12 * k) 0 = bI (s.im k) ∧ (s.im k = true → CS h (178 + 12 * k) (fi k) (s.ig k) ∧ okF h (fi k) ∧ NT h (174 + 12 * k) (s.ig k) ∧ mI h (173 + 12 * k) 3 = fI (s.ik k).1 ∧ mI h (173 + 12 * k) 4 = nI (s.ik k).2)
/-- the reference's object -/
def RI (h : mjS) (s : gst) : Prop := rSh h ∧ V h s.g ∧ (mI h 243 1 = nI s.tl ∧ ∀ i, i < s.tl → mI h 244 i = s.tb i) ∧ Rr h s.nr s.rs ∧ (mI h 243 21 = fI s.fo ∧ mI h 243 22 = nI s.x) ∧ (mI h 243 24 = nI s.ac ∧ ∀ i, i < s.ac → ∀ k, k < 85 → mI h 254 (85 * i + k) = nI (s.A i (10 + k))) ∧ ∀ k, k < 4 → mI h 263 k = bI (s.im k) ∧ (s.im k = true → (∀ i, i < 148 → mI h 260 (148 * k + i) = nI (s.ig k i)) ∧ mI h 261 k = fI (s.ik k).1 ∧ mI h 262 k = nI (s.ik k).2)
/-- a field with notes, as it can be, with at most B pieces -/
def okG (B : Nat) (g : Nat → Nat) : Prop := Wg g ∧ Wt g ∧ Wn g ∧ sm g 148 ≤ B ∧ g 10 ≤ 999 ∧ ∀ k, k < 148 → g k < 1048576
def told (g g' : Nat → Nat) : Prop := ∀ j, j < 10 ∨ (95 ≤ j ∧ j < 117) → g' j = g j
/-- what holds at all times -/
def WS (B : Nat) (s : gst) : Prop := okG B s.g ∧ (s.tl ≤ 400 ∧ ∀ i, i < s.tl → mjB (s.tb i) = s.tb i) ∧ s.nr ≤ 6 ∧ ((∀ k, s.fo = some k → k < s.nr) ∧ s.x < 2147483648) ∧ (s.ac ≤ 20 ∧ ∀ i, i < s.ac → (Wg (s.A i) ∧ sm (s.A i) 148 ≤ B ∧ s.A i 10 ≤ 999 ∧ ∀ k, k < 148 → s.A i k < 1048576) ∧ told s.g (s.A i)) ∧ ∀ k, k < 4 → s.im k = true → okG B (s.ig k) ∧ (∀ j, (s.ik k).1 = some j → j < s.nr) ∧ (s.ik k).2 < 2147483648
/-- what calls that ask change of the class -/
abbrev FX (h : mjS) (a k : Nat) : Prop := (221 ≤ a ∧ a < 243 ∧ (a = 221 → 6 ≤ k) ∧ (a = 233 → 3 ≤ k)) ∨ a = 2 ∨ (264 ≤ a ∧ mK h a = 23)
theorem okF.nx {h : mjS} {f : Nat} (o : okF h f) (fs : fSh h f) (x k : Nat) (hx : f ≤ x ∧ x < f + 5) : ¬ FX h x k := by
  have := fSh_kind fs hx.1 hx.2
  have := o.1
  unfold FX
  omega
theorem CI.fx {h h' : mjS} {s : gst} (a : Ft (FX h) h h') (c : CI h s) : CI h' s := by
  obtain ⟨f, nx, fi, ⟨c1, c2, c3, c4, c5, c6⟩, ⟨d1, d2, d3⟩, ⟨e1, e2⟩, ⟨r1, r2⟩, ⟨g1, g2⟩, ⟨a1, a2, a3, a4⟩, im⟩ := c
  have oF : ∀ {f}, okF h f → okF h' f := fun o => by unfold okF; rw [a.X]; exact o
  have d2' := d2.1
  have r13 : ∀ i, mR h' 13 i = mR h 13 i := fun i => a.R (by unfold FX; omega)
  refine ⟨f, nx, fi, ⟨c1.ft a (fun x k hx => by unfold FX; omega), c2.ft a (by unfold FX; omega), c3.ft a (fun k hk => by unfold FX; omega), c4.ft a (by unfold FX; omega), c5.ft a, by rw [a.X]; exact c6⟩, ⟨d1.ft a (fun x k hx => ?_), oF d2, d3.ft a (fun x k h1 h2 => by unfold FX; omega)⟩, ⟨by rw [a.I (by unfold FX; omega)]; exact e1, fun i hi => by rw [a.I (by unfold FX; omega)]; exact e2 i hi⟩, ⟨by rw [a.I (by unfold FX; omega)]; exact r1, fun i hi => ?_⟩, ⟨by rw [a.I (by unfold FX; omega)]; exact g1, by rw [a.I (by unfold FX; omega)]; exact g2⟩, ⟨by rw [a.I (by unfold FX; omega)]; exact a1, by rw [a.I (by unfold FX; omega)]; exact a2, a3, fun i hi => (a4 i hi).ft a (fun x k hx => ?_)⟩, fun k hk => ⟨by rw [a.I (by unfold FX; omega)]; exact (im k hk).1, fun hm => ?_⟩⟩
  · rcases hx with hx | hx
    · unfold FX; omega
    · exact d2.nx d1.1.2.1 x k hx
  · rw [r13]
    obtain ⟨y1, y2⟩ := r2 i hi
    refine ⟨by rw [a.X]; exact y1, y2.ft a (fun k => ?_) (fun k => ?_)⟩
    · have := y2.2.1.1
      unfold FX
      omega
    · have := y2.1.2.1
      unfold FX
      omega
  · rcases hx with hx | hx
    · unfold FX; omega
    · exact d2.nx d1.1.2.1 x k hx
  · obtain ⟨m1, m2, m3, m4, m5⟩ := (im k hk).2 hm
    refine ⟨m1.ft a (fun x j hx => ?_), oF m2, m3.ft a (fun x j h1 h2 => by unfold FX; omega), by rw [a.I (by unfold FX; omega)]; exact m4, by rw [a.I (by unfold FX; omega)]; exact m5⟩
    rcases hx with hx | hx
    · unfold FX; omega
    · exact m2.nx m1.1.2.1 x j hx
theorem RI.fe {h h' : mjS} {s : gst} (a : Fr FE2 h h') (v : V h' s.g) (f : mI h' 243 21 = mI h 243 21) (r : RI h s) : RI h' s := by
  obtain ⟨r1, r2, ⟨t1, t2⟩, r3, ⟨f1, f2⟩, ⟨a1, a2⟩, im⟩ := r
  refine ⟨a.rSh r1, v, ⟨by rw [a.I (by unfold FE2 FE; omega)]; exact t1, fun i hi => by rw [a.I (by unfold FE2 FE; omega)]; exact t2 i hi⟩, r3.fr a (by unfold FE2 FE; omega) (fun k => by unfold FE2 FE; omega), ⟨by rw [f]; exact f1, by rw [a.I (by unfold FE2 FE; omega)]; exact f2⟩, ⟨by rw [a.I (by unfold FE2 FE; omega)]; exact a1, fun i hi k hk => by rw [a.I (by unfold FE2 FE; omega)]; exact a2 i hi k hk⟩, fun k hk => ⟨by rw [a.I (by unfold FE2 FE; omega)]; exact (im k hk).1, fun hm => ⟨fun i hi => by rw [a.I (by unfold FE2 FE; omega)]; exact ((im k hk).2 hm).1 i hi, by rw [a.I (by unfold FE2 FE; omega)]; exact ((im k hk).2 hm).2.1, by rw [a.I (by unfold FE2 FE; omega)]; exact ((im k hk).2 hm).2.2⟩⟩⟩
/-- cells of one side are as they were -/
def sm1 (P : Nat → Prop) (h h' : mjS) : Prop := ∀ a, P a → mK h' a = mK h a ∧ mN h' a = mN h a ∧ ∀ k, mI h' a k = mI h a k ∧ mL h' a k = mL h a k ∧ mR h' a k = mR h a k
abbrev isRf (a : Nat) : Prop := 243 ≤ a ∧ a < 264
theorem Ft.sm1 {F : Nat → Nat → Prop} {P : Nat → Prop} {h h' : mjS} (a : Ft F h h') (hF : ∀ x k, P x → ¬ F x k) : sm1 P h h' := fun x hx => ⟨a.K x, a.N x, fun k => ⟨a.I (hF x k hx), a.L (hF x k hx), a.R (fun z => hF x k hx z.1)⟩⟩
theorem RI.sm {h h' : mjS} {s : gst} (a : sm1 isRf h h') (r : RI h s) : RI h' s := by
  have I : ∀ x k, 243 ≤ x ∧ x < 264 → mI h' x k = mI h x k := fun x k hx => ((a x hx).2.2 k).1
  obtain ⟨r1, r2, ⟨t1, t2⟩, r3, ⟨f1, f2⟩, ⟨a1, a2⟩, im⟩ := r
  refine ⟨⟨(a 243 (by unfold isRf; omega)).1.trans r1.1, fun i hi => ⟨((a 243 (by unfold isRf; omega)).2.2 _).2.2.trans (r1.2 i hi).1, (a (244 + i) (by unfold isRf; omega)).1.trans (r1.2 i hi).2.1, (a (244 + i) (by unfold isRf; omega)).2.1.trans (r1.2 i hi).2.2⟩⟩, fun k hk => by rw [I _ _ (by omega)]; exact r2 k hk, ⟨by rw [I _ _ (by omega)]; exact t1, fun i hi => by rw [I _ _ (by omega)]; exact t2 i hi⟩, ⟨by rw [I _ _ (by omega)]; exact r3.1, r3.2.1, fun i hi => (r3.2.2 i hi).keep (fun i => I _ _ (by omega)) (fun i => I _ _ (by omega)) (fun i => I _ _ (by omega))⟩, ⟨by rw [I _ _ (by omega)]; exact f1, by rw [I _ _ (by omega)]; exact f2⟩, ⟨by rw [I _ _ (by omega)]; exact a1, fun i hi k hk => by rw [I _ _ (by omega)]; exact a2 i hi k hk⟩, fun k hk => ⟨by rw [I _ _ (by omega)]; exact (im k hk).1, fun hm => ⟨fun i hi => by rw [I _ _ (by omega)]; exact ((im k hk).2 hm).1 i hi, by rw [I _ _ (by omega)]; exact ((im k hk).2 hm).2.1, by rw [I _ _ (by omega)]; exact ((im k hk).2 hm).2.2⟩⟩⟩
/-- the class's object is as it was when the reference's cells alone change -/
theorem CI.rf {F : Nat → Nat → Prop} {h h' : mjS} {s : gst} (a : Fr F h h') (hF : ∀ x k, F x k → 243 ≤ x ∧ x < 264) (c : CI h s) : CI h' s := by
  have a' : Ft F h h' := a.t
  obtain ⟨f, nx, fi, ⟨c1, c2, c3, c4, c5, c6⟩, ⟨d1, d2, d3⟩, ⟨e1, e2⟩, ⟨r1, r2⟩, ⟨g1, g2⟩, ⟨a1, a2, a3, a4⟩, im⟩ := c
  have oF : ∀ {f}, okF h f → okF h' f := fun o => by unfold okF; rw [a.X]; exact o
  have N : ∀ x k, x < 243 ∨ 264 ≤ x → ¬ F x k := fun x k hx z => by have := hF x k z; omega
  have d2' := d2.1
  refine ⟨f, nx, fi, ⟨c1.ft a' (fun x k hx z => N x k (by omega) z.1), c2.ft a' ⟨N _ _ (by omega), N _ _ (by omega)⟩, c3.ft a' (fun k hk => N _ _ (by omega)), c4.ft a' (N _ _ (by omega)), c5.ft a', by rw [a.X]; exact c6⟩, ⟨d1.ft a' (fun x k hx => N x k (by omega)), oF d2, d3.ft a' (fun x k h1 h2 => N x k (by omega))⟩, ⟨by rw [a.I (N _ _ (by omega))]; exact e1, fun i hi => by rw [a.I (N _ _ (by omega))]; exact e2 i hi⟩, ⟨by rw [a.I (N _ _ (by omega))]; exact r1, fun i hi => ?_⟩, ⟨by rw [a.I (N _ _ (by omega))]; exact g1, by rw [a.I (N _ _ (by omega))]; exact g2⟩, ⟨by rw [a.I (N _ _ (by omega))]; exact a1, by rw [a.I (N _ _ (by omega))]; exact a2, a3, fun i hi => (a4 i hi).ft a' (fun x k hx => N x k (by omega))⟩, fun k hk => ⟨by rw [a.I (N _ _ (by omega))]; exact (im k hk).1, fun hm => ?_⟩⟩
  · rw [a.R]
    obtain ⟨y1, y2⟩ := r2 i hi
    exact ⟨by rw [a.X]; exact y1, y2.ft a' (fun k => N _ _ (by omega)) (fun k => N _ _ (by omega))⟩
  · obtain ⟨m1, m2, m3, m4, m5⟩ := (im k hk).2 hm
    have := m2.1
    exact ⟨m1.ft a' (fun x j hx => N x j (by omega)), oF m2, m3.ft a' (fun x j h1 h2 => N x j (by omega)), by rw [a.I (N _ _ (by omega))]; exact m4, by rw [a.I (N _ _ (by omega))]; exact m5⟩
