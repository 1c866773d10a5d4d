/-! new cells are made: what there was stays -/
theorem mI_pN (h : mjS) (c n w a k : Nat) : mI (pN h c n w) a k = if a = mX h then 0 else mI h a k := rfl
theorem mL_pN (h : mjS) (c n w a k : Nat) : mL (pN h c n w) a k = if a = mX h then 0 else mL h a k := rfl
theorem mR_pN (h : mjS) (c n w a k : Nat) : mR (pN h c n w) a k = if a = mX h then 0 else mR h a k := rfl
theorem mK_pN (h : mjS) (c n w a : Nat) : mK (pN h c n w) a = if a = mX h then c else mK h a := rfl
theorem mN_pN (h : mjS) (c n w a : Nat) : mN (pN h c n w) a = if a = mX h then n else mN h a := rfl
theorem mX_pN (h : mjS) (c n w : Nat) : mX (pN h c n w) = mX h + 1 := rfl
theorem mX_pI (h : mjS) (a k : Nat) (v : Int32) : mX (pI h a k v) = mX h := rfl
theorem mX_pR (h : mjS) (a k v : Nat) : mX (pR h a k v) = mX h := rfl
theorem mX_pC (h : mjS) (a i b j n : Nat) : mX (pC h a i b j n) = mX h := rfl
/-- cells that there were are as they were, but for references of cell 13 -/
def Gv (h h' : mjS) : Prop := mX h ≤ mX h' ∧ ∀ a, a < mX h → mK h' a = mK h a ∧ mN h' a = mN h a ∧ ∀ k, mI h' a k = mI h a k ∧ mL h' a k = mL h a k ∧ (a ≠ 13 → mR h' a k = mR h a k)
section GV
variable {h h' : mjS}
theorem Gv.K (g : Gv h h') : ∀ x, x < mX h → mK h' x = mK h x := fun x hx => (g.2 x hx).1
theorem Gv.N (g : Gv h h') : ∀ x, x < mX h → mN h' x = mN h x := fun x hx => (g.2 x hx).2.1
theorem Gv.I (g : Gv h h') : ∀ x k, x < mX h → mI h' x k = mI h x k := fun x k hx => ((g.2 x hx).2.2 k).1
theorem Gv.R (g : Gv h h') : ∀ x k, x < mX h ∧ x ≠ 13 → mR h' x k = mR h x k := fun x k hx => ((g.2 x hx.1).2.2 k).2.2 hx.2
theorem Gv.qs (g : Gv h h') {q : Nat} (hq : q + 7 ≤ mX h) (h13 : q + 7 ≤ 13 ∨ 13 < q) (c : qSh h q) : qSh h' q := by
  have K := g.K
  have N := g.N
  have R := g.R
  unfold qSh at *
  simp (disch := omega) only [K, N, R]
  exact c
theorem Gv.fs (g : Gv h h') {q : Nat} (hq : q + 5 ≤ mX h) (h13 : 13 < q) (c : fSh h q) : fSh h' q := by
  have K := g.K
  have N := g.N
  have R := g.R
  unfold fSh at *
  simp (disch := omega) only [K, N, R]
  exact c
theorem Gv.ns (g : Gv h h') {q : Nat} (hq : q + 4 ≤ mX h) (h13 : 13 < q) (c : nSh h q) : nSh h' q := by
  have K := g.K
  have N := g.N
  have R := g.R
  unfold nSh at *
  simp (disch := omega) only [K, N, R]
  exact c
theorem Gv.cf (g : Gv h h') {f : Nat} {G : Nat → Nat} (hf : f + 5 ≤ mX h) (c : CF h f G) : CF h' f G :=
  ⟨⟨by rw [g.I _ _ (by omega)]; exact c.1.1, by rw [g.I _ _ (by omega)]; exact c.1.2.1, by rw [g.I _ _ (by omega)]; exact c.1.2.2.1, by rw [g.I _ _ (by omega)]; exact c.1.2.2.2⟩, fun p hp => by rw [g.I _ _ (by omega)]; exact c.2.1 p hp, fun p hp => by rw [g.I _ _ (by omega)]; exact c.2.2.1 p hp, fun p hp => by rw [g.I _ _ (by omega)]; exact c.2.2.2.1 p hp, fun p hp => by rw [g.I _ _ (by omega)]; exact c.2.2.2.2 p hp⟩
theorem Gv.cq (g : Gv h h') {q : Nat} {G : Nat → Nat} (hq : q + 7 ≤ mX h) (c : CQ h q G) : CQ h' q G :=
  ⟨fun o i j t => by rw [g.I _ _ (by unfold Tb at t; omega)]; exact c.1 o i j t, fun s hs => by rw [g.I _ _ (by omega)]; exact c.2.1 s hs, by rw [g.I _ _ (by omega)]; exact c.2.2.1, c.2.2.2⟩
theorem Gv.cs (g : Gv h h') {q f : Nat} {G : Nat → Nat} (hq : q + 7 ≤ mX h) (h13 : 13 < q) (hf : f + 5 ≤ mX h) (f13 : 13 < f) (c : CS h q f G) : CS h' q f G :=
  ⟨⟨g.qs hq (by omega) c.1.1, g.fs hf f13 c.1.2.1, by rw [g.R _ _ (by omega)]; exact c.1.2.2.1, c.1.2.2.2⟩, g.cf hf c.2.1, g.cq hq c.2.2⟩
theorem Gv.nt (g : Gv h h') {o : Nat} {G : Nat → Nat} (ho : o + 4 ≤ mX h) (c : NT h o G) : NT h' o G :=
  ⟨by rw [g.I _ _ (by omega)]; exact c.1, fun i hi => ⟨by rw [g.I _ _ (by omega)]; exact (c.2 i hi).1, by rw [g.I _ _ (by omega)]; exact (c.2 i hi).2.1, by rw [g.I _ _ (by omega)]; exact (c.2 i hi).2.2⟩⟩
theorem Gv.ok (g : Gv h h') {f : Nat} (o : okF h f) : okF h' f := ⟨o.1, Nat.le_trans o.2 g.1⟩
theorem Gv.ru (g : Gv h h') {rl : Nat} {r : rul} (h1 : 264 ≤ rl) (h2 : rl + 3 ≤ mX h) (c : RU h rl r) : RU h' rl r := by
  obtain ⟨⟨c1, c2, c3, c4⟩, ⟨c5, c6, c7, c8⟩, c9, c10⟩ := c
  exact ⟨⟨c1, by rw [g.K _ (by omega)]; exact c2, by rw [g.R _ _ (by omega)]; exact c3, by rw [g.R _ _ (by omega)]; exact c4⟩, ⟨by rw [g.K _ (by omega)]; exact c5, by rw [g.N _ (by omega)]; exact c6, by rw [g.K _ (by omega)]; exact c7, by rw [g.N _ (by omega)]; exact c8⟩, c9.keep (fun k _ _ => g.I _ _ (by omega)), c10⟩
theorem Gv.c1 (g : Gv h h') (c : c1 h) : c1 h' := by
  have K := g.K
  have N := g.N
  have R := g.R
  obtain ⟨a1, a2, a3, a4, a5, a6⟩ := c
  refine ⟨?_, ⟨fun i hi => ⟨by rw [g.R _ _ (by omega)]; exact (a2.1 i hi).1, g.qs (by omega) (by omega) (a2.1 i hi).2⟩, fun k hk => ⟨by rw [g.R _ _ (by omega)]; exact (a2.2 k hk).1, by rw [g.K _ (by omega)]; exact (a2.2 k hk).2.1, by rw [g.R _ _ (by omega)]; exact (a2.2 k hk).2.2.1, by rw [g.R _ _ (by omega)]; exact (a2.2 k hk).2.2.2.1, g.ns (by omega) (by omega) (a2.2 k hk).2.2.2.2.1, g.qs (by omega) (by omega) (a2.2 k hk).2.2.2.2.2⟩⟩, ?_, ?_, g.ns (by omega) (by omega) a5, by have := g.1; omega⟩
  · unfold tSh at *
    simp (disch := omega) only [K, N, R]
    exact a1
  · have q := g.qs (q := 226) (by omega) (by omega) a3.2.2
    refine ⟨?_, ?_, q⟩
    · simp (disch := omega) only [K, N, R]; exact a3.1
    · simp (disch := omega) only [K, N, R]; exact a3.2.1
  · have q := g.qs (q := 236) (by omega) (by omega) a4.2.2.1
    refine ⟨?_, ?_, q, ?_⟩
    · simp (disch := omega) only [K, N, R]; exact a4.1
    · simp (disch := omega) only [K, N, R]; exact a4.2.1
    · simp (disch := omega) only [K, N, R]; exact a4.2.2.2
theorem Gv.c2 (g : Gv h h') (x : 264 ≤ mX h) {G : Nat → Nat} {f : Nat} (c : c2 h G f) : c2 h' G f :=
  ⟨g.cs (by omega) (by omega) c.2.1.2 (by have := c.2.1.1; omega) c.1, g.ok c.2.1, g.nt (by omega) c.2.2⟩
theorem Gv.c3 (g : Gv h h') (x : 264 ≤ mX h) {tb : Nat → Int32} {tl : Nat} (c : c3 h tb tl) : c3 h' tb tl := ⟨by rw [g.I _ _ (by omega)]; exact c.1, fun i hi => by rw [g.I _ _ (by omega)]; exact c.2 i hi⟩
theorem Gv.c4 (g : Gv h h') (x : 264 ≤ mX h) {rs : Nat → rul} {nr : Nat} (r13 : ∀ i, i < nr → mR h' 13 i = mR h 13 i) (c : c4 h rs nr) : c4 h' rs nr :=
  ⟨by rw [g.I _ _ (by omega)]; exact c.1, fun i hi => by
    rw [r13 i hi]
    obtain ⟨y1, y2⟩ := c.2 i hi
    exact ⟨⟨y1.1, by have := g.1; omega⟩, g.ru y1.1 y1.2 y2⟩⟩
theorem Gv.c5 (g : Gv h h') (x : 264 ≤ mX h) {o : Option Nat} {y : Nat} (c : c5 h o y) : c5 h' o y := ⟨by rw [g.I _ _ (by omega)]; exact c.1, by rw [g.I _ _ (by omega)]; exact c.2⟩
theorem Gv.c6 (g : Gv h h') (x : 264 ≤ mX h) {f : Nat} (o : okF h f) {A : Nat → Nat → Nat} {ac nx : Nat} (c : c6 h f A ac nx) : c6 h' f A ac nx :=
  ⟨by rw [g.I _ _ (by omega)]; exact c.1, by rw [g.I _ _ (by omega)]; exact c.2.1, c.2.2.1, fun i hi => g.cs (by omega) (by omega) o.2 (by have := o.1; omega) (c.2.2.2 i hi)⟩
theorem Gv.c7 (g : Gv h h') (x : 264 ≤ mX h) {fi : Nat → Nat} {im : Nat → Bool} {ik : Nat → Option Nat × Nat} {ig : Nat → Nat → Nat} (c : c7 h fi im ik ig) : c7 h' fi im ik ig := by
  intro k hk
  refine ⟨by rw [g.I _ _ (by omega)]; exact (c k hk).1, fun hm => ?_⟩
  obtain ⟨m1, m2, m3, m4, m5⟩ := (c k hk).2 hm
  exact ⟨g.cs (by omega) (by omega) m2.2 (by have := m2.1; omega) m1, g.ok m2, g.nt (by omega) m3, by rw [g.I _ _ (by omega)]; exact m4, by rw [g.I _ _ (by omega)]; exact m5⟩
theorem Gv.ci (g : Gv h h') {s : gst} (r13 : ∀ i, mR h' 13 i = mR h 13 i) (c : CI h s) : CI h' s := by
  obtain ⟨f, nx, fi, C1, C2, C3, C4, C5, C6, C7⟩ := c.parts
  have x := C1.2.2.2.2.2
  exact CI.of (g.c1 C1) (g.c2 x C2) (g.c3 x C3) (g.c4 x (fun i _ => r13 i) C4) (g.c5 x C5) (g.c6 x C2.2.1 C6) (g.c7 x C7)
theorem Gv.sm (g : Gv h h') (x : 264 ≤ mX h) : sm1 isRg h h' := fun a ha => by
  unfold isRg at ha
  exact ⟨g.K a (by omega), g.N a (by omega), fun k => ⟨g.I a k (by omega), ((g.2 a (by omega)).2.2 k).2.1, g.R a k (by omega)⟩⟩
end GV
