/-! what is made at the start: objects and their rows -/
def Old (h h' : mjS) : Prop := ∀ a, a < mX h → mK h' a = mK h a ∧ mN h' a = mN h a ∧ ∀ k, mI h' a k = mI h a k ∧ mL h' a k = mL h a k ∧ mR h' a k = mR h a k
def Zr (h h' : mjS) : Prop := ∀ a k, mX h ≤ a → a < mX h' → mI h' a k = 0
/-- more cells, their ints all 0 -/
def Nw (h h' : mjS) : Prop := mX h ≤ mX h' ∧ Old h h' ∧ Zr h h'
theorem Nw.rf {h : mjS} : Nw h h := ⟨Nat.le_refl _, fun a _ => ⟨rfl, rfl, fun k => ⟨rfl, rfl, rfl⟩⟩, fun a k h1 h2 => by omega⟩
theorem Nw.tr {h h1 h2 : mjS} (a : Nw h h1) (b : Nw h1 h2) : Nw h h2 := by
  have x1 := a.1
  have x2 := b.1
  refine ⟨by omega, fun c hc => ?_, fun c k h1' h2' => ?_⟩
  · obtain ⟨u1, u2, u3⟩ := a.2.1 c hc
    obtain ⟨v1, v2, v3⟩ := b.2.1 c (by omega)
    exact ⟨v1.trans u1, v2.trans u2, fun k => ⟨(v3 k).1.trans (u3 k).1, (v3 k).2.1.trans (u3 k).2.1, (v3 k).2.2.trans (u3 k).2.2⟩⟩
  · by_cases y : c < mX h1
    · rw [((b.2.1 c y).2.2 k).1]; exact a.2.2 c k h1' y
    · exact b.2.2 c k (by omega) h2'
theorem Nw.nn (h : mjS) (k n w : Nat) : Nw h (pN h k n w) := by
  have x : mX (pN h k n w) = mX h + 1 := rfl
  refine ⟨by omega, fun a ha => ⟨by rw [mK_pN, if_neg (by omega)], by rw [mN_pN, if_neg (by omega)], fun j => ⟨by rw [mI_pN, if_neg (by omega)], by rw [mL_pN, if_neg (by omega)], by rw [mR_pN, if_neg (by omega)]⟩⟩, fun a j h1 h2 => by rw [mI_pN, if_pos (by omega)]⟩
theorem Nw.rr {h h1 : mjS} (a : Nw h h1) {c : Nat} (hc : mX h ≤ c) (k v : Nat) : Nw h (pR h1 c k v) :=
  ⟨a.1, fun b hb => ⟨(a.2.1 b hb).1, (a.2.1 b hb).2.1, fun j => ⟨((a.2.1 b hb).2.2 j).1, ((a.2.1 b hb).2.2 j).2.1, by rw [mR_pR, if_neg (by omega)]; exact ((a.2.1 b hb).2.2 j).2.2⟩⟩, fun b j h1 h2 => a.2.2 b j h1 h2⟩
def ArL (h : mjS) (q : Nat) : Nat → List (Nat × Nat × Nat) → Prop
  | _, [] => True
  | i, x :: r => (mR h q x.2.2 = q + 1 + i ∧ mK h (q + 1 + i) = x.1 ∧ mN h (q + 1 + i) = x.2.1) ∧ ArL h q (i + 1) r
def sumL : List (Nat × Nat × Nat) → Nat
  | [] => 0
  | x :: r => x.2.1 + sumL r
theorem sumL_app (l : List (Nat × Nat × Nat)) (x : Nat × Nat × Nat) : sumL (l ++ [x]) = sumL l + x.2.1 := by
  induction l with
  | nil => show x.2.1 + 0 = 0 + x.2.1; omega
  | cons y r ih => show y.2.1 + sumL (r ++ [x]) = y.2.1 + sumL r + x.2.1; rw [ih]; omega
theorem ArL.keep {h h' : mjS} {q : Nat} : ∀ {l : List (Nat × Nat × Nat)} {i : Nat}, (∀ x, x ∈ l → mR h' q x.2.2 = mR h q x.2.2) → (∀ a, q < a → a < q + 1 + i + l.length → mK h' a = mK h a ∧ mN h' a = mN h a) → ArL h q i l → ArL h' q i l := by
  intro l
  induction l with
  | nil => intros; trivial
  | cons x r ih =>
    intro i hR hK a
    rw [List.length_cons] at hK
    refine ⟨⟨(hR x List.mem_cons_self).trans a.1.1, (hK _ (by omega) (by omega)).1.trans a.1.2.1, (hK _ (by omega) (by omega)).2.trans a.1.2.2⟩, ih (fun y hy => hR y (List.mem_cons_of_mem _ hy)) (fun b h1 h2 => hK b h1 (by omega)) a.2⟩
theorem ArL.app {h : mjS} {q : Nat} {x : Nat × Nat × Nat} : ∀ {l : List (Nat × Nat × Nat)} {i : Nat}, ArL h q i l → (mR h q x.2.2 = q + 1 + (i + l.length) ∧ mK h (q + 1 + (i + l.length)) = x.1 ∧ mN h (q + 1 + (i + l.length)) = x.2.1) → ArL h q i (l ++ [x]) := by
  intro l
  induction l with
  | nil => intro i _ b; exact ⟨b, trivial⟩
  | cons y r ih =>
    intro i a b
    rw [List.length_cons] at b
    refine ⟨a.1, ih a.2 ?_⟩
    rw [show i + 1 + r.length = i + (r.length + 1) by omega]; exact b
/-- an object with rows of its own, made behind h0 -/
def Bd (h0 : mjS) (kd pw : Nat) (l : List (Nat × Nat × Nat)) (h : mjS) : Prop := (mX h = mX h0 + 1 + l.length ∧ mZ h = mZ h0 + pw + sumL l) ∧ mK h (mX h0) = kd ∧ ArL h (mX h0) 0 l ∧ Nw h0 h
theorem Bd.start (h : mjS) (kd pw : Nat) : Bd h kd pw [] (pN h kd 0 pw) := ⟨⟨rfl, rfl⟩, by rw [mK_pN, if_pos rfl], trivial, Nw.nn h kd 0 pw⟩
theorem Bd.kn {h0 h : mjS} {kd pw : Nat} {l : List (Nat × Nat × Nat)} (b : Bd h0 kd pw l h) (k n w : Nat) : mK (pN h k n w) (mX h0) = kd := by
  have := b.1.1
  rw [mK_pN, if_neg (by omega)]; exact b.2.1
theorem Bd.step {h0 h : mjS} {kd pw : Nat} {l : List (Nat × Nat × Nat)} (b : Bd h0 kd pw l h) (k n f : Nat) (hf : ∀ x, x ∈ l → x.2.2 ≠ f) : Bd h0 kd pw (l ++ [(k, n, f)]) (pR (pN h k n n) (mX h0) f (mX h)) := by
  have x := b.1.1
  have z := b.1.2
  refine ⟨⟨?_, ?_⟩, b.kn k n n, (b.2.2.1.keep (fun y hy => ?_) (fun a h1 h2 => ⟨?_, ?_⟩)).app ⟨?_, ?_, ?_⟩, (b.2.2.2.tr (Nw.nn h k n n)).rr (Nat.le_refl _) f (mX h)⟩
  · show mX h + 1 = _
    rw [List.length_append, List.length_singleton]; omega
  · show mZ h + n = _
    rw [sumL_app]; show _ = mZ h0 + pw + (sumL l + n); omega
  · have := hf y hy
    rw [mR_pR, if_neg (fun e => this e.2), mR_pN, if_neg (by omega)]
  · show mK (pN h k n n) a = _
    rw [mK_pN, if_neg (by omega)]
  · show mN (pN h k n n) a = _
    rw [mN_pN, if_neg (by omega)]
  · rw [mR_pR, if_pos ⟨rfl, rfl⟩]; omega
  · show mK (pN h k n n) _ = k
    rw [mK_pN, if_pos (by omega)]
  · show mN (pN h k n n) _ = n
    rw [mN_pN, if_pos (by omega)]
theorem Bd.nx {h0 h : mjS} {kd pw : Nat} {l : List (Nat × Nat × Nat)} (b : Bd h0 kd pw l h) (k n f : Nat) (hf : ∀ x, x ∈ l → x.2.2 ≠ f) : ∃ h', h' = pR (pN h k n n) (mX h0) f (mX h) ∧ mK (pN h k n n) (mX h0) = kd ∧ Bd h0 kd pw (l ++ [(k, n, f)]) h' := ⟨_, rfl, b.kn k n n, b.step k n f hf⟩
theorem Bd.ref {h0 h : mjS} {kd pw : Nat} {l : List (Nat × Nat × Nat)} (b : Bd h0 kd pw l h) (f v : Nat) (hf : ∀ x, x ∈ l → x.2.2 ≠ f) : Bd h0 kd pw l (pR h (mX h0) f v) := ⟨b.1, b.2.1, ArL.keep (h := h) (h' := pR h (mX h0) f v) (fun y hy => by have := hf y hy; rw [mR_pR, if_neg (fun e => this e.2)]) (fun a _ _ => ⟨rfl, rfl⟩) b.2.2.1, b.2.2.2.rr (Nat.le_refl _) f v⟩
/-- kinds, lengths, and references but of some cells, are as they were -/
def Gq (X : Nat → Prop) (h h' : mjS) : Prop := mX h ≤ mX h' ∧ ∀ a, a < mX h → mK h' a = mK h a ∧ mN h' a = mN h a ∧ (¬ X a → ∀ k, mR h' a k = mR h a k)
theorem Gq.tr {X : Nat → Prop} {h h1 h2 : mjS} (a : Gq X h h1) (b : Gq X h1 h2) : Gq X h h2 := ⟨Nat.le_trans a.1 b.1, fun c hc => ⟨(b.2 c (Nat.lt_of_lt_of_le hc a.1)).1.trans (a.2 c hc).1, (b.2 c (Nat.lt_of_lt_of_le hc a.1)).2.1.trans (a.2 c hc).2.1, fun hx k => ((b.2 c (Nat.lt_of_lt_of_le hc a.1)).2.2 hx k).trans ((a.2 c hc).2.2 hx k)⟩⟩
theorem Gq.mono {X Y : Nat → Prop} {h h1 : mjS} (a : Gq X h h1) (hXY : ∀ x, X x → Y x) : Gq Y h h1 := ⟨a.1, fun c hc => ⟨(a.2 c hc).1, (a.2 c hc).2.1, fun hy => (a.2 c hc).2.2 (fun z => hy (hXY c z))⟩⟩
theorem Nw.gq {h h' : mjS} (a : Nw h h') (X : Nat → Prop) : Gq X h h' := ⟨a.1, fun c hc => ⟨(a.2.1 c hc).1, (a.2.1 c hc).2.1, fun _ k => ((a.2.1 c hc).2.2 k).2.2⟩⟩
theorem Gq.rr {X : Nat → Prop} (h : mjS) {c : Nat} (hc : X c) (k v : Nat) : Gq X h (pR h c k v) := ⟨Nat.le_refl _, fun a _ => ⟨rfl, rfl, fun hx j => by rw [mR_pR, if_neg (fun e => hx (by rw [e.1]; exact hc))]⟩⟩
theorem Gq.ii {X : Nat → Prop} (h : mjS) (c k : Nat) (v : Int32) : Gq X h (pI h c k v) := ⟨Nat.le_refl _, fun a _ => ⟨rfl, rfl, fun _ j => rfl⟩⟩
theorem Gq.one (h : mjS) (c k v : Nat) : Gq (fun a => a = c) h (pR h c k v) := Gq.rr (X := fun a => a = c) h rfl k v
section GQ
variable {X : Nat → Prop} {h h' : mjS}
theorem Gq.qs (g : Gq X h h') {q : Nat} (hq : q + 7 ≤ mX h) (hx : ¬ X q) (c : qSh h q) : qSh h' q := by
  have K : ∀ x, x < mX h → mK h' x = mK h x := fun x hx => (g.2 x hx).1
  have N : ∀ x, x < mX h → mN h' x = mN h x := fun x hx => (g.2 x hx).2.1
  have R := (g.2 q (by omega)).2.2 hx
  unfold qSh at *
  simp (disch := omega) only [K, N, R]
  exact c
theorem Gq.fs (g : Gq X h h') {q : Nat} (hq : q + 5 ≤ mX h) (hx : ¬ X q) (c : fSh h q) : fSh h' q := by
  have K : ∀ x, x < mX h → mK h' x = mK h x := fun x hx => (g.2 x hx).1
  have N : ∀ x, x < mX h → mN h' x = mN h x := fun x hx => (g.2 x hx).2.1
  have R := (g.2 q (by omega)).2.2 hx
  unfold fSh at *
  simp (disch := omega) only [K, N, R]
  exact c
theorem Gq.ns (g : Gq X h h') {q : Nat} (hq : q + 4 ≤ mX h) (hx : ¬ X q) (c : nSh h q) : nSh h' q := by
  have K : ∀ x, x < mX h → mK h' x = mK h x := fun x hx => (g.2 x hx).1
  have N : ∀ x, x < mX h → mN h' x = mN h x := fun x hx => (g.2 x hx).2.1
  have R := (g.2 q (by omega)).2.2 hx
  unfold nSh at *
  simp (disch := omega) only [K, N, R]
  exact c
end GQ
section NW
variable {ev : mjT} {lv : Nat}
theorem nw_Q (E : mjFix ev) (h : mjS) (x0 : 0 < mX h) (f : Nat) : ∃ h', mjCall ev 49 lv [.ref (mX h), .ref f] (pN h 10 0 10) = some (.ref 0, h') ∧ (mX h' = mX h + 7 ∧ mZ h' = mZ h + 88) ∧ Nw h h' ∧ qSh h' (mX h) ∧ mR h' (mX h) 0 = f := by
  have b0 := Bd.start h 10 10
  obtain ⟨h1, e1, k1, b1⟩ := b0.nx 20 25 1 (by decide)
  obtain ⟨h2, e2, k2, b2⟩ := b1.nx 20 5 2 (by decide)
  obtain ⟨h3, e3, k3, b3⟩ := b2.nx 20 6 3 (by decide)
  obtain ⟨h4, e4, k4, b4⟩ := b3.nx 20 6 4 (by decide)
  obtain ⟨h5, e5, k5, b5⟩ := b4.nx 20 6 5 (by decide)
  obtain ⟨h6, e6, k6, b6⟩ := b5.nx 20 30 6 (by decide)
  have b7 := b6.ref 0 f (by decide)
  have c25 : Int32.toNatClampNeg 25 = 25 := by decide
  have c5 : Int32.toNatClampNeg 5 = 5 := by decide
  have c6 : Int32.toNatClampNeg 6 = 6 := by decide
  have c30 : Int32.toNatClampNeg 30 = 30 := by decide
  refine ⟨pR h6 (mX h) 0 f, ?_, ⟨by rw [b7.1.1]; rfl, by rw [b7.1.2]; rfl⟩, b7.2.2.2, ?_, by rw [mR_pR, if_pos ⟨rfl, rfl⟩]⟩
  · show ev 49 lv 0 [.ref (mX h), .ref f] [] (pN h 10 0 10) = _
    rw [e_49_0 E]
    refine ifF (by omega) ?_
    rw [e_49_4 E, c25]
    dsimp only [mjLet]
    rw [← e1]
    refine ifT ⟨by decide, by decide⟩ (ifT k1 ?_)
    rw [e_49_12 E, c5]
    dsimp only [mjLet]
    rw [← e2]
    refine ifT ⟨by decide, by decide⟩ (ifT k2 ?_)
    rw [e_49_19 E, c6]
    dsimp only [mjLet]
    rw [← e3]
    refine ifT ⟨by decide, by decide⟩ (ifT k3 ?_)
    rw [e_49_27 E, c6]
    dsimp only [mjLet]
    rw [← e4]
    refine ifT ⟨by decide, by decide⟩ (ifT k4 ?_)
    rw [e_49_35 E, c6]
    dsimp only [mjLet]
    rw [← e5]
    refine ifT ⟨by decide, by decide⟩ (ifT k5 ?_)
    rw [e_49_43 E, c30]
    dsimp only [mjLet]
    rw [← e6]
    refine ifT ⟨by decide, by decide⟩ (ifT k6 ?_)
    rw [e_49_51 E]
    exact ifT b6.2.1 rfl
  · have a := b7.2.2.1
    obtain ⟨a1, a2, a3, a4, a5, a6, -⟩ := a
    exact ⟨b7.2.1, a1, a2, a3, a4, a5, a6⟩
theorem nw_N (E : mjFix ev) (h : mjS) (x0 : 0 < mX h) : ∃ h', mjCall ev 25 lv [.ref (mX h)] (pN h 6 0 4) = some (.ref 0, h') ∧ (mX h' = mX h + 4 ∧ mZ h' = mZ h + 34) ∧ Nw h h' ∧ nSh h' (mX h) := by
  have b0 := Bd.start h 6 4
  have b1 := b0.step 20 10 1 (by decide)
  have b2 := b1.step 20 10 2 (by decide)
  have b3 := b2.step 20 10 3 (by decide)
  have k1 := b0.kn 20 10 10
  have k2 := b1.kn 20 10 10
  have k3 := b2.kn 20 10 10
  have c10 : Int32.toNatClampNeg 10 = 10 := by decide
  refine ⟨_, ?_, ⟨b3.1.1, b3.1.2⟩, b3.2.2.2, ?_⟩
  · show ev 25 lv 0 [.ref (mX h)] [] (pN h 6 0 4) = _
    rw [e_25_0 E, c10]
    dsimp only [mjLet]
    exact ifF (by omega) (ifT ⟨by decide, by decide⟩ (ifT k1 (ifT ⟨by decide, by decide⟩ (ifT k2 (ifT ⟨by decide, by decide⟩ (ifT k3 rfl))))))
  · obtain ⟨a1, a2, a3, -⟩ := b3.2.2.1
    exact ⟨b3.2.1, a1, a2, a3⟩
theorem nw_T (E : mjFix ev) (h : mjS) (x0 : 0 < mX h) : ∃ h', mjCall ev 80 lv [.ref (mX h)] (pN h 11 0 8) = some (.ref 0, h') ∧ (mX h' = mX h + 5 ∧ mZ h' = mZ h + 1611) ∧ Nw h h' ∧ mK h' (mX h) = 11 ∧ ArL h' (mX h) 0 [(21, 400, 0), (20, 401, 2), (20, 401, 3), (20, 401, 4)] := by
  have b0 := Bd.start h 11 8
  obtain ⟨h1, e1, k1, b1⟩ := b0.nx 21 400 0 (by decide)
  obtain ⟨h2, e2, k2, b2⟩ := b1.nx 20 401 2 (by decide)
  obtain ⟨h3, e3, k3, b3⟩ := b2.nx 20 401 3 (by decide)
  obtain ⟨h4, e4, k4, b4⟩ := b3.nx 20 401 4 (by decide)
  have c0 : Int32.toNatClampNeg 400 = 400 := by decide
  have c1 : Int32.toNatClampNeg 401 = 401 := by decide
  refine ⟨h4, ?_, ⟨by rw [b4.1.1]; rfl, by rw [b4.1.2]; rfl⟩, b4.2.2.2, b4.2.1, b4.2.2.1⟩
  show ev 80 lv 0 [.ref (mX h)] [] (pN h 11 0 8) = _
  rw [e_80_0 E]
  refine ifF (by omega) ?_
  rw [e_80_4 E, c0]
  dsimp only [mjLet]
  rw [← e1]
  refine ifT ⟨by decide, by decide⟩ (ifT k1 ?_)
  rw [e_80_13 E, c1]
  dsimp only [mjLet]
  rw [← e2]
  refine ifT ⟨by decide, by decide⟩ (ifT k2 ?_)
  rw [e_80_22 E, c1]
  dsimp only [mjLet]
  rw [← e3]
  refine ifT ⟨by decide, by decide⟩ (ifT k3 ?_)
  rw [e_80_31 E, c1]
  dsimp only [mjLet]
  rw [← e4]
  exact ifT ⟨by decide, by decide⟩ (ifT k4 rfl)
theorem nw_L (E : mjFix ev) (h : mjS) (x0 : 0 < mX h) (t : Nat) : ∃ h', mjCall ev 33 lv [.ref (mX h), .ref t] (pN h 8 0 4) = some (.ref 0, h') ∧ (mX h' = mX h + 2 ∧ mZ h' = mZ h + 404) ∧ Nw h h' ∧ mK h' (mX h) = 8 ∧ mR h' (mX h) 0 = t ∧ mR h' (mX h) 1 = mX h + 1 ∧ mK h' (mX h + 1) = 20 ∧ mN h' (mX h + 1) = 400 := by
  have b0 := Bd.start h 8 4
  have b1 := b0.step 20 400 1 (by decide)
  have k1 := b0.kn 20 400 400
  have b2 := b1.ref 0 t (by decide)
  have c0 : Int32.toNatClampNeg 400 = 400 := by decide
  obtain ⟨a1, -⟩ := b2.2.2.1
  refine ⟨_, ?_, ⟨b2.1.1, b2.1.2⟩, b2.2.2.2, b2.2.1, by rw [mR_pR, if_pos ⟨rfl, rfl⟩], a1.1, a1.2.1, a1.2.2⟩
  show ev 33 lv 0 [.ref (mX h), .ref t] [] (pN h 8 0 4) = _
  rw [e_33_0 E, c0]
  dsimp only [mjLet]
  exact ifF (by omega) (ifT ⟨by decide, by decide⟩ (ifT k1 (ifT k1 rfl)))
theorem nw_I (E : mjFix ev) (h : mjS) (x0 : 0 < mX h) (f : Nat) : ∃ h', mjCall ev 24 lv [.ref (mX h), .ref f] (pN h 5 0 5) = some (.ref 0, h') ∧ (mX h' = mX h + 12 ∧ mZ h' = mZ h + 127) ∧ Nw h h' ∧ mK h' (mX h) = 5 ∧ mR h' (mX h) 1 = mX h + 5 ∧ mR h' (mX h) 2 = mX h + 1 ∧ nSh h' (mX h + 1) ∧ qSh h' (mX h + 5) := by
  obtain ⟨s0, es0⟩ : ∃ y, y = pN h 5 0 5 := ⟨_, rfl⟩
  have xs : mX s0 = mX h + 1 := by rw [es0]; rfl
  have zs : mZ s0 = mZ h + 5 := by rw [es0]; rfl
  have ks : mK s0 (mX h) = 5 := by rw [es0, mK_pN, if_pos rfl]
  have n0 : Nw h s0 := by rw [es0]; exact Nw.nn h 5 0 5
  obtain ⟨h1, e1, ⟨x1, z1⟩, w1, ns1⟩ := nw_N (lv := lv) E s0 (by omega)
  obtain ⟨s2, es2⟩ : ∃ y, y = pR h1 (mX h) 2 (mX s0) := ⟨_, rfl⟩
  have x2 : mX s2 = mX h1 := by rw [es2]; rfl
  have z2 : mZ s2 = mZ h1 := by rw [es2]; rfl
  obtain ⟨h3, e3, ⟨x3, z3⟩, w3, qs3, r3⟩ := nw_Q (lv := lv) E s2 (by omega) f
  have k1 : mK h1 (mX h) = 5 := by rw [(w1.2.1 _ (by omega)).1]; exact ks
  have k3 : mK h3 (mX h) = 5 := by rw [(w3.2.1 _ (by omega)).1, es2]; exact k1
  have n2 : Nw h s2 := by rw [es2]; exact (n0.tr w1).rr (Nat.le_refl _) _ _
  have g : Gq (fun a => a = mX h) h1 (pR h3 (mX h) 1 (mX h1)) := by
    have g1 : Gq (fun a => a = mX h) h1 s2 := by rw [es2]; exact Gq.one h1 _ _ _
    exact (g1.tr (w3.gq _)).tr (Gq.one h3 _ _ _)
  have g3 : Gq (fun a => a = mX h) h3 (pR h3 (mX h) 1 (mX h1)) := Gq.one h3 _ _ _
  refine ⟨pR h3 (mX h) 1 (mX h1), ?_, ⟨by show mX h3 = _; omega, by show mZ h3 = _; omega⟩, (n2.tr w3).rr (Nat.le_refl _) _ _, k3, by rw [mR_pR, if_pos ⟨rfl, rfl⟩]; omega, ?_, ?_, ?_⟩
  · rw [← es0]
    show ev 24 lv 0 [.ref (mX h), .ref f] [] s0 = _
    have kn : mK (pN s0 6 0 4) (mX s0) = 6 := by rw [mK_pN, if_pos rfl]
    have kq : mK (pN s2 10 0 10) (mX h1) = 10 := by rw [mK_pN, if_pos (by omega)]
    rw [x2] at e3
    rw [e_24_0 E]
    refine ifF (by omega) ?_
    refine ifT kn (stV e1 (ifT k1 ?_))
    rw [← es2]
    exact ifT kq (stV e3 (ifT k3 rfl))
  · rw [mR_pR, if_neg (by omega), ((w3.2.1 _ (by omega)).2.2 _).2.2, es2, mR_pR, if_pos ⟨rfl, rfl⟩]; omega
  · rw [xs] at ns1
    exact g.ns (by omega) (by omega) ns1
  · rw [show mX s2 = mX h + 5 by omega] at qs3
    exact g3.qs (by omega) (by omega) qs3
theorem nw_A (E : mjFix ev) (h : mjS) (x0 : 0 < mX h) (f : Nat) : ∃ h', mjCall ev 0 lv [.ref (mX h), .ref f] (pN h 1 0 3) = some (.ref 0, h') ∧ (mX h' = mX h + 142 ∧ mZ h' = mZ h + 1783) ∧ Nw h h' ∧ (mK h' (mX h) = 1 ∧ mR h' (mX h) 0 = mX h + 1 ∧ mK h' (mX h + 1) = 26 ∧ mN h' (mX h + 1) = 20) ∧ ∀ j, j < 20 → mR h' (mX h + 1) j = mX h + 2 + 7 * j ∧ qSh h' (mX h + 2 + 7 * j) := by
  have b0 := Bd.start h 1 3
  obtain ⟨h1, e1, k1, b1⟩ := b0.nx 26 20 0 (by decide)
  have c20 : Int32.toNatClampNeg 20 = 20 := by decide
  obtain ⟨a1, -⟩ := b1.2.2.1
  have at_ : ∀ (m i : Nat) (H : mjS), i + m = 20 → mX H = mX h + 2 + 7 * i → mZ H = mZ h + 23 + 88 * i → Nw h H → (mK H (mX h) = 1 ∧ mR H (mX h) 0 = mX h + 1 ∧ mK H (mX h + 1) = 26 ∧ mN H (mX h + 1) = 20) → (∀ j, j < i → mR H (mX h + 1) j = mX h + 2 + 7 * j ∧ qSh H (mX h + 2 + 7 * j)) → ∃ h', ev 0 lv 15 [.ref (mX h), .ref f, .int (nI i)] [] H = some (.ref 0, h') ∧ (mX h' = mX h + 142 ∧ mZ h' = mZ h + 1783) ∧ Nw h h' ∧ (mK h' (mX h) = 1 ∧ mR h' (mX h) 0 = mX h + 1 ∧ mK h' (mX h + 1) = 26 ∧ mN h' (mX h + 1) = 20) ∧ ∀ j, j < 20 → mR h' (mX h + 1) j = mX h + 2 + 7 * j ∧ qSh h' (mX h + 2 + 7 * j) := by
    intro m
    induction m with
    | zero =>
      intro i H hi xH zH nH kH jH
      refine ⟨H, ?_, ⟨by omega, by omega⟩, nH, kH, fun j hj => jH j (by omega)⟩
      rw [e_0_15 E]
      repeat (first | (apply ifT; focus ((try simp (disch := omega) only [ofNat_nI, i_lit, mI_pI, mK_pI, mN_pI, mR_pI, nI_ltI, nI_eq, nI_add, nI_mul, mjIn_nI, nI_clamp, neg1_lt0, if_pos, if_neg, if_true, if_false, Bool.false_eq_true, and_true, true_and, and_false, false_and, mI_pL, mK_pL, mN_pL, mR_pL, mL_pL, mL_pI, mI_pR, mL_pR, mK_pR, mN_pR, mR_pR, mI_pC, mL_pC, mK_pC, mN_pC, mR_pC]) <;> first | omega | decide)) | (apply ifF; focus ((try simp (disch := omega) only [ofNat_nI, i_lit, mI_pI, mK_pI, mN_pI, mR_pI, nI_ltI, nI_eq, nI_add, nI_mul, mjIn_nI, nI_clamp, neg1_lt0, if_pos, if_neg, if_true, if_false, Bool.false_eq_true, and_true, true_and, and_false, false_and, mI_pL, mK_pL, mN_pL, mR_pL, mL_pL, mL_pI, mI_pR, mL_pR, mK_pR, mN_pR, mR_pR, mI_pC, mL_pC, mK_pC, mN_pC, mR_pC]) <;> first | omega | decide)) | (apply stI; focus ((try simp (disch := omega) only [ofNat_nI, i_lit, mI_pI, mK_pI, mN_pI, mR_pI, nI_ltI, nI_eq, nI_add, nI_mul, mjIn_nI, nI_clamp, neg1_lt0, if_pos, if_neg, if_true, if_false, Bool.false_eq_true, and_true, true_and, and_false, false_and, mI_pL, mK_pL, mN_pL, mR_pL, mL_pL, mL_pI, mI_pR, mL_pR, mK_pR, mN_pR, mR_pR, mI_pC, mL_pC, mK_pC, mN_pC, mR_pC]) <;> rfl)) | (apply stV; focus ((try simp (disch := omega) only [ofNat_nI, i_lit, mI_pI, mK_pI, mN_pI, mR_pI, nI_ltI, nI_eq, nI_add, nI_mul, mjIn_nI, nI_clamp, neg1_lt0, if_pos, if_neg, if_true, if_false, Bool.false_eq_true, and_true, true_and, and_false, false_and, mI_pL, mK_pL, mN_pL, mR_pL, mL_pL, mL_pI, mI_pR, mL_pR, mK_pR, mN_pR, mR_pR, mI_pC, mL_pC, mK_pC, mN_pC, mR_pC]) <;> rfl)) | (apply stL; focus ((try simp (disch := omega) only [ofNat_nI, i_lit, mI_pI, mK_pI, mN_pI, mR_pI, nI_ltI, nI_eq, nI_add, nI_mul, mjIn_nI, nI_clamp, neg1_lt0, if_pos, if_neg, if_true, if_false, Bool.false_eq_true, and_true, true_and, and_false, false_and, mI_pL, mK_pL, mN_pL, mR_pL, mL_pL, mL_pI, mI_pR, mL_pR, mK_pR, mN_pR, mR_pR, mI_pC, mL_pC, mK_pC, mN_pC, mR_pC]) <;> rfl)) | (apply stA; focus ((try simp (disch := omega) only [ofNat_nI, i_lit, mI_pI, mK_pI, mN_pI, mR_pI, nI_ltI, nI_eq, nI_add, nI_mul, mjIn_nI, nI_clamp, neg1_lt0, if_pos, if_neg, if_true, if_false, Bool.false_eq_true, and_true, true_and, and_false, false_and, mI_pL, mK_pL, mN_pL, mR_pL, mL_pL, mL_pI, mI_pR, mL_pR, mK_pR, mN_pR, mR_pR, mI_pC, mL_pC, mK_pC, mN_pC, mR_pC]) <;> rfl)))
      try simp (disch := omega) only [ofNat_nI, i_lit, mI_pI, mK_pI, mN_pI, mR_pI, nI_ltI, nI_eq, nI_add, nI_mul, mjIn_nI, nI_clamp, neg1_lt0, if_pos, if_neg, if_true, if_false, Bool.false_eq_true, and_true, true_and, and_false, false_and, mI_pL, mK_pL, mN_pL, mR_pL, mL_pL, mL_pI, mI_pR, mL_pR, mK_pR, mN_pR, mR_pR, mI_pC, mL_pC, mK_pC, mN_pC, mR_pC]
    | succ m ih =>
      intro i H hi xH zH nH kH jH
      obtain ⟨h2, e2, ⟨x2, z2⟩, w2, qs2, r2⟩ := nw_Q (lv := lv) E H (by omega) f
      have g : Gq (fun a => a = mX h + 1) H (pR h2 (mX h + 1) i (mX H)) := (w2.gq _).tr (Gq.one h2 _ _ _)
      have o1 := w2.2.1 (mX h) (by omega)
      have o2 := w2.2.1 (mX h + 1) (by omega)
      obtain ⟨h', e', r'⟩ := ih (i + 1) (pR h2 (mX h + 1) i (mX H)) (by omega) (by show mX h2 = _; omega) (by show mZ h2 = _; omega) ((nH.tr w2).rr (by omega) _ _) ⟨o1.1.trans kH.1, by rw [mR_pR, if_neg (by omega), (o1.2.2 0).2.2]; exact kH.2.1, o2.1.trans kH.2.2.1, o2.2.1.trans kH.2.2.2⟩ (fun j hj => by
        by_cases z : j = i
        · subst z
          rw [← xH]
          exact ⟨by rw [mR_pR, if_pos ⟨rfl, rfl⟩], (Gq.one h2 _ _ _).qs (by omega) (by omega) qs2⟩
        · obtain ⟨u1, u2⟩ := jH j (by omega)
          exact ⟨by rw [mR_pR, if_neg (by omega), (o2.2.2 j).2.2]; exact u1, g.qs (by omega) (by omega) u2⟩)
      refine ⟨h', ?_, r'⟩
      have kq : mK (pN H 10 0 10) (mX H) = 10 := by rw [mK_pN, if_pos rfl]
      have k2 : mK h2 (mX h + 1) = 26 := o2.1.trans kH.2.2.1
      have n2 : mN h2 (mX h + 1) = 20 := o2.2.1.trans kH.2.2.2
      have kx : mK h2 (mX H) = 10 := qs2.k
      rw [← e', e_0_15 E]
      dsimp only [mjLet]
      rw [kH.2.1]
      have i20 : nI i < 20 := (nI_ltI (show i < 2 ^ 31 by omega) (show 20 < 2 ^ 31 by omega)).mpr (show i < 20 by omega)
      refine ifT i20 (ifT kH.1 (ifT kq (stV e2 (ifT k2 (ifT (by rw [n2]; exact (mjIn_nI (by omega)).mpr (by omega)) (ifT kx ?_))))))
      rw [nI_clamp (show i < 2 ^ 31 by omega), i_lit, nI_add]
  obtain ⟨h', e', r'⟩ := at_ 20 0 h1 (by omega) (by rw [b1.1.1]; rfl) (by rw [b1.1.2]; rfl) b1.2.2.2 ⟨b1.2.1, a1.1, a1.2.1, a1.2.2⟩ (fun j hj => by omega)
  refine ⟨h', ?_, r'⟩
  rw [← e']
  show ev 0 lv 0 [.ref (mX h), .ref f, mjD] [] (pN h 1 0 3) = _
  rw [e_0_0 E, c20]
  dsimp only [mjLet]
  rw [← e1]
  exact ifF (by omega) (ifT ⟨by decide, by decide⟩ (ifT k1 rfl))
theorem nw_S (E : mjFix ev) (h : mjS) (x0 : 0 < mX h) {v f : Nat} (hv : v < mX h) (kv : mK h v = 10) (rv : mR h v 0 = f) : ∃ h', mjCall ev 9 lv [.ref (mX h), .ref v] (pN h 4 0 9) = some (.ref 0, h') ∧ (mX h' = mX h + 12 ∧ mZ h' = mZ h + 776) ∧ Nw h h' ∧ mK h' (mX h) = 4 ∧ mR h' (mX h) 0 = v ∧ mR h' (mX h) 1 = mX h + 5 ∧ ArL h' (mX h) 0 [(20, 305, 2), (20, 366, 3), (20, 4, 4), (20, 4, 5)] ∧ qSh h' (mX h + 5) := by
  have b0 := Bd.start h 4 9
  obtain ⟨h1, e1, k1, b1⟩ := b0.nx 20 305 2 (by decide)
  obtain ⟨h2, e2, k2, b2⟩ := b1.nx 20 366 3 (by decide)
  obtain ⟨h3, e3, k3, b3⟩ := b2.nx 20 4 4 (by decide)
  obtain ⟨h4, e4, k4, b4⟩ := b3.nx 20 4 5 (by decide)
  have b5 := b4.ref 0 v (by decide)
  obtain ⟨h5, e5⟩ : ∃ y, y = pR h4 (mX h) 0 v := ⟨_, rfl⟩
  rw [← e5] at b5
  have x5 : mX h5 = mX h + 5 := by rw [b5.1.1]; rfl
  have z5 : mZ h5 = mZ h + 688 := by rw [b5.1.2]; rfl
  have r50 : mR h5 (mX h) 0 = v := by rw [e5, mR_pR, if_pos ⟨rfl, rfl⟩]
  have ov := b5.2.2.2.2.1 v hv
  obtain ⟨h6, e6, ⟨x6, z6⟩, w6, qs6, r6⟩ := nw_Q (lv := lv) E h5 (by omega) f
  have o6 := w6.2.1 (mX h) (by omega)
  have c1 : Int32.toNatClampNeg 305 = 305 := by decide
  have c2 : Int32.toNatClampNeg 366 = 366 := by decide
  have c3 : Int32.toNatClampNeg 4 = 4 := by decide
  have k6 : mK h6 (mX h) = 4 := o6.1.trans b5.2.1
  have b5a := b5.2.2.1
  refine ⟨pR h6 (mX h) 1 (mX h5), ?_, ⟨by show mX h6 = _; omega, by show mZ h6 = _; omega⟩, (b5.2.2.2.tr w6).rr (Nat.le_refl _) _ _, k6, by rw [mR_pR, if_neg (by omega), (o6.2.2 0).2.2]; exact r50, by rw [mR_pR, if_pos ⟨rfl, rfl⟩]; omega, ?_, ?_⟩
  · show ev 9 lv 0 [.ref (mX h), .ref v] [] (pN h 4 0 9) = _
    rw [e_9_0 E]
    refine ifF (by omega) ?_
    rw [e_9_4 E, c1]
    dsimp only [mjLet]
    rw [← e1]
    refine ifT ⟨by decide, by decide⟩ (ifT k1 ?_)
    rw [e_9_13 E, c2]
    dsimp only [mjLet]
    rw [← e2]
    refine ifT ⟨by decide, by decide⟩ (ifT k2 ?_)
    rw [e_9_22 E, c3]
    dsimp only [mjLet]
    rw [← e3]
    refine ifT ⟨by decide, by decide⟩ (ifT k3 ?_)
    rw [e_9_29 E, c3]
    dsimp only [mjLet]
    rw [← e4]
    refine ifT ⟨by decide, by decide⟩ (ifT k4 ?_)
    rw [e_9_36 E]
    refine ifT b4.2.1 ?_
    rw [← e5, e_9_41 E]
    dsimp only [mjLet]
    have kv5 : mK (pN h5 10 0 10) v = 10 := by rw [mK_pN, if_neg (by omega)]; exact ov.1.trans kv
    have rv5 : mR (pN h5 10 0 10) v 0 = f := by rw [mR_pN, if_neg (by omega), (ov.2.2 0).2.2]; exact rv
    have kx : mK (pN h5 10 0 10) (mX h5) = 10 := by rw [mK_pN, if_pos rfl]
    rw [rv5]
    exact ifT kv5 (ifT kx (stV e6 (ifT k6 rfl)))
  · refine b5a.keep (fun x hx => ?_) (fun a h1' h2' => ?_)
    · have : x.2.2 ≠ 1 := by
        have all : ∀ x ∈ ([] ++ [(20, 305, 2)] ++ [(20, 366, 3)] ++ [(20, 4, 4)] ++ [(20, 4, 5)] : List (Nat × Nat × Nat)), x.2.2 ≠ 1 := by decide
        exact all x hx
      rw [mR_pR, if_neg (fun e => this e.2)]; exact (o6.2.2 _).2.2
    · have h2' : a < mX h + 1 + 0 + 4 := h2'
      exact ⟨(w6.2.1 a (by omega)).1, (w6.2.1 a (by omega)).2.1⟩
  · rw [x5] at qs6
    exact (Gq.one h6 _ _ _).qs (by omega) (by omega) qs6
theorem nw_Z (E : mjFix ev) (h : mjS) (x0 : 0 < mX h) (f : Nat) : ∃ h', mjCall ev 42 lv [.ref (mX h), .ref f] (pN h 9 0 5) = some (.ref 0, h') ∧ (mX h' = mX h + 10 ∧ mZ h' = mZ h + 135) ∧ Nw h h' ∧ mK h' (mX h) = 9 ∧ mR h' (mX h) 0 = mX h + 3 ∧ ArL h' (mX h) 0 [(22, 7, 1), (20, 35, 2)] ∧ qSh h' (mX h + 3) := by
  have b0 := Bd.start h 9 5
  have b1 := b0.step 22 7 1 (by decide)
  have b2 := b1.step 20 35 2 (by decide)
  have k1 := b0.kn 22 7 7
  have k2 := b1.kn 20 35 35
  obtain ⟨h2, e2⟩ : ∃ y, y = pR (pN (pR (pN (pN h 9 0 5) 22 7 7) (mX h) 1 (mX (pN h 9 0 5))) 20 35 35) (mX h) 2 (mX (pR (pN (pN h 9 0 5) 22 7 7) (mX h) 1 (mX (pN h 9 0 5)))) := ⟨_, rfl⟩
  have b2 : Bd h 9 5 [(22, 7, 1), (20, 35, 2)] h2 := by rw [e2]; exact b2
  have x2 : mX h2 = mX h + 3 := by rw [b2.1.1]; rfl
  have z2 : mZ h2 = mZ h + 47 := by rw [b2.1.2]; rfl
  obtain ⟨h6, e6, ⟨x6, z6⟩, w6, qs6, r6⟩ := nw_Q (lv := lv) E h2 (by omega) f
  have o6 := w6.2.1 (mX h) (by omega)
  have k6 : mK h6 (mX h) = 9 := o6.1.trans b2.2.1
  have c1 : Int32.toNatClampNeg 7 = 7 := by decide
  have c2 : Int32.toNatClampNeg 35 = 35 := by decide
  refine ⟨pR h6 (mX h) 0 (mX h2), ?_, ⟨by show mX h6 = _; omega, by show mZ h6 = _; omega⟩, (b2.2.2.2.tr w6).rr (Nat.le_refl _) _ _, k6, by rw [mR_pR, if_pos ⟨rfl, rfl⟩]; omega, ?_, ?_⟩
  · show ev 42 lv 0 [.ref (mX h), .ref f] [] (pN h 9 0 5) = _
    rw [e_42_0 E, c1, c2]
    dsimp only [mjLet]
    have kx : mK (pN h2 10 0 10) (mX h2) = 10 := by rw [mK_pN, if_pos rfl]
    rw [e2] at e6 kx ⊢
    exact ifF (by omega) (ifT ⟨by decide, by decide⟩ (ifT k1 (ifT ⟨by decide, by decide⟩ (ifT k2 (ifT kx (stV e6 (ifT k6 rfl)))))))
  · refine b2.2.2.1.keep (fun x hx => ?_) (fun a h1' h2' => ?_)
    · have : x.2.2 ≠ 0 := by
        have all : ∀ x ∈ ([(22, 7, 1), (20, 35, 2)] : List (Nat × Nat × Nat)), x.2.2 ≠ 0 := by decide
        exact all x hx
      rw [mR_pR, if_neg (fun e => this e.2)]; exact (o6.2.2 _).2.2
    · have h2' : a < mX h + 1 + 0 + 2 := h2'
      exact ⟨(w6.2.1 a (by omega)).1, (w6.2.1 a (by omega)).2.1⟩
  · rw [x2] at qs6
    exact (Gq.one h6 _ _ _).qs (by omega) (by omega) qs6
end NW
