/-! the class's summers (a Summer at q, its rows q + 1 to q + 6) and fields (a Field at f, its rows f + 1 to f + 4) -/
def qSh (h : mjS) (q : Nat) : Prop := mK h q = 10 ∧ (mR h q 1 = q + 1 ∧ mK h (q + 1) = 20 ∧ mN h (q + 1) = 25) ∧ (mR h q 2 = q + 2 ∧ mK h (q + 2) = 20 ∧ mN h (q + 2) = 5) ∧ (mR h q 3 = q + 3 ∧ mK h (q + 3) = 20 ∧ mN h (q + 3) = 6) ∧ (mR h q 4 = q + 4 ∧ mK h (q + 4) = 20 ∧ mN h (q + 4) = 6) ∧ (mR h q 5 = q + 5 ∧ mK h (q + 5) = 20 ∧ mN h (q + 5) = 6) ∧ (mR h q 6 = q + 6 ∧ mK h (q + 6) = 20 ∧ mN h (q + 6) = 30)
theorem qSh.k {h : mjS} {q : Nat} (a : qSh h q) : mK h q = 10 := a.1
theorem qSh.r1 {h : mjS} {q : Nat} (a : qSh h q) : mR h q 1 = q + 1 := a.2.1.1
theorem qSh.k1 {h : mjS} {q : Nat} (a : qSh h q) : mK h (q + 1) = 20 := a.2.1.2.1
theorem qSh.n1 {h : mjS} {q : Nat} (a : qSh h q) : mN h (q + 1) = 25 := a.2.1.2.2
theorem qSh.r2 {h : mjS} {q : Nat} (a : qSh h q) : mR h q 2 = q + 2 := a.2.2.1.1
theorem qSh.k2 {h : mjS} {q : Nat} (a : qSh h q) : mK h (q + 2) = 20 := a.2.2.1.2.1
theorem qSh.n2 {h : mjS} {q : Nat} (a : qSh h q) : mN h (q + 2) = 5 := a.2.2.1.2.2
theorem qSh.r3 {h : mjS} {q : Nat} (a : qSh h q) : mR h q 3 = q + 3 := a.2.2.2.1.1
theorem qSh.k3 {h : mjS} {q : Nat} (a : qSh h q) : mK h (q + 3) = 20 := a.2.2.2.1.2.1
theorem qSh.n3 {h : mjS} {q : Nat} (a : qSh h q) : mN h (q + 3) = 6 := a.2.2.2.1.2.2
theorem qSh.r4 {h : mjS} {q : Nat} (a : qSh h q) : mR h q 4 = q + 4 := a.2.2.2.2.1.1
theorem qSh.k4 {h : mjS} {q : Nat} (a : qSh h q) : mK h (q + 4) = 20 := a.2.2.2.2.1.2.1
theorem qSh.n4 {h : mjS} {q : Nat} (a : qSh h q) : mN h (q + 4) = 6 := a.2.2.2.2.1.2.2
theorem qSh.r5 {h : mjS} {q : Nat} (a : qSh h q) : mR h q 5 = q + 5 := a.2.2.2.2.2.1.1
theorem qSh.k5 {h : mjS} {q : Nat} (a : qSh h q) : mK h (q + 5) = 20 := a.2.2.2.2.2.1.2.1
theorem qSh.n5 {h : mjS} {q : Nat} (a : qSh h q) : mN h (q + 5) = 6 := a.2.2.2.2.2.1.2.2
theorem qSh.r6 {h : mjS} {q : Nat} (a : qSh h q) : mR h q 6 = q + 6 := a.2.2.2.2.2.2.1
theorem qSh.k6 {h : mjS} {q : Nat} (a : qSh h q) : mK h (q + 6) = 20 := a.2.2.2.2.2.2.2.1
theorem qSh.n6 {h : mjS} {q : Nat} (a : qSh h q) : mN h (q + 6) = 30 := a.2.2.2.2.2.2.2.2
def fSh (h : mjS) (f : Nat) : Prop := mK h f = 2 ∧ (mR h f 2 = f + 1 ∧ mK h (f + 1) = 20 ∧ mN h (f + 1) = 5) ∧ (mR h f 4 = f + 2 ∧ mK h (f + 2) = 20 ∧ mN h (f + 2) = 6) ∧ (mR h f 5 = f + 3 ∧ mK h (f + 3) = 20 ∧ mN h (f + 3) = 6) ∧ (mR h f 7 = f + 4 ∧ mK h (f + 4) = 20 ∧ mN h (f + 4) = 5)
theorem fSh.k {h : mjS} {f : Nat} (a : fSh h f) : mK h f = 2 := a.1
theorem fSh.r2 {h : mjS} {f : Nat} (a : fSh h f) : mR h f 2 = f + 1 := a.2.1.1
theorem fSh.k1 {h : mjS} {f : Nat} (a : fSh h f) : mK h (f + 1) = 20 := a.2.1.2.1
theorem fSh.n1 {h : mjS} {f : Nat} (a : fSh h f) : mN h (f + 1) = 5 := a.2.1.2.2
theorem fSh.r4 {h : mjS} {f : Nat} (a : fSh h f) : mR h f 4 = f + 2 := a.2.2.1.1
theorem fSh.k2 {h : mjS} {f : Nat} (a : fSh h f) : mK h (f + 2) = 20 := a.2.2.1.2.1
theorem fSh.n2 {h : mjS} {f : Nat} (a : fSh h f) : mN h (f + 2) = 6 := a.2.2.1.2.2
theorem fSh.r5 {h : mjS} {f : Nat} (a : fSh h f) : mR h f 5 = f + 3 := a.2.2.2.1.1
theorem fSh.k3 {h : mjS} {f : Nat} (a : fSh h f) : mK h (f + 3) = 20 := a.2.2.2.1.2.1
theorem fSh.n3 {h : mjS} {f : Nat} (a : fSh h f) : mN h (f + 3) = 6 := a.2.2.2.1.2.2
theorem fSh.r7 {h : mjS} {f : Nat} (a : fSh h f) : mR h f 7 = f + 4 := a.2.2.2.2.1
theorem fSh.k4 {h : mjS} {f : Nat} (a : fSh h f) : mK h (f + 4) = 20 := a.2.2.2.2.2.1
theorem fSh.n4 {h : mjS} {f : Nat} (a : fSh h f) : mN h (f + 4) = 5 := a.2.2.2.2.2.2
/-- which cell of 'said' a place of a summer is -/
abbrev Tb (o i j : Nat) : Prop := (o = 1 ∧ i < 25 ∧ j = 12 + i) ∨ (o = 2 ∧ i < 5 ∧ j = 42 + i) ∨ (o = 3 ∧ i < 6 ∧ j = 47 + 8 * i) ∨ (o = 5 ∧ i < 6 ∧ j = 47 + 8 * i + 2) ∨ (o = 6 ∧ i < 30 ∧ j = 50 + 8 * (i / 5) + i % 5) ∨ (o = 0 ∧ i = 8 ∧ j = 11) ∨ (o = 0 ∧ i = 9 ∧ j = 10)
def whoI (g : Nat → Nat) (s : Nat) : Int32 := if g (47 + 8 * s) = 1 then -1 else nI (g (47 + 8 * s + 1))
def msk (g : Nat → Nat) : Nat := g 37 + 2 * g 38 + 4 * g 39 + 8 * g 40 + 16 * g 41
def CQ (h : mjS) (q : Nat) (g : Nat → Nat) : Prop := (∀ o i j, Tb o i j → mI h (q + o) i = nI (g j)) ∧ (∀ s, s < 6 → mI h (q + 4) s = whoI g s) ∧ mI h q 7 = nI (msk g) ∧ ∀ k, k < 148 → g k < 1048576
def CF (h : mjS) (f : Nat) (g : Nat → Nat) : Prop := (mI h f 0 = nI (g 1) ∧ mI h f 1 = nI (g 2) ∧ mI h f 3 = nI (g 3) ∧ mI h f 6 = nI (g 4)) ∧ (∀ p, p < 5 → mI h (f + 1) p = nI (g (106 + p))) ∧ (∀ s, s < 6 → mI h (f + 2) s = nI (g (111 + s))) ∧ (∀ s, s < 6 → mI h (f + 3) s = nI (g (95 + s))) ∧ (∀ w, w < 5 → mI h (f + 4) w = nI (g (101 + w)))
/-- a summer, its field and what they hold -/
def CS (h : mjS) (q f : Nat) (g : Nat → Nat) : Prop := (qSh h q ∧ fSh h f ∧ mR h q 0 = f ∧ (f + 5 ≤ q ∨ q + 7 ≤ f)) ∧ CF h f g ∧ CQ h q g
theorem CQ.lt {h : mjS} {q : Nat} {g : Nat → Nat} (c : CQ h q g) {k : Nat} (hk : k < 148) : g k < 1048576 := c.2.2.2 k hk
theorem CQ.five_lt {h : mjS} {q : Nat} {g : Nat → Nat} (c : CQ h q g) {a : Nat} (hk : a + 5 ≤ 148) : five g a < 5242880 := by
  have h0 := c.lt (k := a) (by omega)
  have h1 := c.lt (k := a + 1) (by omega)
  have h2 := c.lt (k := a + 2) (by omega)
  have h3 := c.lt (k := a + 3) (by omega)
  have h4 := c.lt (k := a + 4) (by omega)
  unfold five; omega
theorem CQ.own {h : mjS} {q : Nat} {g : Nat → Nat} (c : CQ h q g) {p k : Nat} (hp : p < 5) (hk : k < 5) : mI h (q + 1) (p * 5 + k) = nI (g (12 + 5 * p + k)) := by
  rw [c.1 1 (p * 5 + k) (12 + 5 * p + k) (by unfold Tb; omega)]
theorem CQ.plc {h : mjS} {q : Nat} {g : Nat → Nat} (c : CQ h q g) {s : Nat} (hs : s < 6) : mI h (q + 3) s = nI (g (47 + 8 * s)) := c.1 3 s _ (by unfold Tb; omega)
theorem CQ.lft {h : mjS} {q : Nat} {g : Nat → Nat} (c : CQ h q g) {s : Nat} (hs : s < 6) : mI h (q + 5) s = nI (g (47 + 8 * s + 2)) := c.1 5 s _ (by unfold Tb; omega)
theorem CQ.lod {h : mjS} {q : Nat} {g : Nat → Nat} (c : CQ h q g) {s k : Nat} (hs : s < 6) (hk : k < 5) : mI h (q + 6) (s * 5 + k) = nI (g (47 + 8 * s + 3 + k)) := by
  rw [c.1 6 (s * 5 + k) (47 + 8 * s + 3 + k) (by unfold Tb; omega)]
theorem CQ.blt {h : mjS} {q : Nat} {g : Nat → Nat} (c : CQ h q g) : mI h q 8 = nI (g 11) := c.1 0 8 11 (by unfold Tb; omega)
theorem CQ.day {h : mjS} {q : Nat} {g : Nat → Nat} (c : CQ h q g) : mI h q 9 = nI (g 10) := c.1 0 9 10 (by unfold Tb; omega)
theorem CQ.lyg {h : mjS} {q : Nat} {g : Nat → Nat} (c : CQ h q g) : mI h q 7 = nI (msk g) := c.2.2.1
theorem CQ.whoN {h : mjS} {q : Nat} {g : Nat → Nat} (c : CQ h q g) {s : Nat} (hs : s < 6) (hn : g (47 + 8 * s) ≠ 1) : mI h (q + 4) s = nI (g (47 + 8 * s + 1)) := by
  rw [c.2.1 s hs]; unfold whoI; rw [if_neg hn]
theorem CQ.fr {F : Nat → Nat → Prop} {h h' : mjS} {q : Nat} {g : Nat → Nat} (a : Fr F h h') (hF : ∀ x k, q ≤ x → x < q + 7 → ¬ F x k) (c : CQ h q g) : CQ h' q g :=
  ⟨fun o i j t => by rw [a.I (hF _ _ (by omega) (by unfold Tb at t; omega))]; exact c.1 o i j t, fun s hs => by rw [a.I (hF _ _ (by omega) (by omega))]; exact c.2.1 s hs, by rw [a.I (hF _ _ (by omega) (by omega))]; exact c.2.2.1, c.2.2.2⟩
theorem CF.fr {F : Nat → Nat → Prop} {h h' : mjS} {f : Nat} {g : Nat → Nat} (a : Fr F h h') (hF : ∀ x k, f ≤ x → x < f + 5 → ¬ F x k) (c : CF h f g) : CF h' f g :=
  ⟨⟨by rw [a.I (hF _ _ (by omega) (by omega))]; exact c.1.1, by rw [a.I (hF _ _ (by omega) (by omega))]; exact c.1.2.1, by rw [a.I (hF _ _ (by omega) (by omega))]; exact c.1.2.2.1, by rw [a.I (hF _ _ (by omega) (by omega))]; exact c.1.2.2.2⟩, fun p hp => by rw [a.I (hF _ _ (by omega) (by omega))]; exact c.2.1 p hp, fun p hp => by rw [a.I (hF _ _ (by omega) (by omega))]; exact c.2.2.1 p hp, fun p hp => by rw [a.I (hF _ _ (by omega) (by omega))]; exact c.2.2.2.1 p hp, fun p hp => by rw [a.I (hF _ _ (by omega) (by omega))]; exact c.2.2.2.2 p hp⟩
theorem CF.cg {h : mjS} {f : Nat} {g g' : Nat → Nat} (c : CF h f g) (k : Kd g g') : CF h f g' := by
  unfold CF
  rw [k 1 (by omega), k 2 (by omega), k 3 (by omega), k 4 (by omega)]
  exact ⟨c.1, fun p hp => by rw [k _ (by omega)]; exact c.2.1 p hp, fun p hp => by rw [k _ (by omega)]; exact c.2.2.1 p hp, fun p hp => by rw [k _ (by omega)]; exact c.2.2.2.1 p hp, fun p hp => by rw [k _ (by omega)]; exact c.2.2.2.2 p hp⟩
theorem Kc.d {g g' : Nat → Nat} (k : Kc g g') : Kd g g' := fun j hj => k j (by omega)
theorem Fr.qs {F : Nat → Nat → Prop} {h h' : mjS} {q : Nat} (a : Fr F h h') (c : qSh h q) : qSh h' q := by
  unfold qSh at *
  simp only [a.K, a.R, a.N]
  exact c
theorem Fr.fs {F : Nat → Nat → Prop} {h h' : mjS} {f : Nat} (a : Fr F h h') (c : fSh h f) : fSh h' f := by
  unfold fSh at *
  simp only [a.K, a.R, a.N]
  exact c
/-- another number at a place that is no spider's place -/
theorem CQ.up {h : mjS} {q : Nat} {g : Nat → Nat} (c : CQ h q g) {o i j v : Nat} (t : Tb o i j) (h3 : o ≠ 3) (hv : v < 1048576) : CQ (pI h (q + o) i (nI v)) q (gup g j v) := by
  refine ⟨fun o' i' j' t' => ?_, fun s hs => ?_, ?_, fun k hk => ?_⟩
  · rw [mI_pI]
    unfold gup
    by_cases e : j' = j
    · rw [if_pos (by unfold Tb at t t'; omega), if_pos e]
    · rw [if_neg (by unfold Tb at t t'; omega), if_neg e]
      exact c.1 o' i' j' t'
  · rw [mI_pI, if_neg (by unfold Tb at t; omega), c.2.1 s hs]
    unfold whoI
    rw [gup_ne _ _ (by unfold Tb at t; omega), gup_ne _ _ (by unfold Tb at t; omega)]
  · rw [mI_pI, if_neg (by unfold Tb at t; omega), c.2.2.1]
    unfold msk
    rw [gup_ne _ _ (by unfold Tb at t; omega), gup_ne _ _ (by unfold Tb at t; omega), gup_ne _ _ (by unfold Tb at t; omega), gup_ne _ _ (by unfold Tb at t; omega), gup_ne _ _ (by unfold Tb at t; omega)]
  · unfold gup
    split
    · exact hv
    · exact c.2.2.2 k hk
/-- another place of a spider -/
theorem CQ.sp {h h' : mjS} {q s : Nat} {g g' : Nat → Nat} (c : CQ h q g) (h6 : s < 6) (hI : ∀ a k, ¬ (k = s ∧ (a = q + 3 ∨ a = q + 4 ∨ a = q + 5)) → mI h' a k = mI h a k) (h3 : mI h' (q + 3) s = nI (g' (47 + 8 * s))) (h4 : mI h' (q + 4) s = whoI g' s) (h5 : mI h' (q + 5) s = nI (g' (47 + 8 * s + 2))) (hg : ∀ j, j ≠ 47 + 8 * s → j ≠ 47 + 8 * s + 1 → j ≠ 47 + 8 * s + 2 → g' j = g j) (hb : ∀ k, k < 148 → g' k < 1048576) : CQ h' q g' := by
  refine ⟨fun o i j t => ?_, fun z hz => ?_, ?_, hb⟩
  · by_cases e1 : o = 3 ∧ i = s
    · obtain ⟨rfl, rfl⟩ := e1
      rw [h3, show j = 47 + 8 * i by unfold Tb at t; omega]
    · by_cases e2 : o = 5 ∧ i = s
      · obtain ⟨rfl, rfl⟩ := e2
        rw [h5, show j = 47 + 8 * i + 2 by unfold Tb at t; omega]
      · rw [hI _ _ (by unfold Tb at t; omega), hg j (by unfold Tb at t; omega) (by unfold Tb at t; omega) (by unfold Tb at t; omega)]
        exact c.1 o i j t
  · by_cases e : z = s
    · subst e; exact h4
    · rw [hI _ _ (by omega), c.2.1 z hz]
      unfold whoI
      rw [hg _ (by omega) (by omega) (by omega), hg _ (by omega) (by omega) (by omega)]
  · rw [hI _ _ (by omega), c.2.2.1]
    unfold msk
    rw [hg _ (by omega) (by omega) (by omega), hg _ (by omega) (by omega) (by omega), hg _ (by omega) (by omega) (by omega), hg _ (by omega) (by omega) (by omega), hg _ (by omega) (by omega) (by omega)]
