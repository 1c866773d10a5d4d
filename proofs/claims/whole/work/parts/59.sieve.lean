/-! the class's notes and sieve -/
/-- notes at a cell (168, or an image's) -/
def nSh (h : mjS) (o : Nat) : Prop := mK h o = 6 ∧ (mR h o 1 = o + 1 ∧ mK h (o + 1) = 20 ∧ mN h (o + 1) = 10) ∧ (mR h o 2 = o + 2 ∧ mK h (o + 2) = 20 ∧ mN h (o + 2) = 10) ∧ (mR h o 3 = o + 3 ∧ mK h (o + 3) = 20 ∧ mN h (o + 3) = 10)
theorem nSh.k {h : mjS} {o : Nat} (a : nSh h o) : mK h o = 6 := a.1
theorem nSh.r1 {h : mjS} {o : Nat} (a : nSh h o) : mR h o 1 = o + 1 := a.2.1.1
theorem nSh.k1 {h : mjS} {o : Nat} (a : nSh h o) : mK h (o + 1) = 20 := a.2.1.2.1
theorem nSh.n1 {h : mjS} {o : Nat} (a : nSh h o) : mN h (o + 1) = 10 := a.2.1.2.2
theorem nSh.r2 {h : mjS} {o : Nat} (a : nSh h o) : mR h o 2 = o + 2 := a.2.2.1.1
theorem nSh.k2 {h : mjS} {o : Nat} (a : nSh h o) : mK h (o + 2) = 20 := a.2.2.1.2.1
theorem nSh.n2 {h : mjS} {o : Nat} (a : nSh h o) : mN h (o + 2) = 10 := a.2.2.1.2.2
theorem nSh.r3 {h : mjS} {o : Nat} (a : nSh h o) : mR h o 3 = o + 3 := a.2.2.2.1
theorem nSh.k3 {h : mjS} {o : Nat} (a : nSh h o) : mK h (o + 3) = 20 := a.2.2.2.2.1
theorem nSh.n3 {h : mjS} {o : Nat} (a : nSh h o) : mN h (o + 3) = 10 := a.2.2.2.2.2
theorem nSh.ft {F : Nat → Nat → Prop} {h h' : mjS} {o : Nat} (a : Ft F h h') (c : nSh h o) : nSh h' o := by
  unfold nSh at *
  rw [a.R (by omega), a.R (by omega), a.R (by omega)]
  simp only [a.K, a.N]
  exact c
/-- what the notes are -/
def NT (h : mjS) (o : Nat) (g : Nat → Nat) : Prop := mI h o 0 = nI (g 147) ∧ ∀ i, i < g 147 → mI h (o + 1) i = nI (g (117 + 3 * i)) ∧ mI h (o + 2) i = nI (g (117 + 3 * i + 1)) ∧ mI h (o + 3) i = nI (g (117 + 3 * i + 2))
theorem NT.ft {F : Nat → Nat → Prop} {h h' : mjS} {o : Nat} {g : Nat → Nat} (a : Ft F h h') (hF : ∀ x k, o ≤ x → x < o + 4 → ¬ F x k) (c : NT h o g) : NT h' o g :=
  ⟨by rw [a.I (hF _ _ (by omega) (by omega))]; exact c.1, fun i hi => ⟨by rw [a.I (hF _ _ (by omega) (by omega))]; exact (c.2 i hi).1, by rw [a.I (hF _ _ (by omega) (by omega))]; exact (c.2 i hi).2.1, by rw [a.I (hF _ _ (by omega) (by omega))]; exact (c.2 i hi).2.2⟩⟩
theorem NT.cg {h : mjS} {o : Nat} {g g' : Nat → Nat} (ho : ∀ j, 117 ≤ j → j < 148 → g' j = g j) (h10 : g 147 ≤ 10) (c : NT h o g) : NT h o g' := by
  unfold NT
  rw [ho 147 (by omega) (by omega)]
  exact ⟨c.1, fun i hi => by rw [ho _ (by omega) (by omega), ho _ (by omega) (by omega), ho _ (by omega) (by omega)]; exact c.2 i hi⟩
/-- notes that can be -/
def Wn (g : Nat → Nat) : Prop := g 147 ≤ 10 ∧ ∀ i, i < g 147 → g (117 + 3 * i) ≤ 60 ∧ g (117 + 3 * i + 1) < g 2 ∧ g (117 + 3 * i + 2) ≤ 300
/-- the notes of a day are so, from one on -/
def ntB (g gt : Nat → Nat) : Nat → Nat → Bool
  | 0, _ => true
  | m + 1, i => if g (117 + 3 * i) = gt 10 ∧ five gt (12 + 5 * g (117 + 3 * i + 1)) ≠ g (117 + 3 * i + 2) then false else ntB g gt m (i + 1)
def nts (g gt : Nat → Nat) : Bool := ntB g gt (g 147) 0
/-- all notes are so on days of so many -/
def fitN (L : (Nat → Nat) → Nat → Bool) (g : Nat → Nat) : Nat → (Nat → Nat) → Bool
  | 0, _ => true
  | m + 1, gt => if nts g gt = true then fitN L g m (dayF L gt) else false
def mxN (g : Nat → Nat) : Nat → Nat
  | 0 => 0
  | i + 1 => if mxN g i < g (117 + 3 * i) then g (117 + 3 * i) else mxN g i
theorem mxN_ge (g : Nat → Nat) : ∀ n i, i < n → g (117 + 3 * i) ≤ mxN g n := by
  intro n
  induction n with
  | zero => intro i h; omega
  | succ n ih =>
    intro i hi
    show _ ≤ if mxN g n < g (117 + 3 * n) then g (117 + 3 * n) else mxN g n
    by_cases e : i = n
    · subst e; split <;> omega
    · have := ih i (by omega)
      split <;> omega
theorem mxN_le {g : Nat → Nat} : ∀ n, (∀ i, i < n → g (117 + 3 * i) ≤ 60) → mxN g n ≤ 60 := by
  intro n
  induction n with
  | zero => intro _; exact Nat.zero_le _
  | succ n ih =>
    intro h
    show (if mxN g n < g (117 + 3 * n) then g (117 + 3 * n) else mxN g n) ≤ 60
    have := ih (fun i hi => h i (by omega))
    have := h n (by omega)
    split <;> omega
theorem ntB_far {g gt : Nat → Nat} : ∀ m i, (∀ k, i ≤ k → k < i + m → g (117 + 3 * k) ≠ gt 10) → ntB g gt m i = true := by
  intro m
  induction m with
  | zero => intros; rfl
  | succ m ih =>
    intro i h
    show (if _ then false else ntB g gt m (i + 1)) = true
    rw [if_neg (fun z => h i (by omega) (by omega) z.1)]
    exact ih (i + 1) (fun k h1 h2 => h k (by omega) (by omega))
theorem nts_far {g gt : Nat → Nat} (h : mxN g (g 147) < gt 10) : nts g gt = true := ntB_far _ _ (fun k _ hk => by have := mxN_ge g (g 147) k (by omega); omega)
theorem fitN_far {L : (Nat → Nat) → Nat → Bool} {g : Nat → Nat} : ∀ m gt, Wg gt → mxN g (g 147) < gt 10 → fitN L g m gt = true := by
  intro m
  induction m with
  | zero => intros; rfl
  | succ m ih =>
    intro gt w h
    show (if nts g gt = true then fitN L g m (dayF L gt) else false) = true
    have kd := day_keeps (L := L) w
    rw [if_pos (nts_far h)]
    exact ih _ kd.1 (by rw [kd.2.2]; omega)
/-- days behind the last note add nothing -/
theorem fitN_more {L : (Nat → Nat) → Nat → Bool} {g : Nat → Nat} (d : Nat) : ∀ m gt, Wg gt → mxN g (g 147) < gt 10 + m → fitN L g (m + d) gt = fitN L g m gt := by
  intro m
  induction m with
  | zero => intro gt w h; rw [Nat.zero_add]; exact fitN_far d gt w h
  | succ m ih =>
    intro gt w h
    have kd := day_keeps (L := L) w
    rw [show m + 1 + d = (m + d) + 1 by omega]
    show (if nts g gt = true then fitN L g (m + d) (dayF L gt) else false) = if nts g gt = true then fitN L g m (dayF L gt) else false
    rw [ih (dayF L gt) kd.1 (by rw [kd.2.2]; omega)]
/-- candidates: none, then the rules -/
def cR (rs : Nat → rul) (c : Nat) : Option rul := match c with
  | 0 => none
  | c + 1 => some (rs c)
def fitC (rs : Nat → rul) (g : Nat → Nat) (c : Nat) : Bool := fitN (Lo (cR rs c)) g 61 (begF g)
def seeC (rs : Nat → rul) (g : Nat → Nat) (d c p : Nat) : Nat := five (days (Lo (cR rs c)) d (begF g)) (12 + 5 * p)
/-- how many fit -/
def hmP (F : Nat → Bool) : Nat → Nat
  | 0 => 0
  | c + 1 => hmP F c + if F c = true then 1 else 0
def fsU (F : Nat → Bool) : Nat → Nat → Option Nat
  | 0, _ => none
  | m + 1, c => if F c = true then some c else fsU F m (c + 1)
def alC (F : Nat → Bool) (v : Nat → Nat → Nat) (p c : Nat) : Nat → Nat
  | 0 => 0
  | d + 1 => alC F v p c d + if F c = true ∧ F d = true ∧ v c p = v d p then 1 else 0
def maC (F : Nat → Bool) (v : Nat → Nat → Nat) (p n : Nat) : Nat → Nat
  | 0 => 0
  | c + 1 => if maC F v p n c < alC F v p c n then alC F v p c n else maC F v p n c
def bpP (F : Nat → Bool) (v : Nat → Nat → Nat) (n : Nat) : Nat → Nat → Option (Nat × Nat) → Option (Nat × Nat)
  | 0, _, o => o
  | m + 1, p, none => bpP F v n m (p + 1) (some (p, maC F v p n n))
  | m + 1, p, some (b, a) => if maC F v p n n < a then bpP F v n m (p + 1) (some (p, maC F v p n n)) else bpP F v n m (p + 1) (some (b, a))
def ruA (F : Nat → Bool) (n x : Nat) : Int32 := if x = 0 then nI (hmP F n) else match fsU F n 0 with
  | none => -2
  | some c => nI c - 1
def loA (F : Nat → Bool) (v : Nat → Nat → Nat) (n ppl x : Nat) : Int32 := if hmP F n = 0 then -2 else match bpP F v n ppl 0 none with
  | none => -2
  | some (b, a) => if x = 0 then nI b else nI a
/-- the sieve -/
def zSh (h : mjS) : Prop := (mK h 233 = 9 ∧ mR h 233 0 = 236 ∧ mR h 233 1 = 234 ∧ mR h 233 2 = 235) ∧ (mK h 234 = 22 ∧ mN h 234 = 7 ∧ mK h 235 = 20 ∧ mN h 235 = 35) ∧ qSh h 236 ∧ mK h 13 = 24 ∧ mN h 13 = 6
theorem zSh.k {h : mjS} (a : zSh h) : mK h 233 = 9 := a.1.1
theorem zSh.r0 {h : mjS} (a : zSh h) : mR h 233 0 = 236 := a.1.2.1
theorem zSh.r1 {h : mjS} (a : zSh h) : mR h 233 1 = 234 := a.1.2.2.1
theorem zSh.r2 {h : mjS} (a : zSh h) : mR h 233 2 = 235 := a.1.2.2.2
theorem zSh.k1 {h : mjS} (a : zSh h) : mK h 234 = 22 := a.2.1.1
theorem zSh.n1 {h : mjS} (a : zSh h) : mN h 234 = 7 := a.2.1.2.1
theorem zSh.k2 {h : mjS} (a : zSh h) : mK h 235 = 20 := a.2.1.2.2.1
theorem zSh.n2 {h : mjS} (a : zSh h) : mN h 235 = 35 := a.2.1.2.2.2
theorem zSh.q {h : mjS} (a : zSh h) : qSh h 236 := a.2.2.1
theorem zSh.kr {h : mjS} (a : zSh h) : mK h 13 = 24 := a.2.2.2.1
theorem zSh.nr {h : mjS} (a : zSh h) : mN h 13 = 6 := a.2.2.2.2
/-- the sieve's cells, and stacks of rules -/
abbrev FZ (h : mjS) (a k : Nat) : Prop := (233 ≤ a ∧ a < 243 ∧ (a = 233 → 3 ≤ k)) ∨ a = 2 ∨ (264 ≤ a ∧ mK h a = 23)
theorem zSh.ft {F : Nat → Nat → Prop} {h h' : mjS} (a : Ft F h h') (hF : ¬ F 233 0) (s : zSh h) : zSh h' := by
  refine ⟨⟨?_, ?_, ?_, ?_⟩, ?_, a.qs s.q, ?_, ?_⟩
  · rw [a.K]; exact s.k
  · rw [a.R (fun z => hF z.1)]; exact s.r0
  · rw [a.R (by omega)]; exact s.r1
  · rw [a.R (by omega)]; exact s.r2
  · simp only [a.K, a.N]; exact s.2.1
  · rw [a.K]; exact s.kr
  · rw [a.N]; exact s.nr
/-- what the sieve looks at: the field, the notes, the rules -/
def Cz (h : mjS) (f : Nat) (g : Nat → Nat) (n : Nat) (rs : Nat → rul) : Prop := (zSh h ∧ nSh h 168 ∧ NT h 168 g ∧ fSh h f ∧ CF h f g ∧ (f = 14 ∨ 264 ≤ f)) ∧ ∀ i, i < n → 264 ≤ mR h 13 i ∧ RU h (mR h 13 i) (rs i)
def rlC (h : mjS) (c : Nat) : Nat := match c with
  | 0 => 0
  | c + 1 => mR h 13 c
theorem Cz.ro {h : mjS} {f n : Nat} {g : Nat → Nat} {rs : Nat → rul} (z : Cz h f g n rs) {c : Nat} (hc : c ≤ n) : RO h (rlC h c) (cR rs c) := by
  cases c with
  | zero => exact Or.inl ⟨rfl, rfl⟩
  | succ c => exact Or.inr ⟨(z.2 c (by omega)).1, rs c, rfl, (z.2 c (by omega)).2⟩
theorem Cz.ft {h h' : mjS} {f n : Nat} {g : Nat → Nat} {rs : Nat → rul} (hn : n ≤ 6) (a : Ft (FZ h) h h') (z : Cz h f g n rs) : Cz h' f g n rs ∧ (∀ c, c ≤ n → rlC h' c = rlC h c) := by
  obtain ⟨⟨z1, z2, z3, z4, z5, z6⟩, z7⟩ := z
  have hr : ∀ i, mR h' 13 i = mR h 13 i := fun i => a.R (by unfold FZ; omega)
  refine ⟨⟨⟨z1.ft a (by unfold FZ; omega), z2.ft a, z3.ft a (fun x k h1 h2 => by unfold FZ; omega), a.fs z4, z5.ft a (fun x k h1 h2 => ?_), z6⟩, fun i hi => ?_⟩, fun c hc => ?_⟩
  · have := fSh_kind z4 h1 h2
    unfold FZ
    omega
  · rw [hr]
    obtain ⟨y1, y2⟩ := z7 i hi
    refine ⟨y1, y2.ft a (fun k => ?_) (fun k => ?_)⟩
    · have := y2.2.1.1
      unfold FZ
      omega
    · have := y2.1.2.1
      unfold FZ
      omega
  · cases c with
    | zero => rfl
    | succ c => exact hr c
section CZ
variable {ev : mjT} {lv : Nat} {h : mjS} {g gt : Nat → Nat} {f n : Nat} {rs : Nat → rul}
theorem sp_agree (E : mjFix ev) {q : Nat} (ns : nSh h 168) (nt : NT h 168 g) (wn : Wn g) (h25 : g 2 ≤ 5) (cs : CS h q f gt) (hd : gt 10 ≤ 10000) : mjCall ev 28 lv [.ref 168, .ref q] h = some (.int (if nts g gt = true then 1 else 0), h) := by
  have hq := cs.1.1
  have dd := cs.2.2.day
  have at_ : ∀ m i, i + m = g 147 → ev 28 lv 2 [.ref 168, .ref q, .int (nI i)] [] h = some (.int (if ntB g gt m i = true then 1 else 0), h) := by
    intro m
    induction m with
    | zero =>
      intro i hi
      rw [e_28_2 E]
      show _ = some (Value.int 1, h)
      have := wn.1
      repeat (first | (apply ifT; focus ((try simp (disch := omega) only [ns.k, nt.1, ofNat_nI, i_lit, mI_pI, mK_pI, mN_pI, mR_pI, nI_ltI, nI_eq, nI_add, nI_mul, mjIn_nI, nI_clamp, neg1_lt0, if_pos, if_neg, if_true, if_false, Bool.false_eq_true, and_true, true_and, and_false, false_and, mI_pL, mK_pL, mN_pL, mR_pL, mL_pL, mL_pI, mI_pR, mL_pR, mK_pR, mN_pR, mR_pR, mI_pC, mL_pC, mK_pC, mN_pC, mR_pC]) <;> first | omega | decide)) | (apply ifF; focus ((try simp (disch := omega) only [ns.k, nt.1, ofNat_nI, i_lit, mI_pI, mK_pI, mN_pI, mR_pI, nI_ltI, nI_eq, nI_add, nI_mul, mjIn_nI, nI_clamp, neg1_lt0, if_pos, if_neg, if_true, if_false, Bool.false_eq_true, and_true, true_and, and_false, false_and, mI_pL, mK_pL, mN_pL, mR_pL, mL_pL, mL_pI, mI_pR, mL_pR, mK_pR, mN_pR, mR_pR, mI_pC, mL_pC, mK_pC, mN_pC, mR_pC]) <;> first | omega | decide)) | (apply stI; focus ((try simp (disch := omega) only [ns.k, nt.1, ofNat_nI, i_lit, mI_pI, mK_pI, mN_pI, mR_pI, nI_ltI, nI_eq, nI_add, nI_mul, mjIn_nI, nI_clamp, neg1_lt0, if_pos, if_neg, if_true, if_false, Bool.false_eq_true, and_true, true_and, and_false, false_and, mI_pL, mK_pL, mN_pL, mR_pL, mL_pL, mL_pI, mI_pR, mL_pR, mK_pR, mN_pR, mR_pR, mI_pC, mL_pC, mK_pC, mN_pC, mR_pC]) <;> rfl)) | (apply stV; focus ((try simp (disch := omega) only [ns.k, nt.1, ofNat_nI, i_lit, mI_pI, mK_pI, mN_pI, mR_pI, nI_ltI, nI_eq, nI_add, nI_mul, mjIn_nI, nI_clamp, neg1_lt0, if_pos, if_neg, if_true, if_false, Bool.false_eq_true, and_true, true_and, and_false, false_and, mI_pL, mK_pL, mN_pL, mR_pL, mL_pL, mL_pI, mI_pR, mL_pR, mK_pR, mN_pR, mR_pR, mI_pC, mL_pC, mK_pC, mN_pC, mR_pC]) <;> rfl)) | (apply stL; focus ((try simp (disch := omega) only [ns.k, nt.1, ofNat_nI, i_lit, mI_pI, mK_pI, mN_pI, mR_pI, nI_ltI, nI_eq, nI_add, nI_mul, mjIn_nI, nI_clamp, neg1_lt0, if_pos, if_neg, if_true, if_false, Bool.false_eq_true, and_true, true_and, and_false, false_and, mI_pL, mK_pL, mN_pL, mR_pL, mL_pL, mL_pI, mI_pR, mL_pR, mK_pR, mN_pR, mR_pR, mI_pC, mL_pC, mK_pC, mN_pC, mR_pC]) <;> rfl)) | (apply stA; focus ((try simp (disch := omega) only [ns.k, nt.1, ofNat_nI, i_lit, mI_pI, mK_pI, mN_pI, mR_pI, nI_ltI, nI_eq, nI_add, nI_mul, mjIn_nI, nI_clamp, neg1_lt0, if_pos, if_neg, if_true, if_false, Bool.false_eq_true, and_true, true_and, and_false, false_and, mI_pL, mK_pL, mN_pL, mR_pL, mL_pL, mL_pI, mI_pR, mL_pR, mK_pR, mN_pR, mR_pR, mI_pC, mL_pC, mK_pC, mN_pC, mR_pC]) <;> rfl)))
      try simp (disch := omega) only [ns.k, nt.1, ofNat_nI, i_lit, mI_pI, mK_pI, mN_pI, mR_pI, nI_ltI, nI_eq, nI_add, nI_mul, mjIn_nI, nI_clamp, neg1_lt0, if_pos, if_neg, if_true, if_false, Bool.false_eq_true, and_true, true_and, and_false, false_and, mI_pL, mK_pL, mN_pL, mR_pL, mL_pL, mL_pI, mI_pR, mL_pR, mK_pR, mN_pR, mR_pR, mI_pC, mL_pC, mK_pC, mN_pC, mR_pC]
    | succ m ih =>
      intro i hi
      have w1 := wn.1
      have w2 := wn.2 i (by omega)
      obtain ⟨n1, n2, n3⟩ := nt.2 i (by omega)
      have e52 := cs_pieces (lv := lv) E cs (show g (117 + 3 * i + 1) < 5 by omega)
      have bl := cs.2.2.five_lt (a := 12 + 5 * g (117 + 3 * i + 1)) (by omega)
      by_cases z1 : g (117 + 3 * i) = gt 10
      · by_cases z2 : five gt (12 + 5 * g (117 + 3 * i + 1)) = g (117 + 3 * i + 2)
        · rw [show ntB g gt (m + 1) i = ntB g gt m (i + 1) by show (if _ then _ else _) = _; rw [if_neg (fun y => y.2 z2)], ← ih (i + 1) (by omega), e_28_2 E]
          repeat (first | (apply ifT; focus ((try simp (disch := omega) only [ns.k, nt.1, ns.r1, ns.k1, ns.n1, n1, hq.k, dd, z1, ns.r2, ns.k2, ns.n2, n2, e52, ns.r3, ns.k3, ns.n3, n3, z2, ofNat_nI, i_lit, mI_pI, mK_pI, mN_pI, mR_pI, nI_ltI, nI_eq, nI_add, nI_mul, mjIn_nI, nI_clamp, neg1_lt0, if_pos, if_neg, if_true, if_false, Bool.false_eq_true, and_true, true_and, and_false, false_and, mI_pL, mK_pL, mN_pL, mR_pL, mL_pL, mL_pI, mI_pR, mL_pR, mK_pR, mN_pR, mR_pR, mI_pC, mL_pC, mK_pC, mN_pC, mR_pC]) <;> first | omega | decide)) | (apply ifF; focus ((try simp (disch := omega) only [ns.k, nt.1, ns.r1, ns.k1, ns.n1, n1, hq.k, dd, z1, ns.r2, ns.k2, ns.n2, n2, e52, ns.r3, ns.k3, ns.n3, n3, z2, ofNat_nI, i_lit, mI_pI, mK_pI, mN_pI, mR_pI, nI_ltI, nI_eq, nI_add, nI_mul, mjIn_nI, nI_clamp, neg1_lt0, if_pos, if_neg, if_true, if_false, Bool.false_eq_true, and_true, true_and, and_false, false_and, mI_pL, mK_pL, mN_pL, mR_pL, mL_pL, mL_pI, mI_pR, mL_pR, mK_pR, mN_pR, mR_pR, mI_pC, mL_pC, mK_pC, mN_pC, mR_pC]) <;> first | omega | decide)) | (apply stI; focus ((try simp (disch := omega) only [ns.k, nt.1, ns.r1, ns.k1, ns.n1, n1, hq.k, dd, z1, ns.r2, ns.k2, ns.n2, n2, e52, ns.r3, ns.k3, ns.n3, n3, z2, ofNat_nI, i_lit, mI_pI, mK_pI, mN_pI, mR_pI, nI_ltI, nI_eq, nI_add, nI_mul, mjIn_nI, nI_clamp, neg1_lt0, if_pos, if_neg, if_true, if_false, Bool.false_eq_true, and_true, true_and, and_false, false_and, mI_pL, mK_pL, mN_pL, mR_pL, mL_pL, mL_pI, mI_pR, mL_pR, mK_pR, mN_pR, mR_pR, mI_pC, mL_pC, mK_pC, mN_pC, mR_pC]) <;> rfl)) | (apply stV; focus ((try simp (disch := omega) only [ns.k, nt.1, ns.r1, ns.k1, ns.n1, n1, hq.k, dd, z1, ns.r2, ns.k2, ns.n2, n2, e52, ns.r3, ns.k3, ns.n3, n3, z2, ofNat_nI, i_lit, mI_pI, mK_pI, mN_pI, mR_pI, nI_ltI, nI_eq, nI_add, nI_mul, mjIn_nI, nI_clamp, neg1_lt0, if_pos, if_neg, if_true, if_false, Bool.false_eq_true, and_true, true_and, and_false, false_and, mI_pL, mK_pL, mN_pL, mR_pL, mL_pL, mL_pI, mI_pR, mL_pR, mK_pR, mN_pR, mR_pR, mI_pC, mL_pC, mK_pC, mN_pC, mR_pC]) <;> rfl)) | (apply stL; focus ((try simp (disch := omega) only [ns.k, nt.1, ns.r1, ns.k1, ns.n1, n1, hq.k, dd, z1, ns.r2, ns.k2, ns.n2, n2, e52, ns.r3, ns.k3, ns.n3, n3, z2, ofNat_nI, i_lit, mI_pI, mK_pI, mN_pI, mR_pI, nI_ltI, nI_eq, nI_add, nI_mul, mjIn_nI, nI_clamp, neg1_lt0, if_pos, if_neg, if_true, if_false, Bool.false_eq_true, and_true, true_and, and_false, false_and, mI_pL, mK_pL, mN_pL, mR_pL, mL_pL, mL_pI, mI_pR, mL_pR, mK_pR, mN_pR, mR_pR, mI_pC, mL_pC, mK_pC, mN_pC, mR_pC]) <;> rfl)) | (apply stA; focus ((try simp (disch := omega) only [ns.k, nt.1, ns.r1, ns.k1, ns.n1, n1, hq.k, dd, z1, ns.r2, ns.k2, ns.n2, n2, e52, ns.r3, ns.k3, ns.n3, n3, z2, ofNat_nI, i_lit, mI_pI, mK_pI, mN_pI, mR_pI, nI_ltI, nI_eq, nI_add, nI_mul, mjIn_nI, nI_clamp, neg1_lt0, if_pos, if_neg, if_true, if_false, Bool.false_eq_true, and_true, true_and, and_false, false_and, mI_pL, mK_pL, mN_pL, mR_pL, mL_pL, mL_pI, mI_pR, mL_pR, mK_pR, mN_pR, mR_pR, mI_pC, mL_pC, mK_pC, mN_pC, mR_pC]) <;> rfl)))
          try simp (disch := omega) only [ns.k, nt.1, ns.r1, ns.k1, ns.n1, n1, hq.k, dd, z1, ns.r2, ns.k2, ns.n2, n2, e52, ns.r3, ns.k3, ns.n3, n3, z2, ofNat_nI, i_lit, mI_pI, mK_pI, mN_pI, mR_pI, nI_ltI, nI_eq, nI_add, nI_mul, mjIn_nI, nI_clamp, neg1_lt0, if_pos, if_neg, if_true, if_false, Bool.false_eq_true, and_true, true_and, and_false, false_and, mI_pL, mK_pL, mN_pL, mR_pL, mL_pL, mL_pI, mI_pR, mL_pR, mK_pR, mN_pR, mR_pR, mI_pC, mL_pC, mK_pC, mN_pC, mR_pC]
        · rw [show ntB g gt (m + 1) i = false by show (if _ then _ else _) = _; rw [if_pos ⟨z1, z2⟩], e_28_2 E]
          show _ = some (Value.int 0, h)
          repeat (first | (apply ifT; focus ((try simp (disch := omega) only [ns.k, nt.1, ns.r1, ns.k1, ns.n1, n1, hq.k, dd, z1, ns.r2, ns.k2, ns.n2, n2, e52, ns.r3, ns.k3, ns.n3, n3, ofNat_nI, i_lit, mI_pI, mK_pI, mN_pI, mR_pI, nI_ltI, nI_eq, nI_add, nI_mul, mjIn_nI, nI_clamp, neg1_lt0, if_pos, if_neg, if_true, if_false, Bool.false_eq_true, and_true, true_and, and_false, false_and, mI_pL, mK_pL, mN_pL, mR_pL, mL_pL, mL_pI, mI_pR, mL_pR, mK_pR, mN_pR, mR_pR, mI_pC, mL_pC, mK_pC, mN_pC, mR_pC]) <;> first | omega | decide)) | (apply ifF; focus ((try simp (disch := omega) only [ns.k, nt.1, ns.r1, ns.k1, ns.n1, n1, hq.k, dd, z1, ns.r2, ns.k2, ns.n2, n2, e52, ns.r3, ns.k3, ns.n3, n3, ofNat_nI, i_lit, mI_pI, mK_pI, mN_pI, mR_pI, nI_ltI, nI_eq, nI_add, nI_mul, mjIn_nI, nI_clamp, neg1_lt0, if_pos, if_neg, if_true, if_false, Bool.false_eq_true, and_true, true_and, and_false, false_and, mI_pL, mK_pL, mN_pL, mR_pL, mL_pL, mL_pI, mI_pR, mL_pR, mK_pR, mN_pR, mR_pR, mI_pC, mL_pC, mK_pC, mN_pC, mR_pC]) <;> first | omega | decide)) | (apply stI; focus ((try simp (disch := omega) only [ns.k, nt.1, ns.r1, ns.k1, ns.n1, n1, hq.k, dd, z1, ns.r2, ns.k2, ns.n2, n2, e52, ns.r3, ns.k3, ns.n3, n3, ofNat_nI, i_lit, mI_pI, mK_pI, mN_pI, mR_pI, nI_ltI, nI_eq, nI_add, nI_mul, mjIn_nI, nI_clamp, neg1_lt0, if_pos, if_neg, if_true, if_false, Bool.false_eq_true, and_true, true_and, and_false, false_and, mI_pL, mK_pL, mN_pL, mR_pL, mL_pL, mL_pI, mI_pR, mL_pR, mK_pR, mN_pR, mR_pR, mI_pC, mL_pC, mK_pC, mN_pC, mR_pC]) <;> rfl)) | (apply stV; focus ((try simp (disch := omega) only [ns.k, nt.1, ns.r1, ns.k1, ns.n1, n1, hq.k, dd, z1, ns.r2, ns.k2, ns.n2, n2, e52, ns.r3, ns.k3, ns.n3, n3, ofNat_nI, i_lit, mI_pI, mK_pI, mN_pI, mR_pI, nI_ltI, nI_eq, nI_add, nI_mul, mjIn_nI, nI_clamp, neg1_lt0, if_pos, if_neg, if_true, if_false, Bool.false_eq_true, and_true, true_and, and_false, false_and, mI_pL, mK_pL, mN_pL, mR_pL, mL_pL, mL_pI, mI_pR, mL_pR, mK_pR, mN_pR, mR_pR, mI_pC, mL_pC, mK_pC, mN_pC, mR_pC]) <;> rfl)) | (apply stL; focus ((try simp (disch := omega) only [ns.k, nt.1, ns.r1, ns.k1, ns.n1, n1, hq.k, dd, z1, ns.r2, ns.k2, ns.n2, n2, e52, ns.r3, ns.k3, ns.n3, n3, ofNat_nI, i_lit, mI_pI, mK_pI, mN_pI, mR_pI, nI_ltI, nI_eq, nI_add, nI_mul, mjIn_nI, nI_clamp, neg1_lt0, if_pos, if_neg, if_true, if_false, Bool.false_eq_true, and_true, true_and, and_false, false_and, mI_pL, mK_pL, mN_pL, mR_pL, mL_pL, mL_pI, mI_pR, mL_pR, mK_pR, mN_pR, mR_pR, mI_pC, mL_pC, mK_pC, mN_pC, mR_pC]) <;> rfl)) | (apply stA; focus ((try simp (disch := omega) only [ns.k, nt.1, ns.r1, ns.k1, ns.n1, n1, hq.k, dd, z1, ns.r2, ns.k2, ns.n2, n2, e52, ns.r3, ns.k3, ns.n3, n3, ofNat_nI, i_lit, mI_pI, mK_pI, mN_pI, mR_pI, nI_ltI, nI_eq, nI_add, nI_mul, mjIn_nI, nI_clamp, neg1_lt0, if_pos, if_neg, if_true, if_false, Bool.false_eq_true, and_true, true_and, and_false, false_and, mI_pL, mK_pL, mN_pL, mR_pL, mL_pL, mL_pI, mI_pR, mL_pR, mK_pR, mN_pR, mR_pR, mI_pC, mL_pC, mK_pC, mN_pC, mR_pC]) <;> rfl)))
          try simp (disch := omega) only [ns.k, nt.1, ns.r1, ns.k1, ns.n1, n1, hq.k, dd, z1, ns.r2, ns.k2, ns.n2, n2, e52, ns.r3, ns.k3, ns.n3, n3, ofNat_nI, i_lit, mI_pI, mK_pI, mN_pI, mR_pI, nI_ltI, nI_eq, nI_add, nI_mul, mjIn_nI, nI_clamp, neg1_lt0, if_pos, if_neg, if_true, if_false, Bool.false_eq_true, and_true, true_and, and_false, false_and, mI_pL, mK_pL, mN_pL, mR_pL, mL_pL, mL_pI, mI_pR, mL_pR, mK_pR, mN_pR, mR_pR, mI_pC, mL_pC, mK_pC, mN_pC, mR_pC]
      · rw [show ntB g gt (m + 1) i = ntB g gt m (i + 1) by show (if _ then _ else _) = _; rw [if_neg (fun y => z1 y.1)], ← ih (i + 1) (by omega), e_28_2 E]
        repeat (first | (apply ifT; focus ((try simp (disch := omega) only [ns.k, nt.1, ns.r1, ns.k1, ns.n1, n1, hq.k, dd, ofNat_nI, i_lit, mI_pI, mK_pI, mN_pI, mR_pI, nI_ltI, nI_eq, nI_add, nI_mul, mjIn_nI, nI_clamp, neg1_lt0, if_pos, if_neg, if_true, if_false, Bool.false_eq_true, and_true, true_and, and_false, false_and, mI_pL, mK_pL, mN_pL, mR_pL, mL_pL, mL_pI, mI_pR, mL_pR, mK_pR, mN_pR, mR_pR, mI_pC, mL_pC, mK_pC, mN_pC, mR_pC]) <;> first | omega | decide)) | (apply ifF; focus ((try simp (disch := omega) only [ns.k, nt.1, ns.r1, ns.k1, ns.n1, n1, hq.k, dd, ofNat_nI, i_lit, mI_pI, mK_pI, mN_pI, mR_pI, nI_ltI, nI_eq, nI_add, nI_mul, mjIn_nI, nI_clamp, neg1_lt0, if_pos, if_neg, if_true, if_false, Bool.false_eq_true, and_true, true_and, and_false, false_and, mI_pL, mK_pL, mN_pL, mR_pL, mL_pL, mL_pI, mI_pR, mL_pR, mK_pR, mN_pR, mR_pR, mI_pC, mL_pC, mK_pC, mN_pC, mR_pC]) <;> first | omega | decide)) | (apply stI; focus ((try simp (disch := omega) only [ns.k, nt.1, ns.r1, ns.k1, ns.n1, n1, hq.k, dd, ofNat_nI, i_lit, mI_pI, mK_pI, mN_pI, mR_pI, nI_ltI, nI_eq, nI_add, nI_mul, mjIn_nI, nI_clamp, neg1_lt0, if_pos, if_neg, if_true, if_false, Bool.false_eq_true, and_true, true_and, and_false, false_and, mI_pL, mK_pL, mN_pL, mR_pL, mL_pL, mL_pI, mI_pR, mL_pR, mK_pR, mN_pR, mR_pR, mI_pC, mL_pC, mK_pC, mN_pC, mR_pC]) <;> rfl)) | (apply stV; focus ((try simp (disch := omega) only [ns.k, nt.1, ns.r1, ns.k1, ns.n1, n1, hq.k, dd, ofNat_nI, i_lit, mI_pI, mK_pI, mN_pI, mR_pI, nI_ltI, nI_eq, nI_add, nI_mul, mjIn_nI, nI_clamp, neg1_lt0, if_pos, if_neg, if_true, if_false, Bool.false_eq_true, and_true, true_and, and_false, false_and, mI_pL, mK_pL, mN_pL, mR_pL, mL_pL, mL_pI, mI_pR, mL_pR, mK_pR, mN_pR, mR_pR, mI_pC, mL_pC, mK_pC, mN_pC, mR_pC]) <;> rfl)) | (apply stL; focus ((try simp (disch := omega) only [ns.k, nt.1, ns.r1, ns.k1, ns.n1, n1, hq.k, dd, ofNat_nI, i_lit, mI_pI, mK_pI, mN_pI, mR_pI, nI_ltI, nI_eq, nI_add, nI_mul, mjIn_nI, nI_clamp, neg1_lt0, if_pos, if_neg, if_true, if_false, Bool.false_eq_true, and_true, true_and, and_false, false_and, mI_pL, mK_pL, mN_pL, mR_pL, mL_pL, mL_pI, mI_pR, mL_pR, mK_pR, mN_pR, mR_pR, mI_pC, mL_pC, mK_pC, mN_pC, mR_pC]) <;> rfl)) | (apply stA; focus ((try simp (disch := omega) only [ns.k, nt.1, ns.r1, ns.k1, ns.n1, n1, hq.k, dd, ofNat_nI, i_lit, mI_pI, mK_pI, mN_pI, mR_pI, nI_ltI, nI_eq, nI_add, nI_mul, mjIn_nI, nI_clamp, neg1_lt0, if_pos, if_neg, if_true, if_false, Bool.false_eq_true, and_true, true_and, and_false, false_and, mI_pL, mK_pL, mN_pL, mR_pL, mL_pL, mL_pI, mI_pR, mL_pR, mK_pR, mN_pR, mR_pR, mI_pC, mL_pC, mK_pC, mN_pC, mR_pC]) <;> rfl)))
        try simp (disch := omega) only [ns.k, nt.1, ns.r1, ns.k1, ns.n1, n1, hq.k, dd, ofNat_nI, i_lit, mI_pI, mK_pI, mN_pI, mR_pI, nI_ltI, nI_eq, nI_add, nI_mul, mjIn_nI, nI_clamp, neg1_lt0, if_pos, if_neg, if_true, if_false, Bool.false_eq_true, and_true, true_and, and_false, false_and, mI_pL, mK_pL, mN_pL, mR_pL, mL_pL, mL_pI, mI_pR, mL_pR, mK_pR, mN_pR, mR_pR, mI_pC, mL_pC, mK_pC, mN_pC, mR_pC]
  show ev 28 lv 0 [.ref 168, .ref q, mjD] [] h = _
  rw [e_28_0 E]
  exact at_ (g 147) 0 (by omega)
theorem sp_lastDay (E : mjFix ev) (ns : nSh h 168) (nt : NT h 168 g) (wn : Wn g) : mjCall ev 29 lv [.ref 168] h = some (.int (nI (mxN g (g 147))), h) := by
  have at_ : ∀ m i, i + m = g 147 → ev 29 lv 4 [.ref 168, .int (nI (mxN g i)), .int (nI i)] [] h = some (.int (nI (mxN g (g 147))), h) := by
    intro m
    induction m with
    | zero =>
      intro i hi
      have := wn.1
      rw [e_29_4 E, show i = g 147 by omega]
      repeat (first | (apply ifT; focus ((try simp (disch := omega) only [ns.k, nt.1, ofNat_nI, i_lit, mI_pI, mK_pI, mN_pI, mR_pI, nI_ltI, nI_eq, nI_add, nI_mul, mjIn_nI, nI_clamp, neg1_lt0, if_pos, if_neg, if_true, if_false, Bool.false_eq_true, and_true, true_and, and_false, false_and, mI_pL, mK_pL, mN_pL, mR_pL, mL_pL, mL_pI, mI_pR, mL_pR, mK_pR, mN_pR, mR_pR, mI_pC, mL_pC, mK_pC, mN_pC, mR_pC]) <;> first | omega | decide)) | (apply ifF; focus ((try simp (disch := omega) only [ns.k, nt.1, ofNat_nI, i_lit, mI_pI, mK_pI, mN_pI, mR_pI, nI_ltI, nI_eq, nI_add, nI_mul, mjIn_nI, nI_clamp, neg1_lt0, if_pos, if_neg, if_true, if_false, Bool.false_eq_true, and_true, true_and, and_false, false_and, mI_pL, mK_pL, mN_pL, mR_pL, mL_pL, mL_pI, mI_pR, mL_pR, mK_pR, mN_pR, mR_pR, mI_pC, mL_pC, mK_pC, mN_pC, mR_pC]) <;> first | omega | decide)) | (apply stI; focus ((try simp (disch := omega) only [ns.k, nt.1, ofNat_nI, i_lit, mI_pI, mK_pI, mN_pI, mR_pI, nI_ltI, nI_eq, nI_add, nI_mul, mjIn_nI, nI_clamp, neg1_lt0, if_pos, if_neg, if_true, if_false, Bool.false_eq_true, and_true, true_and, and_false, false_and, mI_pL, mK_pL, mN_pL, mR_pL, mL_pL, mL_pI, mI_pR, mL_pR, mK_pR, mN_pR, mR_pR, mI_pC, mL_pC, mK_pC, mN_pC, mR_pC]) <;> rfl)) | (apply stV; focus ((try simp (disch := omega) only [ns.k, nt.1, ofNat_nI, i_lit, mI_pI, mK_pI, mN_pI, mR_pI, nI_ltI, nI_eq, nI_add, nI_mul, mjIn_nI, nI_clamp, neg1_lt0, if_pos, if_neg, if_true, if_false, Bool.false_eq_true, and_true, true_and, and_false, false_and, mI_pL, mK_pL, mN_pL, mR_pL, mL_pL, mL_pI, mI_pR, mL_pR, mK_pR, mN_pR, mR_pR, mI_pC, mL_pC, mK_pC, mN_pC, mR_pC]) <;> rfl)) | (apply stL; focus ((try simp (disch := omega) only [ns.k, nt.1, ofNat_nI, i_lit, mI_pI, mK_pI, mN_pI, mR_pI, nI_ltI, nI_eq, nI_add, nI_mul, mjIn_nI, nI_clamp, neg1_lt0, if_pos, if_neg, if_true, if_false, Bool.false_eq_true, and_true, true_and, and_false, false_and, mI_pL, mK_pL, mN_pL, mR_pL, mL_pL, mL_pI, mI_pR, mL_pR, mK_pR, mN_pR, mR_pR, mI_pC, mL_pC, mK_pC, mN_pC, mR_pC]) <;> rfl)) | (apply stA; focus ((try simp (disch := omega) only [ns.k, nt.1, ofNat_nI, i_lit, mI_pI, mK_pI, mN_pI, mR_pI, nI_ltI, nI_eq, nI_add, nI_mul, mjIn_nI, nI_clamp, neg1_lt0, if_pos, if_neg, if_true, if_false, Bool.false_eq_true, and_true, true_and, and_false, false_and, mI_pL, mK_pL, mN_pL, mR_pL, mL_pL, mL_pI, mI_pR, mL_pR, mK_pR, mN_pR, mR_pR, mI_pC, mL_pC, mK_pC, mN_pC, mR_pC]) <;> rfl)))
      try simp (disch := omega) only [ns.k, nt.1, ofNat_nI, i_lit, mI_pI, mK_pI, mN_pI, mR_pI, nI_ltI, nI_eq, nI_add, nI_mul, mjIn_nI, nI_clamp, neg1_lt0, if_pos, if_neg, if_true, if_false, Bool.false_eq_true, and_true, true_and, and_false, false_and, mI_pL, mK_pL, mN_pL, mR_pL, mL_pL, mL_pI, mI_pR, mL_pR, mK_pR, mN_pR, mR_pR, mI_pC, mL_pC, mK_pC, mN_pC, mR_pC]
    | succ m ih =>
      intro i hi
      have w1 := wn.1
      have w2 := wn.2 i (by omega)
      have w3 := mxN_le (g := g) i (fun k hk => (wn.2 k (by omega)).1)
      obtain ⟨n1, -, -⟩ := nt.2 i (by omega)
      rw [← ih (i + 1) (by omega), e_29_4 E]
      show _ = ev 29 lv 4 [.ref 168, .int (nI (if mxN g i < g (117 + 3 * i) then g (117 + 3 * i) else mxN g i)), .int (nI (i + 1))] [] h
      by_cases z : mxN g i < g (117 + 3 * i)
      · rw [if_pos z]
        repeat (first | (apply ifT; focus ((try simp (disch := omega) only [ns.k, nt.1, ns.r1, ns.k1, ns.n1, n1, ofNat_nI, i_lit, mI_pI, mK_pI, mN_pI, mR_pI, nI_ltI, nI_eq, nI_add, nI_mul, mjIn_nI, nI_clamp, neg1_lt0, if_pos, if_neg, if_true, if_false, Bool.false_eq_true, and_true, true_and, and_false, false_and, mI_pL, mK_pL, mN_pL, mR_pL, mL_pL, mL_pI, mI_pR, mL_pR, mK_pR, mN_pR, mR_pR, mI_pC, mL_pC, mK_pC, mN_pC, mR_pC]) <;> first | omega | decide)) | (apply ifF; focus ((try simp (disch := omega) only [ns.k, nt.1, ns.r1, ns.k1, ns.n1, n1, ofNat_nI, i_lit, mI_pI, mK_pI, mN_pI, mR_pI, nI_ltI, nI_eq, nI_add, nI_mul, mjIn_nI, nI_clamp, neg1_lt0, if_pos, if_neg, if_true, if_false, Bool.false_eq_true, and_true, true_and, and_false, false_and, mI_pL, mK_pL, mN_pL, mR_pL, mL_pL, mL_pI, mI_pR, mL_pR, mK_pR, mN_pR, mR_pR, mI_pC, mL_pC, mK_pC, mN_pC, mR_pC]) <;> first | omega | decide)) | (apply stI; focus ((try simp (disch := omega) only [ns.k, nt.1, ns.r1, ns.k1, ns.n1, n1, ofNat_nI, i_lit, mI_pI, mK_pI, mN_pI, mR_pI, nI_ltI, nI_eq, nI_add, nI_mul, mjIn_nI, nI_clamp, neg1_lt0, if_pos, if_neg, if_true, if_false, Bool.false_eq_true, and_true, true_and, and_false, false_and, mI_pL, mK_pL, mN_pL, mR_pL, mL_pL, mL_pI, mI_pR, mL_pR, mK_pR, mN_pR, mR_pR, mI_pC, mL_pC, mK_pC, mN_pC, mR_pC]) <;> rfl)) | (apply stV; focus ((try simp (disch := omega) only [ns.k, nt.1, ns.r1, ns.k1, ns.n1, n1, ofNat_nI, i_lit, mI_pI, mK_pI, mN_pI, mR_pI, nI_ltI, nI_eq, nI_add, nI_mul, mjIn_nI, nI_clamp, neg1_lt0, if_pos, if_neg, if_true, if_false, Bool.false_eq_true, and_true, true_and, and_false, false_and, mI_pL, mK_pL, mN_pL, mR_pL, mL_pL, mL_pI, mI_pR, mL_pR, mK_pR, mN_pR, mR_pR, mI_pC, mL_pC, mK_pC, mN_pC, mR_pC]) <;> rfl)) | (apply stL; focus ((try simp (disch := omega) only [ns.k, nt.1, ns.r1, ns.k1, ns.n1, n1, ofNat_nI, i_lit, mI_pI, mK_pI, mN_pI, mR_pI, nI_ltI, nI_eq, nI_add, nI_mul, mjIn_nI, nI_clamp, neg1_lt0, if_pos, if_neg, if_true, if_false, Bool.false_eq_true, and_true, true_and, and_false, false_and, mI_pL, mK_pL, mN_pL, mR_pL, mL_pL, mL_pI, mI_pR, mL_pR, mK_pR, mN_pR, mR_pR, mI_pC, mL_pC, mK_pC, mN_pC, mR_pC]) <;> rfl)) | (apply stA; focus ((try simp (disch := omega) only [ns.k, nt.1, ns.r1, ns.k1, ns.n1, n1, ofNat_nI, i_lit, mI_pI, mK_pI, mN_pI, mR_pI, nI_ltI, nI_eq, nI_add, nI_mul, mjIn_nI, nI_clamp, neg1_lt0, if_pos, if_neg, if_true, if_false, Bool.false_eq_true, and_true, true_and, and_false, false_and, mI_pL, mK_pL, mN_pL, mR_pL, mL_pL, mL_pI, mI_pR, mL_pR, mK_pR, mN_pR, mR_pR, mI_pC, mL_pC, mK_pC, mN_pC, mR_pC]) <;> rfl)))
        try simp (disch := omega) only [ns.k, nt.1, ns.r1, ns.k1, ns.n1, n1, ofNat_nI, i_lit, mI_pI, mK_pI, mN_pI, mR_pI, nI_ltI, nI_eq, nI_add, nI_mul, mjIn_nI, nI_clamp, neg1_lt0, if_pos, if_neg, if_true, if_false, Bool.false_eq_true, and_true, true_and, and_false, false_and, mI_pL, mK_pL, mN_pL, mR_pL, mL_pL, mL_pI, mI_pR, mL_pR, mK_pR, mN_pR, mR_pR, mI_pC, mL_pC, mK_pC, mN_pC, mR_pC]
      · rw [if_neg z]
        repeat (first | (apply ifT; focus ((try simp (disch := omega) only [ns.k, nt.1, ns.r1, ns.k1, ns.n1, n1, ofNat_nI, i_lit, mI_pI, mK_pI, mN_pI, mR_pI, nI_ltI, nI_eq, nI_add, nI_mul, mjIn_nI, nI_clamp, neg1_lt0, if_pos, if_neg, if_true, if_false, Bool.false_eq_true, and_true, true_and, and_false, false_and, mI_pL, mK_pL, mN_pL, mR_pL, mL_pL, mL_pI, mI_pR, mL_pR, mK_pR, mN_pR, mR_pR, mI_pC, mL_pC, mK_pC, mN_pC, mR_pC]) <;> first | omega | decide)) | (apply ifF; focus ((try simp (disch := omega) only [ns.k, nt.1, ns.r1, ns.k1, ns.n1, n1, ofNat_nI, i_lit, mI_pI, mK_pI, mN_pI, mR_pI, nI_ltI, nI_eq, nI_add, nI_mul, mjIn_nI, nI_clamp, neg1_lt0, if_pos, if_neg, if_true, if_false, Bool.false_eq_true, and_true, true_and, and_false, false_and, mI_pL, mK_pL, mN_pL, mR_pL, mL_pL, mL_pI, mI_pR, mL_pR, mK_pR, mN_pR, mR_pR, mI_pC, mL_pC, mK_pC, mN_pC, mR_pC]) <;> first | omega | decide)) | (apply stI; focus ((try simp (disch := omega) only [ns.k, nt.1, ns.r1, ns.k1, ns.n1, n1, ofNat_nI, i_lit, mI_pI, mK_pI, mN_pI, mR_pI, nI_ltI, nI_eq, nI_add, nI_mul, mjIn_nI, nI_clamp, neg1_lt0, if_pos, if_neg, if_true, if_false, Bool.false_eq_true, and_true, true_and, and_false, false_and, mI_pL, mK_pL, mN_pL, mR_pL, mL_pL, mL_pI, mI_pR, mL_pR, mK_pR, mN_pR, mR_pR, mI_pC, mL_pC, mK_pC, mN_pC, mR_pC]) <;> rfl)) | (apply stV; focus ((try simp (disch := omega) only [ns.k, nt.1, ns.r1, ns.k1, ns.n1, n1, ofNat_nI, i_lit, mI_pI, mK_pI, mN_pI, mR_pI, nI_ltI, nI_eq, nI_add, nI_mul, mjIn_nI, nI_clamp, neg1_lt0, if_pos, if_neg, if_true, if_false, Bool.false_eq_true, and_true, true_and, and_false, false_and, mI_pL, mK_pL, mN_pL, mR_pL, mL_pL, mL_pI, mI_pR, mL_pR, mK_pR, mN_pR, mR_pR, mI_pC, mL_pC, mK_pC, mN_pC, mR_pC]) <;> rfl)) | (apply stL; focus ((try simp (disch := omega) only [ns.k, nt.1, ns.r1, ns.k1, ns.n1, n1, ofNat_nI, i_lit, mI_pI, mK_pI, mN_pI, mR_pI, nI_ltI, nI_eq, nI_add, nI_mul, mjIn_nI, nI_clamp, neg1_lt0, if_pos, if_neg, if_true, if_false, Bool.false_eq_true, and_true, true_and, and_false, false_and, mI_pL, mK_pL, mN_pL, mR_pL, mL_pL, mL_pI, mI_pR, mL_pR, mK_pR, mN_pR, mR_pR, mI_pC, mL_pC, mK_pC, mN_pC, mR_pC]) <;> rfl)) | (apply stA; focus ((try simp (disch := omega) only [ns.k, nt.1, ns.r1, ns.k1, ns.n1, n1, ofNat_nI, i_lit, mI_pI, mK_pI, mN_pI, mR_pI, nI_ltI, nI_eq, nI_add, nI_mul, mjIn_nI, nI_clamp, neg1_lt0, if_pos, if_neg, if_true, if_false, Bool.false_eq_true, and_true, true_and, and_false, false_and, mI_pL, mK_pL, mN_pL, mR_pL, mL_pL, mL_pI, mI_pR, mL_pR, mK_pR, mN_pR, mR_pR, mI_pC, mL_pC, mK_pC, mN_pC, mR_pC]) <;> rfl)))
        try simp (disch := omega) only [ns.k, nt.1, ns.r1, ns.k1, ns.n1, n1, ofNat_nI, i_lit, mI_pI, mK_pI, mN_pI, mR_pI, nI_ltI, nI_eq, nI_add, nI_mul, mjIn_nI, nI_clamp, neg1_lt0, if_pos, if_neg, if_true, if_false, Bool.false_eq_true, and_true, true_and, and_false, false_and, mI_pL, mK_pL, mN_pL, mR_pL, mL_pL, mL_pI, mI_pR, mL_pR, mK_pR, mN_pR, mR_pR, mI_pC, mL_pC, mK_pC, mN_pC, mR_pC]
  show ev 29 lv 0 [.ref 168, mjD, mjD] [] h = _
  rw [e_29_0 E]
  exact at_ (g 147) 0 (by omega)
/-- what people have on the day looked at -/
theorem sp_see (E : mjFix ev) (zs : zSh h) (ct : CS h 236 f gt) (hf : f = 14 ∨ 264 ≤ f) {c ppl : Nat} (hp : mI h 233 4 = nI ppl) (h5 : ppl ≤ 5) (hc : c ≤ 6) : ∃ h', mjCall ev 44 lv [.ref 233, .int (nI c)] h = some (.ref 0, h') ∧ Ft (fun a _ => a = 235) h h' ∧ (∀ p, p < ppl → mI h' 235 (c * 5 + p) = nI (five gt (12 + 5 * p))) ∧ (∀ i, i < c * 5 → mI h' 235 i = mI h 235 i) := by
  have at_ : ∀ (m p : Nat) (h1 : mjS), p + m = ppl → Ft (fun a _ => a = 235) h h1 → (∀ t, t < p → mI h1 235 (c * 5 + t) = nI (five gt (12 + 5 * t))) → (∀ i, i < c * 5 → mI h1 235 i = mI h 235 i) → ∃ h', ev 44 lv 2 [.ref 233, .int (nI c), .int (nI p)] [] h1 = some (.ref 0, h') ∧ Ft (fun a _ => a = 235) h h' ∧ (∀ p, p < ppl → mI h' 235 (c * 5 + p) = nI (five gt (12 + 5 * p))) ∧ (∀ i, i < c * 5 → mI h' 235 i = mI h 235 i) := by
    intro m
    induction m with
    | zero =>
      intro p h1 hpm a1 ht ho
      have z1 := zs.ft a1 (by omega)
      have P : mI h1 233 4 = nI ppl := by rw [a1.I (by omega)]; exact hp
      refine ⟨h1, ?_, a1, fun t h => ht t (by omega), ho⟩
      rw [e_44_2 E]
      repeat (first | (apply ifT; focus ((try simp (disch := omega) only [z1.k, P, ofNat_nI, i_lit, mI_pI, mK_pI, mN_pI, mR_pI, nI_ltI, nI_eq, nI_add, nI_mul, mjIn_nI, nI_clamp, neg1_lt0, if_pos, if_neg, if_true, if_false, Bool.false_eq_true, and_true, true_and, and_false, false_and, mI_pL, mK_pL, mN_pL, mR_pL, mL_pL, mL_pI, mI_pR, mL_pR, mK_pR, mN_pR, mR_pR, mI_pC, mL_pC, mK_pC, mN_pC, mR_pC]) <;> first | omega | decide)) | (apply ifF; focus ((try simp (disch := omega) only [z1.k, P, ofNat_nI, i_lit, mI_pI, mK_pI, mN_pI, mR_pI, nI_ltI, nI_eq, nI_add, nI_mul, mjIn_nI, nI_clamp, neg1_lt0, if_pos, if_neg, if_true, if_false, Bool.false_eq_true, and_true, true_and, and_false, false_and, mI_pL, mK_pL, mN_pL, mR_pL, mL_pL, mL_pI, mI_pR, mL_pR, mK_pR, mN_pR, mR_pR, mI_pC, mL_pC, mK_pC, mN_pC, mR_pC]) <;> first | omega | decide)) | (apply stI; focus ((try simp (disch := omega) only [z1.k, P, ofNat_nI, i_lit, mI_pI, mK_pI, mN_pI, mR_pI, nI_ltI, nI_eq, nI_add, nI_mul, mjIn_nI, nI_clamp, neg1_lt0, if_pos, if_neg, if_true, if_false, Bool.false_eq_true, and_true, true_and, and_false, false_and, mI_pL, mK_pL, mN_pL, mR_pL, mL_pL, mL_pI, mI_pR, mL_pR, mK_pR, mN_pR, mR_pR, mI_pC, mL_pC, mK_pC, mN_pC, mR_pC]) <;> rfl)) | (apply stV; focus ((try simp (disch := omega) only [z1.k, P, ofNat_nI, i_lit, mI_pI, mK_pI, mN_pI, mR_pI, nI_ltI, nI_eq, nI_add, nI_mul, mjIn_nI, nI_clamp, neg1_lt0, if_pos, if_neg, if_true, if_false, Bool.false_eq_true, and_true, true_and, and_false, false_and, mI_pL, mK_pL, mN_pL, mR_pL, mL_pL, mL_pI, mI_pR, mL_pR, mK_pR, mN_pR, mR_pR, mI_pC, mL_pC, mK_pC, mN_pC, mR_pC]) <;> rfl)) | (apply stL; focus ((try simp (disch := omega) only [z1.k, P, ofNat_nI, i_lit, mI_pI, mK_pI, mN_pI, mR_pI, nI_ltI, nI_eq, nI_add, nI_mul, mjIn_nI, nI_clamp, neg1_lt0, if_pos, if_neg, if_true, if_false, Bool.false_eq_true, and_true, true_and, and_false, false_and, mI_pL, mK_pL, mN_pL, mR_pL, mL_pL, mL_pI, mI_pR, mL_pR, mK_pR, mN_pR, mR_pR, mI_pC, mL_pC, mK_pC, mN_pC, mR_pC]) <;> rfl)) | (apply stA; focus ((try simp (disch := omega) only [z1.k, P, ofNat_nI, i_lit, mI_pI, mK_pI, mN_pI, mR_pI, nI_ltI, nI_eq, nI_add, nI_mul, mjIn_nI, nI_clamp, neg1_lt0, if_pos, if_neg, if_true, if_false, Bool.false_eq_true, and_true, true_and, and_false, false_and, mI_pL, mK_pL, mN_pL, mR_pL, mL_pL, mL_pI, mI_pR, mL_pR, mK_pR, mN_pR, mR_pR, mI_pC, mL_pC, mK_pC, mN_pC, mR_pC]) <;> rfl)))
      try simp (disch := omega) only [z1.k, P, ofNat_nI, i_lit, mI_pI, mK_pI, mN_pI, mR_pI, nI_ltI, nI_eq, nI_add, nI_mul, mjIn_nI, nI_clamp, neg1_lt0, if_pos, if_neg, if_true, if_false, Bool.false_eq_true, and_true, true_and, and_false, false_and, mI_pL, mK_pL, mN_pL, mR_pL, mL_pL, mL_pI, mI_pR, mL_pR, mK_pR, mN_pR, mR_pR, mI_pC, mL_pC, mK_pC, mN_pC, mR_pC]
    | succ m ih =>
      intro p h1 hpm a1 ht ho
      have z1 := zs.ft a1 (by omega)
      have P : mI h1 233 4 = nI ppl := by rw [a1.I (by omega)]; exact hp
      have t1 := ct.ft a1 (fun x k hx => by omega)
      have e1 := cs_pieces (lv := lv) E t1 (show p < 5 by omega)
      obtain ⟨h', e2, a2, r2, o2⟩ := ih (p + 1) (pI h1 235 (c * 5 + p) (nI (five gt (12 + 5 * p)))) (by omega) (a1.tr (Ft.pI rfl)) (fun t h => by
        rw [mI_pI]
        by_cases e : t = p
        · rw [e, if_pos ⟨rfl, rfl⟩]
        · rw [if_neg (by omega)]; exact ht t (by omega)) (fun i hi => by rw [mI_pI, if_neg (by omega)]; exact ho i hi)
      refine ⟨h', ?_, a2, r2, o2⟩
      rw [← e2, e_44_2 E]
      repeat (first | (apply ifT; focus ((try simp (disch := omega) only [z1.k, P, z1.r0, z1.q.k, e1, z1.r2, z1.k2, z1.n2, ofNat_nI, i_lit, mI_pI, mK_pI, mN_pI, mR_pI, nI_ltI, nI_eq, nI_add, nI_mul, mjIn_nI, nI_clamp, neg1_lt0, if_pos, if_neg, if_true, if_false, Bool.false_eq_true, and_true, true_and, and_false, false_and, mI_pL, mK_pL, mN_pL, mR_pL, mL_pL, mL_pI, mI_pR, mL_pR, mK_pR, mN_pR, mR_pR, mI_pC, mL_pC, mK_pC, mN_pC, mR_pC]) <;> first | omega | decide)) | (apply ifF; focus ((try simp (disch := omega) only [z1.k, P, z1.r0, z1.q.k, e1, z1.r2, z1.k2, z1.n2, ofNat_nI, i_lit, mI_pI, mK_pI, mN_pI, mR_pI, nI_ltI, nI_eq, nI_add, nI_mul, mjIn_nI, nI_clamp, neg1_lt0, if_pos, if_neg, if_true, if_false, Bool.false_eq_true, and_true, true_and, and_false, false_and, mI_pL, mK_pL, mN_pL, mR_pL, mL_pL, mL_pI, mI_pR, mL_pR, mK_pR, mN_pR, mR_pR, mI_pC, mL_pC, mK_pC, mN_pC, mR_pC]) <;> first | omega | decide)) | (apply stI; focus ((try simp (disch := omega) only [z1.k, P, z1.r0, z1.q.k, e1, z1.r2, z1.k2, z1.n2, ofNat_nI, i_lit, mI_pI, mK_pI, mN_pI, mR_pI, nI_ltI, nI_eq, nI_add, nI_mul, mjIn_nI, nI_clamp, neg1_lt0, if_pos, if_neg, if_true, if_false, Bool.false_eq_true, and_true, true_and, and_false, false_and, mI_pL, mK_pL, mN_pL, mR_pL, mL_pL, mL_pI, mI_pR, mL_pR, mK_pR, mN_pR, mR_pR, mI_pC, mL_pC, mK_pC, mN_pC, mR_pC]) <;> rfl)) | (apply stV; focus ((try simp (disch := omega) only [z1.k, P, z1.r0, z1.q.k, e1, z1.r2, z1.k2, z1.n2, ofNat_nI, i_lit, mI_pI, mK_pI, mN_pI, mR_pI, nI_ltI, nI_eq, nI_add, nI_mul, mjIn_nI, nI_clamp, neg1_lt0, if_pos, if_neg, if_true, if_false, Bool.false_eq_true, and_true, true_and, and_false, false_and, mI_pL, mK_pL, mN_pL, mR_pL, mL_pL, mL_pI, mI_pR, mL_pR, mK_pR, mN_pR, mR_pR, mI_pC, mL_pC, mK_pC, mN_pC, mR_pC]) <;> rfl)) | (apply stL; focus ((try simp (disch := omega) only [z1.k, P, z1.r0, z1.q.k, e1, z1.r2, z1.k2, z1.n2, ofNat_nI, i_lit, mI_pI, mK_pI, mN_pI, mR_pI, nI_ltI, nI_eq, nI_add, nI_mul, mjIn_nI, nI_clamp, neg1_lt0, if_pos, if_neg, if_true, if_false, Bool.false_eq_true, and_true, true_and, and_false, false_and, mI_pL, mK_pL, mN_pL, mR_pL, mL_pL, mL_pI, mI_pR, mL_pR, mK_pR, mN_pR, mR_pR, mI_pC, mL_pC, mK_pC, mN_pC, mR_pC]) <;> rfl)) | (apply stA; focus ((try simp (disch := omega) only [z1.k, P, z1.r0, z1.q.k, e1, z1.r2, z1.k2, z1.n2, ofNat_nI, i_lit, mI_pI, mK_pI, mN_pI, mR_pI, nI_ltI, nI_eq, nI_add, nI_mul, mjIn_nI, nI_clamp, neg1_lt0, if_pos, if_neg, if_true, if_false, Bool.false_eq_true, and_true, true_and, and_false, false_and, mI_pL, mK_pL, mN_pL, mR_pL, mL_pL, mL_pI, mI_pR, mL_pR, mK_pR, mN_pR, mR_pR, mI_pC, mL_pC, mK_pC, mN_pC, mR_pC]) <;> rfl)))
      try simp (disch := omega) only [z1.k, P, z1.r0, z1.q.k, e1, z1.r2, z1.k2, z1.n2, ofNat_nI, i_lit, mI_pI, mK_pI, mN_pI, mR_pI, nI_ltI, nI_eq, nI_add, nI_mul, mjIn_nI, nI_clamp, neg1_lt0, if_pos, if_neg, if_true, if_false, Bool.false_eq_true, and_true, true_and, and_false, false_and, mI_pL, mK_pL, mN_pL, mR_pL, mL_pL, mL_pI, mI_pR, mL_pR, mK_pR, mN_pR, mR_pR, mI_pC, mL_pC, mK_pC, mN_pC, mR_pC]
  obtain ⟨h', e, r⟩ := at_ ppl 0 h (by omega) Ft.rf (fun t h => by omega) (fun _ _ => rfl)
  refine ⟨h', ?_, r⟩
  show ev 44 lv 0 [.ref 233, .int (nI c), mjD] [] h = _
  rw [e_44_0 E]
  exact e
end CZ
