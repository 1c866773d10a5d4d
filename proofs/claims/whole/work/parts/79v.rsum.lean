/-! the reference's reader of a rule: pieces, products, sums -/
abbrev FSm (t a k : Nat) : Prop := (a = 243 ∧ (k = 8 ∨ k = 9 ∨ k = 10 ∨ k = 12)) ∨ (a = 245 ∧ 400 * t ≤ k) ∨ a = 246
/-- what is laid down of a rule -/
def RC (h : mjS) (t : Nat) (pre ops : List Nat) (np : Nat) : Prop := (mI h 243 9 = nI 0 ∧ mI h 243 11 = nI t ∧ t < 6) ∧ (mI h 243 12 = nI np ∧ np ≤ 60) ∧ mI h 246 t = nI (pre.length + ops.length) ∧ Rw h 245 (400 * t) ((pre ++ ops).map nI)
def RPo (h : mjS) (tb : Nat → Int32) (tl t : Nat) (pre : List Nat) (s : rst) : Prop := ∃ p, Rs h tb tl p ∧ tkp tb tl p = s.1 ∧ RC h t pre s.2.1 s.2.2
def RPn (h : mjS) (tb : Nat → Int32) (tl t : Nat) (pre : List Nat) (s : rst) : Prop := ∃ p, Rn h tb tl p ∧ tkp tb tl p = s.1 ∧ RC h t pre s.2.1 s.2.2
/-- how a reader ends: with a fault, or with more laid down -/
def RPr (Q : mjS → rst → Prop) (t : Nat) (h : mjS) (X : mjO) (r : rrs) : Prop := match r with
  | .inl f => ∃ h', X = some (.int (nI 0), h') ∧ Fr (FSm t) h h' ∧ mI h' 243 9 = nI f
  | .inr s => ∃ h', X = some (.int (nI 1), h') ∧ Fr (FSm t) h h' ∧ Q h' s
theorem RPr.tr {Q : mjS → rst → Prop} {t : Nat} {h h1 : mjS} {X Y : mjO} {r : rrs} (f : Fr (FSm t) h h1) (e : X = Y) (z : RPr Q t h1 Y r) : RPr Q t h X r := by
  cases r with
  | inl g => obtain ⟨h', a, b, c⟩ := z; exact ⟨h', e.trans a, f.tr b, c⟩
  | inr g => obtain ⟨h', a, b, c⟩ := z; exact ⟨h', e.trans a, f.tr b, c⟩
theorem RPr.mono {Q Q' : mjS → rst → Prop} {t : Nat} {h : mjS} {X : mjO} {r : rrs} (hQ : ∀ h s, Q h s → Q' h s) (z : RPr Q t h X r) : RPr Q' t h X r := by
  cases r with
  | inl g => exact z
  | inr g => obtain ⟨h', a, b, c⟩ := z; exact ⟨h', a, b, hQ _ _ c⟩
theorem RC.fr {F : Nat → Nat → Prop} {h h' : mjS} {t : Nat} {pre ops : List Nat} {np : Nat} (a : Fr F h h') (hF : (¬ F 243 9 ∧ ¬ F 243 11 ∧ ¬ F 243 12) ∧ (∀ k, ¬ F 246 k) ∧ ∀ k, ¬ F 245 k) (c : RC h t pre ops np) : RC h' t pre ops np :=
  ⟨⟨by rw [a.I hF.1.1]; exact c.1.1, by rw [a.I hF.1.2.1]; exact c.1.2.1, c.1.2.2⟩, ⟨by rw [a.I hF.1.2.2]; exact c.2.1.1, c.2.1.2⟩, by rw [a.I (hF.2.1 _)]; exact c.2.2.1, c.2.2.2.keep (fun k _ _ => a.I (hF.2.2 k))⟩
section RV
variable {ev : mjT} {lv : Nat} {h : mjS} {tb : Nat → Int32} {tl t : Nat} {pre : List Nat} {s : rst}
theorem RPn.o (q : RPn h tb tl t pre s) : RPo h tb tl t pre s := by
  obtain ⟨p, a, b, c⟩ := q
  exact ⟨p, a.1, b, c⟩
theorem RPo.sh (q : RPo h tb tl t pre s) : rSh h := by
  obtain ⟨p, a, -⟩ := q
  exact a.1
theorem RPo.ok (q : RPo h tb tl t pre s) : okT tl s.1 := by
  obtain ⟨p, a, b, -⟩ := q
  rw [← b]; exact tkp_ok a.ple
theorem RPo.np (q : RPo h tb tl t pre s) : s.2.2 ≤ 60 ∧ t < 6 := by
  obtain ⟨p, a, b, c⟩ := q
  exact ⟨c.2.1.2, c.1.2.2⟩
theorem FPo_FSm {x k : Nat} (hx : FPo x k) : FSm t x k := by unfold FPo at hx; unfold FSm; omega
theorem ro_see (E : mjFix ev) (q : RPo h tb tl t pre s) : ∃ h' c, mjCall ev 146 lv [.ref 243] h = some (.int c, h') ∧ Fr FPo h h' ∧ RPn h' tb tl t pre s ∧ CC c (kd s.1) := by
  obtain ⟨p, a, b, c⟩ := q
  obtain ⟨h', p', e, f, n, t'⟩ := rx_see (lv := lv) (tb := tb) E (tl - p) p h (by have := a.ple; omega) a
  have cc := n.cc
  rw [t', b] at cc
  exact ⟨h', _, e, f, ⟨p', n, t'.trans b, c.fr f ⟨by unfold FPo; omega, fun k => by unfold FPo; omega, fun k => by unfold FPo; omega⟩⟩, cc⟩
theorem rn_see (E : mjFix ev) (q : RPn h tb tl t pre s) : ∃ c, mjCall ev 146 lv [.ref 243] h = some (.int c, h) ∧ CC c (kd s.1) := by
  obtain ⟨p, a, b, c⟩ := q
  have cc := a.cc
  rw [b] at cc
  exact ⟨_, rx_see0 E a, cc⟩
theorem rn_word (E : mjFix ev) (q : RPn h tb tl t pre s) {k : Nat} (hk : k < 18) {w : Int64} (hw : w = Wk k) : mjCall ev 149 lv [.ref 243, .long w] h = some (.int (if kd s.1 = 128 + k then nI 1 else nI 0), h) := by
  obtain ⟨p, a, b, c⟩ := q
  rw [← b]; exact rx_word E a hk hw
/-- at a word: it is passed over -/
theorem rn_pass (E : mjFix ev) (q : RPn h tb tl t pre s) (hk : 128 ≤ kd s.1) : ∃ h', mjCall ev 150 lv [.ref 243] h = some (.ref 0, h') ∧ Fr FPo h h' ∧ RPo h' tb tl t pre (s.1.tail, s.2) := by
  obtain ⟨p, a, b, c⟩ := q
  rw [← b] at hk
  have y : p < tl := by
    have := a.1.ple
    by_cases y : p < tl
    · exact y
    · rw [show p = tl by omega, tkp_end] at hk
      have hk : 128 ≤ 1 := hk
      omega
  have tt := tkp_tok y (a.2 y)
  rw [tt] at hk
  have hk : 128 ≤ kiT tb tl p := hk
  have l : ltr (tb p) = true := by
    by_cases l : ltr (tb p) = true
    · exact l
    · exfalso
      have bs : kiS (tb p) < 128 := by
        have all : ∀ y ∈ mjTx 3, y.toNatClampNeg < 128 := by decide
        unfold kiS
        by_cases m : uB (tb p) ∈ mjTx 3
        · have := all _ m
          split <;> omega
        · rw [find_no m, if_pos (by decide)]; omega
      unfold kiT at hk
      rw [if_neg l] at hk
      split at hk
      · omega
      · split at hk
        · split at hk <;> omega
        · omega
  obtain ⟨h', e, f, q'⟩ := rx_pass (lv := lv) E a.1 y l
  refine ⟨h', e, f, ndT tb tl p, q', ?_, c.fr f ⟨by unfold FPo; omega, fun k => by unfold FPo; omega, fun k => by unfold FPo; omega⟩⟩
  rw [← b, tt]; rfl
/-- at a sign of one byte: it is passed over -/
theorem rn_next (q : RPn h tb tl t pre s) (hk : kd s.1 ∈ [42, 47, 37, 43, 45, 59, 91, 93, 61]) : ∃ p, mI h 243 8 = nI p ∧ p < tl ∧ tl ≤ 400 ∧ mI h 244 p = nI (kd s.1) ∧ RPo (pI h 243 8 (nI (p + 1))) tb tl t pre (s.1.tail, s.2) := by
  obtain ⟨p, a, b, c⟩ := q
  have cc := a.cc
  have y : p < tl := by
    have := a.1.ple
    by_cases y : p < tl
    · exact y
    · rw [← b, show p = tl by omega, tkp_end] at hk
      exact absurd hk (by decide)
  have tt := tkp_tok y (a.2 y)
  rw [b] at tt
  rw [b] at cc
  have kk : kd s.1 = kiT tb tl p := by rw [tt]; rfl
  have c1 := (cc.1 _ hk).mpr rfl
  have bk := a.1.2.2.1.2 p y
  have e0 : cS tb tl p = tb p &&& nI 255 := by unfold cS; rw [if_pos y]
  have l128 : ∀ x ∈ [42, 47, 37, 43, 45, 59, 91, 93, 61], x < 128 ∧ nI x ≠ nI 60 ∧ nI x ≠ nI 62 := by decide
  have lx := l128 _ hk
  rw [e0, cB_iff bk lx.1] at c1
  have nn := sg_not (x := kd s.1) (by
    have all : ∀ x ∈ [42, 47, 37, 43, 45, 59, 91, 93, 61], x ∈ [42, 47, 37, 43, 45, 59, 91, 93, 61, 60, 62] := by decide
    exact all _ hk) c1
  have nd := (ndT_one (tl := tl) nn.1 nn.2 (fun z => by
    rcases z.1 with w | w
    · exact lx.2.1 (c1.symm.trans w)
    · exact lx.2.2 (c1.symm.trans w))).1
  refine ⟨p, a.1.2.2.2.1, y, a.1.tl400, by rw [a.1.2.1.2 p y]; exact c1, p + 1, a.1.to (by omega), ?_, c.fr (F := FPo) (Fr.pI ⟨rfl, rfl⟩) ⟨by unfold FPo; omega, fun k => by unfold FPo; omega, fun k => by unfold FPo; omega⟩⟩
  rw [tt, nd]; rfl
theorem RC.puts (E : mjFix ev) (hs : rSh h) {ops : List Nat} {np : Nat} (c : RC h t pre ops np) (x v : Nat) (hx : x + 16 * v < 2 ^ 31) (hr : pre.length + ops.length < 400) : ∃ h', mjCall ev 154 lv [.ref 243, .int (nI x), .int (nI v)] h = some (.ref 0, h') ∧ Fr (fun a k => (a = 245 ∧ 400 * t ≤ k) ∨ a = 246) h h' ∧ RC h' t pre (ops ++ [x + 16 * v]) np := by
  obtain ⟨⟨a1, a2, a3⟩, ⟨b1, b2⟩, d1, d2⟩ := c
  have f : Fr (fun a k => (a = 245 ∧ 400 * t ≤ k) ∨ a = 246) h (pI (pI h 245 (400 * t + (pre.length + ops.length)) (nI (x + 16 * v))) 246 t (nI (pre.length + ops.length + 1))) := (Fr.pI (F := fun a k => (a = 245 ∧ 400 * t ≤ k) ∨ a = 246) (by omega)).tr (Fr.pI (F := fun a k => (a = 245 ∧ 400 * t ≤ k) ∨ a = 246) (by omega))
  refine ⟨_, ?_, f, ⟨by rw [f.I (by omega)]; exact a1, by rw [f.I (by omega)]; exact a2, a3⟩, ⟨by rw [f.I (by omega)]; exact b1, b2⟩, ?_, ?_⟩
  · show ev 154 lv 0 [.ref 243, .int (nI x), .int (nI v)] [] h = _
    rw [e_154_0 E]
    repeat (first | (apply ifT; focus ((try simp (disch := omega) only [hs.k, a2, hs.r_length, hs.k_length, hs.n_length, d1, hs.r_sign, hs.k_sign, hs.n_sign, ofNat_nI, i_lit, mI_pI, mK_pI, mN_pI, mR_pI, nI_ltI, nI_eq, nI_add, nI_mul, mjIn_nI, nI_clamp, neg1_lt0, if_pos, if_neg, if_true, if_false, Bool.false_eq_true, and_true, true_and, and_false, false_and, mI_pL, mK_pL, mN_pL, mR_pL, mL_pL, mL_pI, mI_pR, mL_pR, mK_pR, mN_pR, mR_pR, mI_pC, mL_pC, mK_pC, mN_pC, mR_pC]) <;> first | omega | decide)) | (apply ifF; focus ((try simp (disch := omega) only [hs.k, a2, hs.r_length, hs.k_length, hs.n_length, d1, hs.r_sign, hs.k_sign, hs.n_sign, ofNat_nI, i_lit, mI_pI, mK_pI, mN_pI, mR_pI, nI_ltI, nI_eq, nI_add, nI_mul, mjIn_nI, nI_clamp, neg1_lt0, if_pos, if_neg, if_true, if_false, Bool.false_eq_true, and_true, true_and, and_false, false_and, mI_pL, mK_pL, mN_pL, mR_pL, mL_pL, mL_pI, mI_pR, mL_pR, mK_pR, mN_pR, mR_pR, mI_pC, mL_pC, mK_pC, mN_pC, mR_pC]) <;> first | omega | decide)) | (apply stI; focus ((try simp (disch := omega) only [hs.k, a2, hs.r_length, hs.k_length, hs.n_length, d1, hs.r_sign, hs.k_sign, hs.n_sign, ofNat_nI, i_lit, mI_pI, mK_pI, mN_pI, mR_pI, nI_ltI, nI_eq, nI_add, nI_mul, mjIn_nI, nI_clamp, neg1_lt0, if_pos, if_neg, if_true, if_false, Bool.false_eq_true, and_true, true_and, and_false, false_and, mI_pL, mK_pL, mN_pL, mR_pL, mL_pL, mL_pI, mI_pR, mL_pR, mK_pR, mN_pR, mR_pR, mI_pC, mL_pC, mK_pC, mN_pC, mR_pC]) <;> rfl)) | (apply stV; focus ((try simp (disch := omega) only [hs.k, a2, hs.r_length, hs.k_length, hs.n_length, d1, hs.r_sign, hs.k_sign, hs.n_sign, ofNat_nI, i_lit, mI_pI, mK_pI, mN_pI, mR_pI, nI_ltI, nI_eq, nI_add, nI_mul, mjIn_nI, nI_clamp, neg1_lt0, if_pos, if_neg, if_true, if_false, Bool.false_eq_true, and_true, true_and, and_false, false_and, mI_pL, mK_pL, mN_pL, mR_pL, mL_pL, mL_pI, mI_pR, mL_pR, mK_pR, mN_pR, mR_pR, mI_pC, mL_pC, mK_pC, mN_pC, mR_pC]) <;> rfl)) | (apply stL; focus ((try simp (disch := omega) only [hs.k, a2, hs.r_length, hs.k_length, hs.n_length, d1, hs.r_sign, hs.k_sign, hs.n_sign, ofNat_nI, i_lit, mI_pI, mK_pI, mN_pI, mR_pI, nI_ltI, nI_eq, nI_add, nI_mul, mjIn_nI, nI_clamp, neg1_lt0, if_pos, if_neg, if_true, if_false, Bool.false_eq_true, and_true, true_and, and_false, false_and, mI_pL, mK_pL, mN_pL, mR_pL, mL_pL, mL_pI, mI_pR, mL_pR, mK_pR, mN_pR, mR_pR, mI_pC, mL_pC, mK_pC, mN_pC, mR_pC]) <;> rfl)) | (apply stA; focus ((try simp (disch := omega) only [hs.k, a2, hs.r_length, hs.k_length, hs.n_length, d1, hs.r_sign, hs.k_sign, hs.n_sign, ofNat_nI, i_lit, mI_pI, mK_pI, mN_pI, mR_pI, nI_ltI, nI_eq, nI_add, nI_mul, mjIn_nI, nI_clamp, neg1_lt0, if_pos, if_neg, if_true, if_false, Bool.false_eq_true, and_true, true_and, and_false, false_and, mI_pL, mK_pL, mN_pL, mR_pL, mL_pL, mL_pI, mI_pR, mL_pR, mK_pR, mN_pR, mR_pR, mI_pC, mL_pC, mK_pC, mN_pC, mR_pC]) <;> rfl)))
    try simp (disch := omega) only [hs.k, a2, hs.r_length, hs.k_length, hs.n_length, d1, hs.r_sign, hs.k_sign, hs.n_sign, ofNat_nI, i_lit, mI_pI, mK_pI, mN_pI, mR_pI, nI_ltI, nI_eq, nI_add, nI_mul, mjIn_nI, nI_clamp, neg1_lt0, if_pos, if_neg, if_true, if_false, Bool.false_eq_true, and_true, true_and, and_false, false_and, mI_pL, mK_pL, mN_pL, mR_pL, mL_pL, mL_pI, mI_pR, mL_pR, mK_pR, mN_pR, mR_pR, mI_pC, mL_pC, mK_pC, mN_pC, mR_pC]
  · rw [pI_at, List.length_append, List.length_singleton]; rfl
  · rw [← List.append_assoc, List.map_append]
    have ln : ((pre ++ ops).map nI).length = pre.length + ops.length := by rw [List.length_map, List.length_append]
    refine Rw.app.mpr ⟨d2.keep (fun k h1 h2 => by rw [ln] at h2; rw [pI_ne (by omega), pI_nk (by omega)]), ?_⟩
    rw [ln]
    exact ⟨by rw [pI_ne (by omega), pI_at], trivial⟩
theorem ro_puts (E : mjFix ev) (q : RPo h tb tl t pre s) (x v : Nat) (hx : x + 16 * v < 2 ^ 31) (hr : pre.length + s.2.1.length < 400) : ∃ h', mjCall ev 154 lv [.ref 243, .int (nI x), .int (nI v)] h = some (.ref 0, h') ∧ Fr (FSm t) h h' ∧ RPo h' tb tl t pre (s.1, s.2.1 ++ [x + 16 * v], s.2.2) := by
  obtain ⟨p, a, b, c⟩ := q
  obtain ⟨h', e, f, c'⟩ := c.puts (lv := lv) E a.1 x v hx hr
  exact ⟨h', e, f.mono (fun x k hx => by unfold FSm; omega), p, a.fr f ⟨by omega, by omega, fun k => by omega⟩, b, c'⟩
theorem rn_puts (E : mjFix ev) (q : RPn h tb tl t pre s) (x v : Nat) (hx : x + 16 * v < 2 ^ 31) (hr : pre.length + s.2.1.length < 400) : ∃ h', mjCall ev 154 lv [.ref 243, .int (nI x), .int (nI v)] h = some (.ref 0, h') ∧ Fr (FSm t) h h' ∧ RPn h' tb tl t pre (s.1, s.2.1 ++ [x + 16 * v], s.2.2) := by
  obtain ⟨p, a, b, c⟩ := q
  obtain ⟨h', e, f, c'⟩ := c.puts (lv := lv) E a.1.1 x v hx hr
  exact ⟨h', e, f.mono (fun x k hx => by unfold FSm; omega), p, ⟨a.1.fr f ⟨by omega, by omega, fun k => by omega⟩, a.2⟩, b, c'⟩
/-- one more value is made -/
theorem RC.makes (E : mjFix ev) (hs : rSh h) {ops : List Nat} {np : Nat} (c : RC h t pre ops np) (a : Nat) : (60 ≤ np → mjCall ev 155 lv [.ref 243, .int (nI a)] h = some (.int (nI 0), pI h 243 9 (nI (1 + 8 * a + 3)))) ∧ (np < 60 → mjCall ev 155 lv [.ref 243, .int (nI a)] h = some (.int (nI 1), pI h 243 12 (nI (np + 1))) ∧ RC (pI h 243 12 (nI (np + 1))) t pre ops (np + 1)) := by
  have c0 := c
  obtain ⟨⟨a1, a2, a3⟩, ⟨b1, b2⟩, d1, d2⟩ := c
  have ef : mjCall ev 155 lv [.ref 243, .int (nI a)] h = ev 155 lv 0 [.ref 243, .int (nI a)] [] h := rfl
  rw [ef, e_155_0 E]
  refine ⟨fun y => ?_, fun y => ⟨?_, ?_⟩⟩
  · have m := rx_mark (lv := lv) E hs a1 3 a
    rw [show np = 60 by omega] at b1
    repeat (first | (apply ifT; focus ((try simp (disch := omega) only [hs.k, b1, m, ofNat_nI, i_lit, mI_pI, mK_pI, mN_pI, mR_pI, nI_ltI, nI_eq, nI_add, nI_mul, mjIn_nI, nI_clamp, neg1_lt0, if_pos, if_neg, if_true, if_false, Bool.false_eq_true, and_true, true_and, and_false, false_and, mI_pL, mK_pL, mN_pL, mR_pL, mL_pL, mL_pI, mI_pR, mL_pR, mK_pR, mN_pR, mR_pR, mI_pC, mL_pC, mK_pC, mN_pC, mR_pC]) <;> first | omega | decide)) | (apply ifF; focus ((try simp (disch := omega) only [hs.k, b1, m, ofNat_nI, i_lit, mI_pI, mK_pI, mN_pI, mR_pI, nI_ltI, nI_eq, nI_add, nI_mul, mjIn_nI, nI_clamp, neg1_lt0, if_pos, if_neg, if_true, if_false, Bool.false_eq_true, and_true, true_and, and_false, false_and, mI_pL, mK_pL, mN_pL, mR_pL, mL_pL, mL_pI, mI_pR, mL_pR, mK_pR, mN_pR, mR_pR, mI_pC, mL_pC, mK_pC, mN_pC, mR_pC]) <;> first | omega | decide)) | (apply stI; focus ((try simp (disch := omega) only [hs.k, b1, m, ofNat_nI, i_lit, mI_pI, mK_pI, mN_pI, mR_pI, nI_ltI, nI_eq, nI_add, nI_mul, mjIn_nI, nI_clamp, neg1_lt0, if_pos, if_neg, if_true, if_false, Bool.false_eq_true, and_true, true_and, and_false, false_and, mI_pL, mK_pL, mN_pL, mR_pL, mL_pL, mL_pI, mI_pR, mL_pR, mK_pR, mN_pR, mR_pR, mI_pC, mL_pC, mK_pC, mN_pC, mR_pC]) <;> rfl)) | (apply stV; focus ((try simp (disch := omega) only [hs.k, b1, m, ofNat_nI, i_lit, mI_pI, mK_pI, mN_pI, mR_pI, nI_ltI, nI_eq, nI_add, nI_mul, mjIn_nI, nI_clamp, neg1_lt0, if_pos, if_neg, if_true, if_false, Bool.false_eq_true, and_true, true_and, and_false, false_and, mI_pL, mK_pL, mN_pL, mR_pL, mL_pL, mL_pI, mI_pR, mL_pR, mK_pR, mN_pR, mR_pR, mI_pC, mL_pC, mK_pC, mN_pC, mR_pC]) <;> rfl)) | (apply stL; focus ((try simp (disch := omega) only [hs.k, b1, m, ofNat_nI, i_lit, mI_pI, mK_pI, mN_pI, mR_pI, nI_ltI, nI_eq, nI_add, nI_mul, mjIn_nI, nI_clamp, neg1_lt0, if_pos, if_neg, if_true, if_false, Bool.false_eq_true, and_true, true_and, and_false, false_and, mI_pL, mK_pL, mN_pL, mR_pL, mL_pL, mL_pI, mI_pR, mL_pR, mK_pR, mN_pR, mR_pR, mI_pC, mL_pC, mK_pC, mN_pC, mR_pC]) <;> rfl)) | (apply stA; focus ((try simp (disch := omega) only [hs.k, b1, m, ofNat_nI, i_lit, mI_pI, mK_pI, mN_pI, mR_pI, nI_ltI, nI_eq, nI_add, nI_mul, mjIn_nI, nI_clamp, neg1_lt0, if_pos, if_neg, if_true, if_false, Bool.false_eq_true, and_true, true_and, and_false, false_and, mI_pL, mK_pL, mN_pL, mR_pL, mL_pL, mL_pI, mI_pR, mL_pR, mK_pR, mN_pR, mR_pR, mI_pC, mL_pC, mK_pC, mN_pC, mR_pC]) <;> rfl)))
    try simp (disch := omega) only [hs.k, b1, m, ofNat_nI, i_lit, mI_pI, mK_pI, mN_pI, mR_pI, nI_ltI, nI_eq, nI_add, nI_mul, mjIn_nI, nI_clamp, neg1_lt0, if_pos, if_neg, if_true, if_false, Bool.false_eq_true, and_true, true_and, and_false, false_and, mI_pL, mK_pL, mN_pL, mR_pL, mL_pL, mL_pI, mI_pR, mL_pR, mK_pR, mN_pR, mR_pR, mI_pC, mL_pC, mK_pC, mN_pC, mR_pC]
    try exact if_pos (Or.inl rfl)
  · repeat (first | (apply ifT; focus ((try simp (disch := omega) only [hs.k, b1, ofNat_nI, i_lit, mI_pI, mK_pI, mN_pI, mR_pI, nI_ltI, nI_eq, nI_add, nI_mul, mjIn_nI, nI_clamp, neg1_lt0, if_pos, if_neg, if_true, if_false, Bool.false_eq_true, and_true, true_and, and_false, false_and, mI_pL, mK_pL, mN_pL, mR_pL, mL_pL, mL_pI, mI_pR, mL_pR, mK_pR, mN_pR, mR_pR, mI_pC, mL_pC, mK_pC, mN_pC, mR_pC]) <;> first | omega | decide)) | (apply ifF; focus ((try simp (disch := omega) only [hs.k, b1, ofNat_nI, i_lit, mI_pI, mK_pI, mN_pI, mR_pI, nI_ltI, nI_eq, nI_add, nI_mul, mjIn_nI, nI_clamp, neg1_lt0, if_pos, if_neg, if_true, if_false, Bool.false_eq_true, and_true, true_and, and_false, false_and, mI_pL, mK_pL, mN_pL, mR_pL, mL_pL, mL_pI, mI_pR, mL_pR, mK_pR, mN_pR, mR_pR, mI_pC, mL_pC, mK_pC, mN_pC, mR_pC]) <;> first | omega | decide)) | (apply stI; focus ((try simp (disch := omega) only [hs.k, b1, ofNat_nI, i_lit, mI_pI, mK_pI, mN_pI, mR_pI, nI_ltI, nI_eq, nI_add, nI_mul, mjIn_nI, nI_clamp, neg1_lt0, if_pos, if_neg, if_true, if_false, Bool.false_eq_true, and_true, true_and, and_false, false_and, mI_pL, mK_pL, mN_pL, mR_pL, mL_pL, mL_pI, mI_pR, mL_pR, mK_pR, mN_pR, mR_pR, mI_pC, mL_pC, mK_pC, mN_pC, mR_pC]) <;> rfl)) | (apply stV; focus ((try simp (disch := omega) only [hs.k, b1, ofNat_nI, i_lit, mI_pI, mK_pI, mN_pI, mR_pI, nI_ltI, nI_eq, nI_add, nI_mul, mjIn_nI, nI_clamp, neg1_lt0, if_pos, if_neg, if_true, if_false, Bool.false_eq_true, and_true, true_and, and_false, false_and, mI_pL, mK_pL, mN_pL, mR_pL, mL_pL, mL_pI, mI_pR, mL_pR, mK_pR, mN_pR, mR_pR, mI_pC, mL_pC, mK_pC, mN_pC, mR_pC]) <;> rfl)) | (apply stL; focus ((try simp (disch := omega) only [hs.k, b1, ofNat_nI, i_lit, mI_pI, mK_pI, mN_pI, mR_pI, nI_ltI, nI_eq, nI_add, nI_mul, mjIn_nI, nI_clamp, neg1_lt0, if_pos, if_neg, if_true, if_false, Bool.false_eq_true, and_true, true_and, and_false, false_and, mI_pL, mK_pL, mN_pL, mR_pL, mL_pL, mL_pI, mI_pR, mL_pR, mK_pR, mN_pR, mR_pR, mI_pC, mL_pC, mK_pC, mN_pC, mR_pC]) <;> rfl)) | (apply stA; focus ((try simp (disch := omega) only [hs.k, b1, ofNat_nI, i_lit, mI_pI, mK_pI, mN_pI, mR_pI, nI_ltI, nI_eq, nI_add, nI_mul, mjIn_nI, nI_clamp, neg1_lt0, if_pos, if_neg, if_true, if_false, Bool.false_eq_true, and_true, true_and, and_false, false_and, mI_pL, mK_pL, mN_pL, mR_pL, mL_pL, mL_pI, mI_pR, mL_pR, mK_pR, mN_pR, mR_pR, mI_pC, mL_pC, mK_pC, mN_pC, mR_pC]) <;> rfl)))
    try simp (disch := omega) only [hs.k, b1, ofNat_nI, i_lit, mI_pI, mK_pI, mN_pI, mR_pI, nI_ltI, nI_eq, nI_add, nI_mul, mjIn_nI, nI_clamp, neg1_lt0, if_pos, if_neg, if_true, if_false, Bool.false_eq_true, and_true, true_and, and_false, false_and, mI_pL, mK_pL, mN_pL, mR_pL, mL_pL, mL_pI, mI_pR, mL_pR, mK_pR, mN_pR, mR_pR, mI_pC, mL_pC, mK_pC, mN_pC, mR_pC]
  · have f : Fr (fun a k => a = 243 ∧ k = 12) h (pI h 243 12 (nI (np + 1))) := Fr.pI ⟨rfl, rfl⟩
    exact ⟨⟨by rw [f.I (by omega)]; exact a1, by rw [f.I (by omega)]; exact a2, a3⟩, ⟨pI_at, by omega⟩, by rw [f.I (by omega)]; exact d1, d2.keep (fun k _ _ => f.I (by omega))⟩
theorem W7 : (126926641718642 : Int64) = Wk 7 ∧ (123581014175598 : Int64) = Wk 8 ∧ (27973166868030835 : Int64) = Wk 9 ∧ (1735156068 : Int64) = Wk 10 ∧ (7305070 : Int64) = Wk 11 ∧ (448377677669 : Int64) = Wk 12 ∧ (422876638324 : Int64) = Wk 13 ∧ (1852138852 : Int64) = Wk 14 ∧ (2003399784 : Int64) = Wk 15 ∧ (465893420647 : Int64) = Wk 16 ∧ (6578553 : Int64) = Wk 17 := by decide +kernel
theorem W0 : (439854918756 : Int64) = Wk 0 ∧ (2003792491 : Int64) = Wk 1 ∧ (1952541541 : Int64) = Wk 2 ∧ (26982 : Int64) = Wk 3 ∧ (28530 : Int64) = Wk 4 ∧ (6385252 : Int64) = Wk 5 ∧ (7237492 : Int64) = Wk 6 := by decide +kernel
/-- which word of a rule's values stands there -/
theorem rn_which (E : mjFix ev) (q : RPn h tb tl t pre s) : mjCall ev 153 lv [.ref 243] h = some (.int (if 135 ≤ kd s.1 ∧ kd s.1 ≤ 145 then nI (kd s.1 - 135) else -nI 1), h) := by
  obtain ⟨w7, w8, w9, w10, w11, w12, w13, w14, w15, w16, w17⟩ := W7
  have e7 := rn_word (lv := lv) (k := 7) E q (by omega) w7
  have e8 := rn_word (lv := lv) (k := 8) E q (by omega) w8
  have e9 := rn_word (lv := lv) (k := 9) E q (by omega) w9
  have e10 := rn_word (lv := lv) (k := 10) E q (by omega) w10
  have e11 := rn_word (lv := lv) (k := 11) E q (by omega) w11
  have e12 := rn_word (lv := lv) (k := 12) E q (by omega) w12
  have e13 := rn_word (lv := lv) (k := 13) E q (by omega) w13
  have e14 := rn_word (lv := lv) (k := 14) E q (by omega) w14
  have e15 := rn_word (lv := lv) (k := 15) E q (by omega) w15
  have e16 := rn_word (lv := lv) (k := 16) E q (by omega) w16
  have e17 := rn_word (lv := lv) (k := 17) E q (by omega) w17
  have hs := q.o.sh
  show ev 153 lv 0 [.ref 243] [] h = _
  rw [e_153_0 E]
  by_cases y : 135 ≤ kd s.1 ∧ kd s.1 ≤ 145
  · rw [if_pos y]
    rcases (show kd s.1 = 135 ∨ kd s.1 = 136 ∨ kd s.1 = 137 ∨ kd s.1 = 138 ∨ kd s.1 = 139 ∨ kd s.1 = 140 ∨ kd s.1 = 141 ∨ kd s.1 = 142 ∨ kd s.1 = 143 ∨ kd s.1 = 144 ∨ kd s.1 = 145 by omega) with z | z | z | z | z | z | z | z | z | z | z
    all_goals
      rw [z]
      repeat (first | (apply ifT; focus ((try simp (disch := omega) only [hs.k, e7, e8, e9, e10, e11, e12, e13, e14, e15, e16, e17, ofNat_nI, i_lit, mI_pI, mK_pI, mN_pI, mR_pI, nI_ltI, nI_eq, nI_add, nI_mul, mjIn_nI, nI_clamp, neg1_lt0, if_pos, if_neg, if_true, if_false, Bool.false_eq_true, and_true, true_and, and_false, false_and, mI_pL, mK_pL, mN_pL, mR_pL, mL_pL, mL_pI, mI_pR, mL_pR, mK_pR, mN_pR, mR_pR, mI_pC, mL_pC, mK_pC, mN_pC, mR_pC]) <;> first | omega | decide)) | (apply ifF; focus ((try simp (disch := omega) only [hs.k, e7, e8, e9, e10, e11, e12, e13, e14, e15, e16, e17, ofNat_nI, i_lit, mI_pI, mK_pI, mN_pI, mR_pI, nI_ltI, nI_eq, nI_add, nI_mul, mjIn_nI, nI_clamp, neg1_lt0, if_pos, if_neg, if_true, if_false, Bool.false_eq_true, and_true, true_and, and_false, false_and, mI_pL, mK_pL, mN_pL, mR_pL, mL_pL, mL_pI, mI_pR, mL_pR, mK_pR, mN_pR, mR_pR, mI_pC, mL_pC, mK_pC, mN_pC, mR_pC]) <;> first | omega | decide)) | (apply stI; focus ((try simp (disch := omega) only [hs.k, e7, e8, e9, e10, e11, e12, e13, e14, e15, e16, e17, ofNat_nI, i_lit, mI_pI, mK_pI, mN_pI, mR_pI, nI_ltI, nI_eq, nI_add, nI_mul, mjIn_nI, nI_clamp, neg1_lt0, if_pos, if_neg, if_true, if_false, Bool.false_eq_true, and_true, true_and, and_false, false_and, mI_pL, mK_pL, mN_pL, mR_pL, mL_pL, mL_pI, mI_pR, mL_pR, mK_pR, mN_pR, mR_pR, mI_pC, mL_pC, mK_pC, mN_pC, mR_pC]) <;> rfl)) | (apply stV; focus ((try simp (disch := omega) only [hs.k, e7, e8, e9, e10, e11, e12, e13, e14, e15, e16, e17, ofNat_nI, i_lit, mI_pI, mK_pI, mN_pI, mR_pI, nI_ltI, nI_eq, nI_add, nI_mul, mjIn_nI, nI_clamp, neg1_lt0, if_pos, if_neg, if_true, if_false, Bool.false_eq_true, and_true, true_and, and_false, false_and, mI_pL, mK_pL, mN_pL, mR_pL, mL_pL, mL_pI, mI_pR, mL_pR, mK_pR, mN_pR, mR_pR, mI_pC, mL_pC, mK_pC, mN_pC, mR_pC]) <;> rfl)) | (apply stL; focus ((try simp (disch := omega) only [hs.k, e7, e8, e9, e10, e11, e12, e13, e14, e15, e16, e17, ofNat_nI, i_lit, mI_pI, mK_pI, mN_pI, mR_pI, nI_ltI, nI_eq, nI_add, nI_mul, mjIn_nI, nI_clamp, neg1_lt0, if_pos, if_neg, if_true, if_false, Bool.false_eq_true, and_true, true_and, and_false, false_and, mI_pL, mK_pL, mN_pL, mR_pL, mL_pL, mL_pI, mI_pR, mL_pR, mK_pR, mN_pR, mR_pR, mI_pC, mL_pC, mK_pC, mN_pC, mR_pC]) <;> rfl)) | (apply stA; focus ((try simp (disch := omega) only [hs.k, e7, e8, e9, e10, e11, e12, e13, e14, e15, e16, e17, ofNat_nI, i_lit, mI_pI, mK_pI, mN_pI, mR_pI, nI_ltI, nI_eq, nI_add, nI_mul, mjIn_nI, nI_clamp, neg1_lt0, if_pos, if_neg, if_true, if_false, Bool.false_eq_true, and_true, true_and, and_false, false_and, mI_pL, mK_pL, mN_pL, mR_pL, mL_pL, mL_pI, mI_pR, mL_pR, mK_pR, mN_pR, mR_pR, mI_pC, mL_pC, mK_pC, mN_pC, mR_pC]) <;> rfl)))
      try simp (disch := omega) only [hs.k, e7, e8, e9, e10, e11, e12, e13, e14, e15, e16, e17, ofNat_nI, i_lit, mI_pI, mK_pI, mN_pI, mR_pI, nI_ltI, nI_eq, nI_add, nI_mul, mjIn_nI, nI_clamp, neg1_lt0, if_pos, if_neg, if_true, if_false, Bool.false_eq_true, and_true, true_and, and_false, false_and, mI_pL, mK_pL, mN_pL, mR_pL, mL_pL, mL_pI, mI_pR, mL_pR, mK_pR, mN_pR, mR_pR, mI_pC, mL_pC, mK_pC, mN_pC, mR_pC]
  · rw [if_neg y]
    repeat (first | (apply ifT; focus ((try simp (disch := omega) only [hs.k, e7, e8, e9, e10, e11, e12, e13, e14, e15, e16, e17, ofNat_nI, i_lit, mI_pI, mK_pI, mN_pI, mR_pI, nI_ltI, nI_eq, nI_add, nI_mul, mjIn_nI, nI_clamp, neg1_lt0, if_pos, if_neg, if_true, if_false, Bool.false_eq_true, and_true, true_and, and_false, false_and, mI_pL, mK_pL, mN_pL, mR_pL, mL_pL, mL_pI, mI_pR, mL_pR, mK_pR, mN_pR, mR_pR, mI_pC, mL_pC, mK_pC, mN_pC, mR_pC]) <;> first | omega | decide)) | (apply ifF; focus ((try simp (disch := omega) only [hs.k, e7, e8, e9, e10, e11, e12, e13, e14, e15, e16, e17, ofNat_nI, i_lit, mI_pI, mK_pI, mN_pI, mR_pI, nI_ltI, nI_eq, nI_add, nI_mul, mjIn_nI, nI_clamp, neg1_lt0, if_pos, if_neg, if_true, if_false, Bool.false_eq_true, and_true, true_and, and_false, false_and, mI_pL, mK_pL, mN_pL, mR_pL, mL_pL, mL_pI, mI_pR, mL_pR, mK_pR, mN_pR, mR_pR, mI_pC, mL_pC, mK_pC, mN_pC, mR_pC]) <;> first | omega | decide)) | (apply stI; focus ((try simp (disch := omega) only [hs.k, e7, e8, e9, e10, e11, e12, e13, e14, e15, e16, e17, ofNat_nI, i_lit, mI_pI, mK_pI, mN_pI, mR_pI, nI_ltI, nI_eq, nI_add, nI_mul, mjIn_nI, nI_clamp, neg1_lt0, if_pos, if_neg, if_true, if_false, Bool.false_eq_true, and_true, true_and, and_false, false_and, mI_pL, mK_pL, mN_pL, mR_pL, mL_pL, mL_pI, mI_pR, mL_pR, mK_pR, mN_pR, mR_pR, mI_pC, mL_pC, mK_pC, mN_pC, mR_pC]) <;> rfl)) | (apply stV; focus ((try simp (disch := omega) only [hs.k, e7, e8, e9, e10, e11, e12, e13, e14, e15, e16, e17, ofNat_nI, i_lit, mI_pI, mK_pI, mN_pI, mR_pI, nI_ltI, nI_eq, nI_add, nI_mul, mjIn_nI, nI_clamp, neg1_lt0, if_pos, if_neg, if_true, if_false, Bool.false_eq_true, and_true, true_and, and_false, false_and, mI_pL, mK_pL, mN_pL, mR_pL, mL_pL, mL_pI, mI_pR, mL_pR, mK_pR, mN_pR, mR_pR, mI_pC, mL_pC, mK_pC, mN_pC, mR_pC]) <;> rfl)) | (apply stL; focus ((try simp (disch := omega) only [hs.k, e7, e8, e9, e10, e11, e12, e13, e14, e15, e16, e17, ofNat_nI, i_lit, mI_pI, mK_pI, mN_pI, mR_pI, nI_ltI, nI_eq, nI_add, nI_mul, mjIn_nI, nI_clamp, neg1_lt0, if_pos, if_neg, if_true, if_false, Bool.false_eq_true, and_true, true_and, and_false, false_and, mI_pL, mK_pL, mN_pL, mR_pL, mL_pL, mL_pI, mI_pR, mL_pR, mK_pR, mN_pR, mR_pR, mI_pC, mL_pC, mK_pC, mN_pC, mR_pC]) <;> rfl)) | (apply stA; focus ((try simp (disch := omega) only [hs.k, e7, e8, e9, e10, e11, e12, e13, e14, e15, e16, e17, ofNat_nI, i_lit, mI_pI, mK_pI, mN_pI, mR_pI, nI_ltI, nI_eq, nI_add, nI_mul, mjIn_nI, nI_clamp, neg1_lt0, if_pos, if_neg, if_true, if_false, Bool.false_eq_true, and_true, true_and, and_false, false_and, mI_pL, mK_pL, mN_pL, mR_pL, mL_pL, mL_pI, mI_pR, mL_pR, mK_pR, mN_pR, mR_pR, mI_pC, mL_pC, mK_pC, mN_pC, mR_pC]) <;> rfl)))
    try simp (disch := omega) only [hs.k, e7, e8, e9, e10, e11, e12, e13, e14, e15, e16, e17, ofNat_nI, i_lit, mI_pI, mK_pI, mN_pI, mR_pI, nI_ltI, nI_eq, nI_add, nI_mul, mjIn_nI, nI_clamp, neg1_lt0, if_pos, if_neg, if_true, if_false, Bool.false_eq_true, and_true, true_and, and_false, false_and, mI_pL, mK_pL, mN_pL, mR_pL, mL_pL, mL_pI, mI_pR, mL_pR, mK_pR, mN_pR, mR_pR, mI_pC, mL_pC, mK_pC, mN_pC, mR_pC]
end RV
