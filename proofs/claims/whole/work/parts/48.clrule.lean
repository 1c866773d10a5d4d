/-! a rule of the class, reckoned out -/
theorem i64_tri (x y : Int64) : x < y ∨ x = y ∨ y < x := by
  rcases Int.lt_trichotomy x.toInt y.toInt with a | a | a
  · exact Or.inl (Int64.lt_iff_toInt_lt.mpr a)
  · exact Or.inr (Or.inl (Int64.toInt_inj.mp a))
  · exact Or.inr (Or.inr (Int64.lt_iff_toInt_lt.mpr a))
theorem i64_irr {x : Int64} (h : x < x) : False := Int64.lt_irrefl h
theorem i64_asym {x y : Int64} (h : x < y) (h2 : y < x) : False := i64_irr (Int64.lt_trans h h2)
theorem cmp_gt (x y : Int64) : (0 < (if x < y then -1 else if x = y then 0 else 1 : Int32)) ↔ y < x := by
  rcases i64_tri x y with a | a | a
  · rw [if_pos a]; exact ⟨fun z => absurd z (by decide), fun z => (i64_asym a z).elim⟩
  · subst a; rw [if_neg (fun z => i64_irr z), if_pos rfl]; exact ⟨fun z => absurd z (by decide), fun z => (i64_irr z).elim⟩
  · rw [if_neg (fun z => i64_asym a z), if_neg (fun z => by subst z; exact i64_irr a)]; exact ⟨fun _ => a, fun _ => by decide⟩
theorem cmp_lt (x y : Int64) : ((if x < y then -1 else if x = y then 0 else 1 : Int32) < 0) ↔ x < y := by
  rcases i64_tri x y with a | a | a
  · rw [if_pos a]; exact ⟨fun _ => a, fun _ => by decide⟩
  · subst a; rw [if_neg (fun z => i64_irr z), if_pos rfl]; exact ⟨fun z => absurd z (by decide), fun z => (i64_irr z).elim⟩
  · rw [if_neg (fun z => i64_asym a z), if_neg (fun z => by subst z; exact i64_irr a)]; exact ⟨fun z => absurd z (by decide), fun z => (i64_asym a z).elim⟩
theorem cmp_eq (x y : Int64) : ((if x < y then -1 else if x = y then 0 else 1 : Int32) = 0) ↔ x = y := by
  rcases i64_tri x y with a | a | a
  · rw [if_pos a]; exact ⟨fun z => absurd z (by decide), fun z => by subst z; exact (i64_irr a).elim⟩
  · subst a; rw [if_neg (fun z => i64_irr z), if_pos rfl]; exact ⟨fun _ => rfl, fun _ => rfl⟩
  · rw [if_neg (fun z => i64_asym a z), if_neg (fun z => by subst z; exact i64_irr a)]; exact ⟨fun z => absurd z (by decide), fun z => by subst z; exact (i64_irr a).elim⟩
theorem neg_toInt {a : Nat} (h : a < 2 ^ 31) : (-nI a : Int32).toInt = -(a : Int) := by
  rw [Int32.toInt_neg, nI_toInt h]
  exact Int.bmod_eq_of_le (by omega) (by omega)
theorem ng_eq {a b : Nat} (ha : a < 2 ^ 31) (hb : b < 2 ^ 31) : (-nI a = -nI b) = (a = b) := by
  refine propext ⟨fun e => ?_, fun e => by rw [e]⟩
  have := congrArg Int32.toInt e
  rw [neg_toInt ha, neg_toInt hb] at this
  omega
theorem ng_ne {v k : Nat} (hv : v < 2 ^ 31) (hk : 0 < k) (hk2 : k < 2 ^ 31) : (nI v = -nI k) = False := by
  refine eq_false (fun e => ?_)
  have := congrArg Int32.toInt e
  rw [neg_toInt hk2, nI_toInt hv] at this
  omega
theorem ng_ne' {v k : Nat} (hv : v < 2 ^ 31) (hk : 0 < k) (hk2 : k < 2 ^ 31) : (-nI k = nI v) = False := by
  refine eq_false (fun e => ?_)
  have := congrArg Int32.toInt e
  rw [neg_toInt hk2, nI_toInt hv] at this
  omega
theorem ng_lt {a b : Nat} (ha : a < 2 ^ 31) (hb : b < 2 ^ 31) : (-nI a < -nI b) = (b < a) := by
  refine propext ?_
  rw [Int32.lt_iff_toInt_lt, neg_toInt ha, neg_toInt hb]
  omega
theorem ng_ltn {a b : Nat} (ha : a < 2 ^ 31) (hb : b < 2 ^ 31) : (-nI a < nI b) = (0 < a + b) := by
  refine propext ?_
  rw [Int32.lt_iff_toInt_lt, neg_toInt ha, nI_toInt hb]
  omega
theorem n_ltng {a b : Nat} (ha : a < 2 ^ 31) (hb : b < 2 ^ 31) : (nI a < -nI b) = False := by
  refine eq_false ?_
  rw [Int32.lt_iff_toInt_lt, neg_toInt hb, nI_toInt ha]
  omega
theorem ng_ng (a : Nat) : (- -nI a : Int32) = nI a := Int32.neg_neg
theorem n_dec {a b : Nat} (h : b ≤ a) : nI a + -nI b = nI (a - b) := by rw [← nI_sub h, Int32.sub_eq_add_neg]
def stepN (s : Nat) : Nat := if s = 2 then 43 else if s = 3 then 45 else if s = 4 then 42 else if s = 5 then 47 else if s = 6 then 60 else if s = 7 then 4 else if s = 8 then 61 else if s = 9 then 5 else if s = 10 then 62 else if s = 11 then 134 else if s = 12 then 133 else if s = 13 then 132 else 37
def stepO (o : Nat) : Int32 := if o % 16 = 0 then nI (o / 16) else if o % 16 = 1 then -nI (135 + o / 16) else -nI (stepN (o % 16))
def stepsC (c : List Nat × Option (List Nat)) : List Int32 := c.1.map stepO ++ (match c.2 with
  | none => [-nI 130]
  | some t => t.map stepO ++ [-nI 131])
def stepsR : rul → List Int32
  | [] => []
  | c :: r => stepsC c ++ stepsR r
/-- a row's places from one on -/
def Rw (h : mjS) (c : Nat) : Nat → List Int32 → Prop
  | _, [] => True
  | i, x :: l => mI h c i = x ∧ Rw h c (i + 1) l
theorem Rw.app {h : mjS} {c : Nat} : ∀ {l m : List Int32} {i : Nat}, Rw h c i (l ++ m) ↔ Rw h c i l ∧ Rw h c (i + l.length) m := by
  intro l
  induction l with
  | nil => intro m i; exact ⟨fun a => ⟨trivial, a⟩, fun a => a.2⟩
  | cons x l ih =>
    intro m i
    show (mI h c i = x ∧ Rw h c (i + 1) (l ++ m)) ↔ (mI h c i = x ∧ Rw h c (i + 1) l) ∧ Rw h c (i + (l.length + 1)) m
    rw [ih, show i + (l.length + 1) = i + 1 + l.length by omega, and_assoc]
theorem Rw.keep {h h' : mjS} {c : Nat} : ∀ {l : List Int32} {i : Nat}, (∀ k, i ≤ k → k < i + l.length → mI h' c k = mI h c k) → Rw h c i l → Rw h' c i l := by
  intro l
  induction l with
  | nil => intros; trivial
  | cons x l ih => intro i hk r; exact ⟨(hk i (by omega) (by simp)).trans r.1, ih (fun k a b => hk k (by omega) (by simp; omega)) r.2⟩
/-- a rule of the class: the object, its steps, its stack -/
def RU (h : mjS) (rl : Nat) (r : rul) : Prop := (rl ≠ 0 ∧ mK h rl = 7 ∧ mR h rl 0 = rl + 1 ∧ mR h rl 1 = rl + 2) ∧ (mK h (rl + 1) = 20 ∧ mN h (rl + 1) = (stepsR r).length ∧ mK h (rl + 2) = 23 ∧ mN h (rl + 2) = 60) ∧ Rw h (rl + 1) 0 (stepsR r) ∧ (stepsR r).length ≤ 400 ∧ okR r
section CU
variable {ev : mjT} {lv : Nat}
theorem sp_comb (E : mjFix ev) (h : mjS) (x y : Int64) {s : Nat} (hs : 2 ≤ s ∧ s < 15 ∧ s ≠ 11) : mjCall ev 32 lv [.int (nI (stepN s)), .long x, .long y] h = some (.long (xbin s x y), h) := by
  show ev 32 lv 0 [.int (nI (stepN s)), .long x, mjD, .long y, mjD] [] h = _
  rw [e_32_0 E]
  rcases (show s = 2 ∨ s = 3 ∨ s = 4 ∨ s = 5 ∨ s = 6 ∨ s = 7 ∨ s = 8 ∨ s = 9 ∨ s = 10 ∨ s = 12 ∨ s = 13 ∨ s = 14 by omega) with rfl | rfl | rfl | rfl | rfl | rfl | rfl | rfl | rfl | rfl | rfl | rfl
  all_goals (repeat (first | (apply ifT; focus decide) | (apply ifF; focus decide)))
  · rfl
  · rfl
  · rfl
  · show _ = some (Value.long (if y = 0 then 0 else x / y), h)
    by_cases z : y = 0
    · rw [if_pos ((cmp_eq y 0).mpr z), if_pos z]
    · rw [if_neg (fun e => z ((cmp_eq y 0).mp e)), if_neg z, if_neg z]
  · show _ = some (Value.long (if x < y then 1 else 0), h)
    by_cases z : x < y
    · rw [if_pos ((cmp_lt x y).mpr z), if_pos z]
    · rw [if_neg (fun e => z ((cmp_lt x y).mp e)), if_neg z]
  · show _ = some (Value.long (if y < x then 0 else 1), h)
    by_cases z : y < x
    · rw [if_pos ((cmp_gt x y).mpr z), if_pos z]
    · rw [if_neg (fun e => z ((cmp_gt x y).mp e)), if_neg z]
  · show _ = some (Value.long (if x = y then 1 else 0), h)
    by_cases z : x = y
    · rw [if_pos ((cmp_eq x y).mpr z), if_pos z]
    · rw [if_neg (fun e => z ((cmp_eq x y).mp e)), if_neg z]
  · show _ = some (Value.long (if x < y then 0 else 1), h)
    by_cases z : x < y
    · rw [if_pos ((cmp_lt x y).mpr z), if_pos z]
    · rw [if_neg (fun e => z ((cmp_lt x y).mp e)), if_neg z]
  · show _ = some (Value.long (if y < x then 1 else 0), h)
    by_cases z : y < x
    · rw [if_pos ((cmp_gt x y).mpr z), if_pos z]
    · rw [if_neg (fun e => z ((cmp_gt x y).mp e)), if_neg z]
  · rfl
  · rfl
  · show _ = some (Value.long (if y = 0 then 0 else x - x / y * y), h)
    by_cases z : y = 0
    · rw [if_pos ((cmp_eq y 0).mpr z), if_pos z]
    · rw [if_neg (fun e => z ((cmp_eq y 0).mp e)), if_neg z, if_neg z]
/-- other longs of a stack alone -/
def Dl (st : Nat) (h h1 : mjS) : Prop := Fr (fun a _ => a = st) h h1 ∧ ∀ a k, mI h1 a k = mI h a k
theorem Dl.rf {st : Nat} {h : mjS} : Dl st h h := ⟨Fr.rf, fun _ _ => rfl⟩
theorem Dl.pL {st : Nat} {h h1 : mjS} (d : Dl st h h1) (k : Nat) (v : Int64) : Dl st h (pL h1 st k v) := ⟨d.1.tr (Fr.pL rfl), d.2⟩
theorem stepN_lt {s : Nat} : 4 ≤ stepN s ∧ stepN s ≤ 134 ∧ (s ≠ 11 → stepN s < 134 ∧ stepN s ≠ 130 ∧ stepN s ≠ 131) := by
  unfold stepN
  repeat' split
  all_goals omega
theorem tyo_two {o : Nat} {ts ts' : List Bool} (h : tyo o ts = some ts') (h0 : o % 16 ≠ 0) (h1 : o % 16 ≠ 1) (h11 : o % 16 ≠ 11) : 2 ≤ ts.length ∧ o % 16 < 15 := by
  unfold tyo at h
  rw [if_neg (by omega), if_neg h11] at h
  split at h
  · split at h
    · exact ⟨Nat.le_add_left 2 _, by omega⟩
    · cases h
  · split at h
    · split at h
      · exact ⟨Nat.le_add_left 2 _, by omega⟩
      · cases h
    · split at h
      · split at h
        · exact ⟨Nat.le_add_left 2 _, by omega⟩
        · cases h
      · cases h
theorem ru_op (E : mjFix ev) {h : mjS} {rl q s n : Nat} {wr : Nat → Nat} (k0 : mK h rl = 7) (r0 : mR h rl 0 = rl + 1) (r1 : mR h rl 1 = rl + 2) (k1 : mK h (rl + 1) = 20) (n1 : mN h (rl + 1) = n) (k2 : mK h (rl + 2) = 23) (n2 : mN h (rl + 2) = 60) (kq : mK h q = 10) (hn : n ≤ 400)
    (hW : ∀ h1, Dl (rl + 2) h h1 → ∀ k, k < 11 → mjCall ev 61 lv [.ref q, .int (nI (135 + k)), .int (nI s)] h1 = some (.int (nI (wr k)), h1)) {o i : Nat} {ts ts' : List Bool} {xs : List Int64} {h1 : mjS} (w5 : Value) (ok : okO o) (ht : tyo o ts = some ts') (b : Bt ts xs) (hx : xs.length + npush [o] ≤ 60) (hr : mI h (rl + 1) i = stepO o) (hi : i < n) (d : Dl (rl + 2) h h1) (sk : Sk h1 (rl + 2) xs) :
    ∃ h2 w', ev 31 lv 5 [.ref rl, .ref q, .int (nI s), .int (nI xs.length), .int (nI i), w5] [] h1 = ev 31 lv 5 [.ref rl, .ref q, .int (nI s), .int (nI (xop (fun w => nL (wr w)) o xs).length), .int (nI (i + 1)), w'] [] h2 ∧ Dl (rl + 2) h h2 ∧ Sk h2 (rl + 2) (xop (fun w => nL (wr w)) o xs) := by
  have K0 : mK h1 rl = 7 := by rw [d.1.K]; exact k0
  have R0 : mR h1 rl 0 = rl + 1 := by rw [d.1.R]; exact r0
  have R1 : mR h1 rl 1 = rl + 2 := by rw [d.1.R]; exact r1
  have K1 : mK h1 (rl + 1) = 20 := by rw [d.1.K]; exact k1
  have N1 : mN h1 (rl + 1) = n := by rw [d.1.N]; exact n1
  have K2 : mK h1 (rl + 2) = 23 := by rw [d.1.K]; exact k2
  have N2 : mN h1 (rl + 2) = 60 := by rw [d.1.N]; exact n2
  have KQ : mK h1 q = 10 := by rw [d.1.K]; exact kq
  have HR : mI h1 (rl + 1) i = stepO o := by rw [d.2]; exact hr
  have ol := ok.1
  unfold npush npush at hx
  by_cases c0 : o % 16 = 0
  · rw [if_pos (Or.inl c0)] at hx
    rw [show stepO o = nI (o / 16) by unfold stepO; rw [if_pos c0]] at HR
    rw [show xop (fun w => nL (wr w)) o xs = nL (o / 16) :: xs by unfold xop; rw [if_pos c0]]
    refine ⟨pL h1 (rl + 2) xs.length (nL (o / 16)), .int (nI (o / 16)), ?_, d.pL _ _, sk.push _ rfl⟩
    rw [e_31_5 E]
    repeat (first | (apply ifT; focus ((try simp (disch := omega) only [K0, R0, R1, K1, N1, K2, N2, HR, ofNat_nI, ng_ne, i_lit, mI_pI, mK_pI, mN_pI, mR_pI, nI_ltI, nI_eq, nI_add, nI_mul, mjIn_nI, nI_clamp, neg1_lt0, if_pos, if_neg, if_true, if_false, Bool.false_eq_true, and_true, true_and, and_false, false_and]) <;> omega)) | (apply ifF; focus ((try simp (disch := omega) only [K0, R0, R1, K1, N1, K2, N2, HR, ofNat_nI, ng_ne, i_lit, mI_pI, mK_pI, mN_pI, mR_pI, nI_ltI, nI_eq, nI_add, nI_mul, mjIn_nI, nI_clamp, neg1_lt0, if_pos, if_neg, if_true, if_false, Bool.false_eq_true, and_true, true_and, and_false, false_and]) <;> omega)) | (apply stI; focus ((try simp (disch := omega) only [K0, R0, R1, K1, N1, K2, N2, HR, ofNat_nI, ng_ne, i_lit, mI_pI, mK_pI, mN_pI, mR_pI, nI_ltI, nI_eq, nI_add, nI_mul, mjIn_nI, nI_clamp, neg1_lt0, if_pos, if_neg, if_true, if_false, Bool.false_eq_true, and_true, true_and, and_false, false_and]) <;> rfl)) | (apply stV; focus ((try simp (disch := omega) only [K0, R0, R1, K1, N1, K2, N2, HR, ofNat_nI, ng_ne, i_lit, mI_pI, mK_pI, mN_pI, mR_pI, nI_ltI, nI_eq, nI_add, nI_mul, mjIn_nI, nI_clamp, neg1_lt0, if_pos, if_neg, if_true, if_false, Bool.false_eq_true, and_true, true_and, and_false, false_and]) <;> rfl)) | (apply stL; focus ((try simp (disch := omega) only [K0, R0, R1, K1, N1, K2, N2, HR, ofNat_nI, ng_ne, i_lit, mI_pI, mK_pI, mN_pI, mR_pI, nI_ltI, nI_eq, nI_add, nI_mul, mjIn_nI, nI_clamp, neg1_lt0, if_pos, if_neg, if_true, if_false, Bool.false_eq_true, and_true, true_and, and_false, false_and]) <;> rfl)))
    try simp (disch := omega) only [K0, R0, R1, K1, N1, K2, N2, HR, ofNat_nI, ng_ne, i_lit, mI_pI, mK_pI, mN_pI, mR_pI, nI_ltI, nI_eq, nI_add, nI_mul, mjIn_nI, nI_clamp, neg1_lt0, if_pos, if_neg, if_true, if_false, Bool.false_eq_true, and_true, true_and, and_false, false_and]
    rw [e_31_83 E]
    repeat (first | (apply ifT; focus ((try simp (disch := omega) only [K0, R0, R1, K1, N1, K2, N2, HR, i_lit, mI_pI, mK_pI, mN_pI, mR_pI, nI_ltI, nI_eq, nI_add, nI_mul, mjIn_nI, nI_clamp, neg1_lt0, if_pos, if_neg, if_true, if_false, Bool.false_eq_true, and_true, true_and, and_false, false_and]) <;> omega)) | (apply ifF; focus ((try simp (disch := omega) only [K0, R0, R1, K1, N1, K2, N2, HR, i_lit, mI_pI, mK_pI, mN_pI, mR_pI, nI_ltI, nI_eq, nI_add, nI_mul, mjIn_nI, nI_clamp, neg1_lt0, if_pos, if_neg, if_true, if_false, Bool.false_eq_true, and_true, true_and, and_false, false_and]) <;> omega)) | (apply stI; focus ((try simp (disch := omega) only [K0, R0, R1, K1, N1, K2, N2, HR, i_lit, mI_pI, mK_pI, mN_pI, mR_pI, nI_ltI, nI_eq, nI_add, nI_mul, mjIn_nI, nI_clamp, neg1_lt0, if_pos, if_neg, if_true, if_false, Bool.false_eq_true, and_true, true_and, and_false, false_and]) <;> rfl)) | (apply stV; focus ((try simp (disch := omega) only [K0, R0, R1, K1, N1, K2, N2, HR, i_lit, mI_pI, mK_pI, mN_pI, mR_pI, nI_ltI, nI_eq, nI_add, nI_mul, mjIn_nI, nI_clamp, neg1_lt0, if_pos, if_neg, if_true, if_false, Bool.false_eq_true, and_true, true_and, and_false, false_and]) <;> rfl)) | (apply stL; focus ((try simp (disch := omega) only [K0, R0, R1, K1, N1, K2, N2, HR, i_lit, mI_pI, mK_pI, mN_pI, mR_pI, nI_ltI, nI_eq, nI_add, nI_mul, mjIn_nI, nI_clamp, neg1_lt0, if_pos, if_neg, if_true, if_false, Bool.false_eq_true, and_true, true_and, and_false, false_and]) <;> rfl)))
    try simp (disch := omega) only [K0, R0, R1, K1, N1, K2, N2, HR, i_lit, mI_pI, mK_pI, mN_pI, mR_pI, nI_ltI, nI_eq, nI_add, nI_mul, mjIn_nI, nI_clamp, neg1_lt0, if_pos, if_neg, if_true, if_false, Bool.false_eq_true, and_true, true_and, and_false, false_and]
    rfl
  · by_cases c1 : o % 16 = 1
    · rw [if_pos (Or.inr c1)] at hx
      have ow := ok.2 c1
      have e61 := hW h1 d (o / 16) ow
      rw [show stepO o = -nI (135 + o / 16) by unfold stepO; rw [if_neg c0, if_pos c1]] at HR
      rw [show xop (fun w => nL (wr w)) o xs = nL (wr (o / 16)) :: xs by unfold xop; rw [if_neg c0, if_pos c1]]
      refine ⟨pL h1 (rl + 2) xs.length (nL (wr (o / 16))), .int (-nI (135 + o / 16)), ?_, d.pL _ _, sk.push _ rfl⟩
      rw [e_31_5 E]
      repeat (first | (apply ifT; focus ((try simp (disch := omega) only [K0, R0, R1, K1, N1, K2, N2, HR, ofNat_nI, ng_eq, ng_lt, ng_ltn, i_lit, mI_pI, mK_pI, mN_pI, mR_pI, nI_ltI, nI_eq, nI_add, nI_mul, mjIn_nI, nI_clamp, neg1_lt0, if_pos, if_neg, if_true, if_false, Bool.false_eq_true, and_true, true_and, and_false, false_and]) <;> omega)) | (apply ifF; focus ((try simp (disch := omega) only [K0, R0, R1, K1, N1, K2, N2, HR, ofNat_nI, ng_eq, ng_lt, ng_ltn, i_lit, mI_pI, mK_pI, mN_pI, mR_pI, nI_ltI, nI_eq, nI_add, nI_mul, mjIn_nI, nI_clamp, neg1_lt0, if_pos, if_neg, if_true, if_false, Bool.false_eq_true, and_true, true_and, and_false, false_and]) <;> omega)) | (apply stI; focus ((try simp (disch := omega) only [K0, R0, R1, K1, N1, K2, N2, HR, ofNat_nI, ng_eq, ng_lt, ng_ltn, i_lit, mI_pI, mK_pI, mN_pI, mR_pI, nI_ltI, nI_eq, nI_add, nI_mul, mjIn_nI, nI_clamp, neg1_lt0, if_pos, if_neg, if_true, if_false, Bool.false_eq_true, and_true, true_and, and_false, false_and]) <;> rfl)) | (apply stV; focus ((try simp (disch := omega) only [K0, R0, R1, K1, N1, K2, N2, HR, ofNat_nI, ng_eq, ng_lt, ng_ltn, i_lit, mI_pI, mK_pI, mN_pI, mR_pI, nI_ltI, nI_eq, nI_add, nI_mul, mjIn_nI, nI_clamp, neg1_lt0, if_pos, if_neg, if_true, if_false, Bool.false_eq_true, and_true, true_and, and_false, false_and]) <;> rfl)) | (apply stL; focus ((try simp (disch := omega) only [K0, R0, R1, K1, N1, K2, N2, HR, ofNat_nI, ng_eq, ng_lt, ng_ltn, i_lit, mI_pI, mK_pI, mN_pI, mR_pI, nI_ltI, nI_eq, nI_add, nI_mul, mjIn_nI, nI_clamp, neg1_lt0, if_pos, if_neg, if_true, if_false, Bool.false_eq_true, and_true, true_and, and_false, false_and]) <;> rfl)))
      try simp (disch := omega) only [K0, R0, R1, K1, N1, K2, N2, HR, ofNat_nI, ng_eq, ng_lt, ng_ltn, i_lit, mI_pI, mK_pI, mN_pI, mR_pI, nI_ltI, nI_eq, nI_add, nI_mul, mjIn_nI, nI_clamp, neg1_lt0, if_pos, if_neg, if_true, if_false, Bool.false_eq_true, and_true, true_and, and_false, false_and]
      rw [e_31_83 E]
      repeat (first | (apply ifT; focus ((try simp (disch := omega) only [K0, R0, R1, K1, N1, K2, N2, KQ, HR, ng_ltn, ng_ng, e61, i_lit, mI_pI, mK_pI, mN_pI, mR_pI, nI_ltI, nI_eq, nI_add, nI_mul, mjIn_nI, nI_clamp, neg1_lt0, if_pos, if_neg, if_true, if_false, Bool.false_eq_true, and_true, true_and, and_false, false_and]) <;> omega)) | (apply ifF; focus ((try simp (disch := omega) only [K0, R0, R1, K1, N1, K2, N2, KQ, HR, ng_ltn, ng_ng, e61, i_lit, mI_pI, mK_pI, mN_pI, mR_pI, nI_ltI, nI_eq, nI_add, nI_mul, mjIn_nI, nI_clamp, neg1_lt0, if_pos, if_neg, if_true, if_false, Bool.false_eq_true, and_true, true_and, and_false, false_and]) <;> omega)) | (apply stI; focus ((try simp (disch := omega) only [K0, R0, R1, K1, N1, K2, N2, KQ, HR, ng_ltn, ng_ng, e61, i_lit, mI_pI, mK_pI, mN_pI, mR_pI, nI_ltI, nI_eq, nI_add, nI_mul, mjIn_nI, nI_clamp, neg1_lt0, if_pos, if_neg, if_true, if_false, Bool.false_eq_true, and_true, true_and, and_false, false_and]) <;> rfl)) | (apply stV; focus ((try simp (disch := omega) only [K0, R0, R1, K1, N1, K2, N2, KQ, HR, ng_ltn, ng_ng, e61, i_lit, mI_pI, mK_pI, mN_pI, mR_pI, nI_ltI, nI_eq, nI_add, nI_mul, mjIn_nI, nI_clamp, neg1_lt0, if_pos, if_neg, if_true, if_false, Bool.false_eq_true, and_true, true_and, and_false, false_and]) <;> rfl)) | (apply stL; focus ((try simp (disch := omega) only [K0, R0, R1, K1, N1, K2, N2, KQ, HR, ng_ltn, ng_ng, e61, i_lit, mI_pI, mK_pI, mN_pI, mR_pI, nI_ltI, nI_eq, nI_add, nI_mul, mjIn_nI, nI_clamp, neg1_lt0, if_pos, if_neg, if_true, if_false, Bool.false_eq_true, and_true, true_and, and_false, false_and]) <;> rfl)))
      try simp (disch := omega) only [K0, R0, R1, K1, N1, K2, N2, KQ, HR, ng_ltn, ng_ng, e61, i_lit, mI_pI, mK_pI, mN_pI, mR_pI, nI_ltI, nI_eq, nI_add, nI_mul, mjIn_nI, nI_clamp, neg1_lt0, if_pos, if_neg, if_true, if_false, Bool.false_eq_true, and_true, true_and, and_false, false_and]
      rfl
    · by_cases c2 : o % 16 = 11
      · rw [show stepO o = -nI 134 by unfold stepO; rw [if_neg c0, if_neg c1, c2]; rfl] at HR
        unfold tyo at ht
        rw [if_neg (by omega), if_pos c2] at ht
        cases xs with
        | nil => cases ts with
          | nil => cases ht
          | cons t r => exact b.elim
        | cons x r =>
          rw [show xop (fun w => nL (wr w)) o (x :: r) = (1 - x) :: r by unfold xop; rw [if_neg c0, if_neg c1, if_pos c2]]
          have hl : r.length + 1 ≤ 60 := by simp at hx; omega
          have s1 := sk.1
          have sp : Sk (pL h1 (rl + 2) r.length (1 - x)) (rl + 2) ((1 - x) :: r) := Sk.push sk.2 _ rfl
          refine ⟨_, .int (-nI 134), ?_, d.pL _ _, sp⟩
          rw [e_31_5 E]
          rw [show (x :: r).length = r.length + 1 from rfl, show ((1 - x) :: r).length = r.length + 1 from rfl]
          repeat (first | (apply ifT; focus ((try simp (disch := omega) only [K0, R0, R1, K1, N1, K2, N2, HR, ofNat_nI, ng_eq, ng_lt, ng_ltn, nI_sub, Nat.add_sub_cancel, s1, i_lit, mI_pI, mK_pI, mN_pI, mR_pI, nI_ltI, nI_eq, nI_add, nI_mul, mjIn_nI, nI_clamp, neg1_lt0, if_pos, if_neg, if_true, if_false, Bool.false_eq_true, and_true, true_and, and_false, false_and]) <;> omega)) | (apply ifF; focus ((try simp (disch := omega) only [K0, R0, R1, K1, N1, K2, N2, HR, ofNat_nI, ng_eq, ng_lt, ng_ltn, nI_sub, Nat.add_sub_cancel, s1, i_lit, mI_pI, mK_pI, mN_pI, mR_pI, nI_ltI, nI_eq, nI_add, nI_mul, mjIn_nI, nI_clamp, neg1_lt0, if_pos, if_neg, if_true, if_false, Bool.false_eq_true, and_true, true_and, and_false, false_and]) <;> omega)) | (apply stI; focus ((try simp (disch := omega) only [K0, R0, R1, K1, N1, K2, N2, HR, ofNat_nI, ng_eq, ng_lt, ng_ltn, nI_sub, Nat.add_sub_cancel, s1, i_lit, mI_pI, mK_pI, mN_pI, mR_pI, nI_ltI, nI_eq, nI_add, nI_mul, mjIn_nI, nI_clamp, neg1_lt0, if_pos, if_neg, if_true, if_false, Bool.false_eq_true, and_true, true_and, and_false, false_and]) <;> rfl)) | (apply stV; focus ((try simp (disch := omega) only [K0, R0, R1, K1, N1, K2, N2, HR, ofNat_nI, ng_eq, ng_lt, ng_ltn, nI_sub, Nat.add_sub_cancel, s1, i_lit, mI_pI, mK_pI, mN_pI, mR_pI, nI_ltI, nI_eq, nI_add, nI_mul, mjIn_nI, nI_clamp, neg1_lt0, if_pos, if_neg, if_true, if_false, Bool.false_eq_true, and_true, true_and, and_false, false_and]) <;> rfl)) | (apply stL; focus ((try simp (disch := omega) only [K0, R0, R1, K1, N1, K2, N2, HR, ofNat_nI, ng_eq, ng_lt, ng_ltn, nI_sub, Nat.add_sub_cancel, s1, i_lit, mI_pI, mK_pI, mN_pI, mR_pI, nI_ltI, nI_eq, nI_add, nI_mul, mjIn_nI, nI_clamp, neg1_lt0, if_pos, if_neg, if_true, if_false, Bool.false_eq_true, and_true, true_and, and_false, false_and]) <;> rfl)))
          try simp (disch := omega) only [K0, R0, R1, K1, N1, K2, N2, HR, ofNat_nI, ng_eq, ng_lt, ng_ltn, nI_sub, Nat.add_sub_cancel, s1, i_lit, mI_pI, mK_pI, mN_pI, mR_pI, nI_ltI, nI_eq, nI_add, nI_mul, mjIn_nI, nI_clamp, neg1_lt0, if_pos, if_neg, if_true, if_false, Bool.false_eq_true, and_true, true_and, and_false, false_and]
      · obtain ⟨t2, t15⟩ := tyo_two ht c0 c1 c2
        have bl := b.len
        have sn := stepN_lt (s := o % 16)
        obtain ⟨s1, s2, s3⟩ := sn
        have s4 := s3 c2
        rw [show stepO o = -nI (stepN (o % 16)) by unfold stepO; rw [if_neg c0, if_neg c1]] at HR
        cases xs with
        | nil => simp at bl; omega
        | cons y xs => cases xs with
          | nil => simp at bl; omega
          | cons x r =>
            rw [show xop (fun w => nL (wr w)) o (y :: x :: r) = xbin (o % 16) x y :: r by unfold xop; rw [if_neg c0, if_neg c1, if_neg c2]]
            have hl : r.length + 2 ≤ 60 := by simp at hx; omega
            have y1 : mL h1 (rl + 2) (r.length + 1) = y := sk.1
            have x1 : mL h1 (rl + 2) r.length = x := sk.2.1
            have e32 := sp_comb (lv := lv) E h1 x y (s := o % 16) (by omega)
            have sp : Sk (pL h1 (rl + 2) r.length (xbin (o % 16) x y)) (rl + 2) (xbin (o % 16) x y :: r) := Sk.push sk.2.2 _ rfl
            refine ⟨_, .int (-nI (stepN (o % 16))), ?_, d.pL _ _, sp⟩
            rw [e_31_5 E]
            rw [show (y :: x :: r).length = r.length + 2 from rfl, show (xbin (o % 16) x y :: r).length = r.length + 1 from rfl]
            repeat (first | (apply ifT; focus ((try simp (disch := omega) only [K0, R0, R1, K1, N1, K2, N2, HR, ofNat_nI, ng_eq, ng_lt, ng_ltn, ng_ng, n_dec, nI_sub, show r.length + 2 - 1 = r.length + 1 from rfl, Nat.add_sub_cancel, y1, x1, e32, i_lit, mI_pI, mK_pI, mN_pI, mR_pI, nI_ltI, nI_eq, nI_add, nI_mul, mjIn_nI, nI_clamp, neg1_lt0, if_pos, if_neg, if_true, if_false, Bool.false_eq_true, and_true, true_and, and_false, false_and]) <;> omega)) | (apply ifF; focus ((try simp (disch := omega) only [K0, R0, R1, K1, N1, K2, N2, HR, ofNat_nI, ng_eq, ng_lt, ng_ltn, ng_ng, n_dec, nI_sub, show r.length + 2 - 1 = r.length + 1 from rfl, Nat.add_sub_cancel, y1, x1, e32, i_lit, mI_pI, mK_pI, mN_pI, mR_pI, nI_ltI, nI_eq, nI_add, nI_mul, mjIn_nI, nI_clamp, neg1_lt0, if_pos, if_neg, if_true, if_false, Bool.false_eq_true, and_true, true_and, and_false, false_and]) <;> omega)) | (apply stI; focus ((try simp (disch := omega) only [K0, R0, R1, K1, N1, K2, N2, HR, ofNat_nI, ng_eq, ng_lt, ng_ltn, ng_ng, n_dec, nI_sub, show r.length + 2 - 1 = r.length + 1 from rfl, Nat.add_sub_cancel, y1, x1, e32, i_lit, mI_pI, mK_pI, mN_pI, mR_pI, nI_ltI, nI_eq, nI_add, nI_mul, mjIn_nI, nI_clamp, neg1_lt0, if_pos, if_neg, if_true, if_false, Bool.false_eq_true, and_true, true_and, and_false, false_and]) <;> rfl)) | (apply stV; focus ((try simp (disch := omega) only [K0, R0, R1, K1, N1, K2, N2, HR, ofNat_nI, ng_eq, ng_lt, ng_ltn, ng_ng, n_dec, nI_sub, show r.length + 2 - 1 = r.length + 1 from rfl, Nat.add_sub_cancel, y1, x1, e32, i_lit, mI_pI, mK_pI, mN_pI, mR_pI, nI_ltI, nI_eq, nI_add, nI_mul, mjIn_nI, nI_clamp, neg1_lt0, if_pos, if_neg, if_true, if_false, Bool.false_eq_true, and_true, true_and, and_false, false_and]) <;> rfl)) | (apply stL; focus ((try simp (disch := omega) only [K0, R0, R1, K1, N1, K2, N2, HR, ofNat_nI, ng_eq, ng_lt, ng_ltn, ng_ng, n_dec, nI_sub, show r.length + 2 - 1 = r.length + 1 from rfl, Nat.add_sub_cancel, y1, x1, e32, i_lit, mI_pI, mK_pI, mN_pI, mR_pI, nI_ltI, nI_eq, nI_add, nI_mul, mjIn_nI, nI_clamp, neg1_lt0, if_pos, if_neg, if_true, if_false, Bool.false_eq_true, and_true, true_and, and_false, false_and]) <;> rfl)))
            try simp (disch := omega) only [K0, R0, R1, K1, N1, K2, N2, HR, ofNat_nI, ng_eq, ng_lt, ng_ltn, ng_ng, n_dec, nI_sub, show r.length + 2 - 1 = r.length + 1 from rfl, Nat.add_sub_cancel, y1, x1, e32, i_lit, mI_pI, mK_pI, mN_pI, mR_pI, nI_ltI, nI_eq, nI_add, nI_mul, mjIn_nI, nI_clamp, neg1_lt0, if_pos, if_neg, if_true, if_false, Bool.false_eq_true, and_true, true_and, and_false, false_and]
theorem ru_ops (E : mjFix ev) {h : mjS} {rl q s n : Nat} {wr : Nat → Nat} (k0 : mK h rl = 7) (r0 : mR h rl 0 = rl + 1) (r1 : mR h rl 1 = rl + 2) (k1 : mK h (rl + 1) = 20) (n1 : mN h (rl + 1) = n) (k2 : mK h (rl + 2) = 23) (n2 : mN h (rl + 2) = 60) (kq : mK h q = 10) (hn : n ≤ 400)
    (hW : ∀ h1, Dl (rl + 2) h h1 → ∀ k, k < 11 → mjCall ev 61 lv [.ref q, .int (nI (135 + k)), .int (nI s)] h1 = some (.int (nI (wr k)), h1)) : ∀ (l : List Nat) (i : Nat) (ts ts' : List Bool) (xs : List Int64) (h1 : mjS) (w5 : Value), okL l → ty l ts = some ts' → Bt ts xs → xs.length + npush l ≤ 60 → Rw h (rl + 1) i (l.map stepO) → i + l.length ≤ n → Dl (rl + 2) h h1 → Sk h1 (rl + 2) xs →
    ∃ h2 w', ev 31 lv 5 [.ref rl, .ref q, .int (nI s), .int (nI xs.length), .int (nI i), w5] [] h1 = ev 31 lv 5 [.ref rl, .ref q, .int (nI s), .int (nI (xops (fun w => nL (wr w)) l xs).length), .int (nI (i + l.length)), w'] [] h2 ∧ Dl (rl + 2) h h2 ∧ Sk h2 (rl + 2) (xops (fun w => nL (wr w)) l xs) := by
  intro l
  induction l with
  | nil => intro i ts ts' xs h1 w5 _ _ _ _ _ _ d sk; exact ⟨h1, w5, rfl, d, sk⟩
  | cons o l ih =>
    intro i ts ts' xs h1 w5 ok ht b hx hr hi d sk
    have ht : (tyo o ts).bind (ty l) = some ts' := ht
    have hx : xs.length + ((if o % 16 = 0 ∨ o % 16 = 1 then 1 else 0) + npush l) ≤ 60 := hx
    have hi : i + (l.length + 1) ≤ n := hi
    cases e : tyo o ts with
    | none => rw [e] at ht; cases ht
    | some t1 =>
      rw [e] at ht
      have ht : ty l t1 = some ts' := ht
      have o1 : npush [o] = if o % 16 = 0 ∨ o % 16 = 1 then 1 else 0 := Nat.add_zero _
      obtain ⟨h2, w2, e2, d2, s2⟩ := ru_op E k0 r0 r1 k1 n1 k2 n2 kq hn hW w5 (ok o List.mem_cons_self) e b (by rw [o1]; omega) hr.1 (by omega) d sk
      have b2 := tyo_Bt (W := fun w => nL (wr w)) e b
      have hl : (xop (fun w => nL (wr w)) o xs).length ≤ xs.length + npush [o] := by
        unfold xop
        rw [o1]
        split
        · rw [if_pos (by omega)]; exact Nat.le_refl _
        · split
          · rw [if_pos (by omega)]; exact Nat.le_refl _
          · split
            · split
              · exact Nat.le_add_right _ _
              · exact Nat.zero_le _
            · split
              · simp; omega
              · exact Nat.zero_le _
      obtain ⟨h3, w3, e3, d3, s3⟩ := ih (i + 1) t1 ts' (xop (fun w => nL (wr w)) o xs) h2 w2 (fun z hz => ok z (List.mem_cons_of_mem _ hz)) ht b2 (by rw [o1] at hl; omega) hr.2 (by omega) d2 s2
      refine ⟨h3, w3, ?_, d3, s3⟩
      rw [e2, e3, show i + 1 + l.length = i + (o :: l).length by simp; omega]
      rfl
theorem sp_sum (E : mjFix ev) {h : mjS} {rl q s : Nat} {wr : Nat → Nat} {r : rul} (ru : RU h rl r) (kq : mK h q = 10)
    (hW : ∀ h1, Dl (rl + 2) h h1 → ∀ k, k < 11 → mjCall ev 61 lv [.ref q, .int (nI (135 + k)), .int (nI s)] h1 = some (.int (nI (wr k)), h1)) : ∃ h', mjCall ev 31 lv [.ref rl, .ref q, .int (nI s)] h = some (.long (sumR (fun w => nL (wr w)) r), h') ∧ Dl (rl + 2) h h' := by
  obtain ⟨⟨-, k0, r0, r1⟩, ⟨k1, n1, k2, n2⟩, rw0, hn, ok⟩ := ru
  have at_ : ∀ (m : rul) (i : Nat) (h1 : mjS) (w5 : Value), okR m → Rw h (rl + 1) i (stepsR m) → i + (stepsR m).length = (stepsR r).length → Dl (rl + 2) h h1 → ∃ h', ev 31 lv 5 [.ref rl, .ref q, .int (nI s), .int (nI 0), .int (nI i), w5] [] h1 = some (.long (sumR (fun w => nL (wr w)) m), h') ∧ Dl (rl + 2) h h' := by
    intro m
    induction m with
    | nil =>
      intro i h1 w5 _ _ hi d
      have K0 : mK h1 rl = 7 := by rw [d.1.K]; exact k0
      have R0 : mR h1 rl 0 = rl + 1 := by rw [d.1.R]; exact r0
      have K1 : mK h1 (rl + 1) = 20 := by rw [d.1.K]; exact k1
      have N1 : mN h1 (rl + 1) = (stepsR r).length := by rw [d.1.N]; exact n1
      have hi : i + 0 = (stepsR r).length := hi
      refine ⟨h1, ?_, d⟩
      rw [e_31_5 E]
      repeat (first | (apply ifT; focus ((try simp (disch := omega) only [K0, R0, K1, N1, ofNat_nI, i_lit, mI_pI, mK_pI, mN_pI, mR_pI, nI_ltI, nI_eq, nI_add, nI_mul, mjIn_nI, nI_clamp, neg1_lt0, if_pos, if_neg, if_true, if_false, Bool.false_eq_true, and_true, true_and, and_false, false_and]) <;> omega)) | (apply ifF; focus ((try simp (disch := omega) only [K0, R0, K1, N1, ofNat_nI, i_lit, mI_pI, mK_pI, mN_pI, mR_pI, nI_ltI, nI_eq, nI_add, nI_mul, mjIn_nI, nI_clamp, neg1_lt0, if_pos, if_neg, if_true, if_false, Bool.false_eq_true, and_true, true_and, and_false, false_and]) <;> omega)) | (apply stI; focus ((try simp (disch := omega) only [K0, R0, K1, N1, ofNat_nI, i_lit, mI_pI, mK_pI, mN_pI, mR_pI, nI_ltI, nI_eq, nI_add, nI_mul, mjIn_nI, nI_clamp, neg1_lt0, if_pos, if_neg, if_true, if_false, Bool.false_eq_true, and_true, true_and, and_false, false_and]) <;> rfl)) | (apply stV; focus ((try simp (disch := omega) only [K0, R0, K1, N1, ofNat_nI, i_lit, mI_pI, mK_pI, mN_pI, mR_pI, nI_ltI, nI_eq, nI_add, nI_mul, mjIn_nI, nI_clamp, neg1_lt0, if_pos, if_neg, if_true, if_false, Bool.false_eq_true, and_true, true_and, and_false, false_and]) <;> rfl)) | (apply stL; focus ((try simp (disch := omega) only [K0, R0, K1, N1, ofNat_nI, i_lit, mI_pI, mK_pI, mN_pI, mR_pI, nI_ltI, nI_eq, nI_add, nI_mul, mjIn_nI, nI_clamp, neg1_lt0, if_pos, if_neg, if_true, if_false, Bool.false_eq_true, and_true, true_and, and_false, false_and]) <;> rfl)))
      try simp (disch := omega) only [K0, R0, K1, N1, ofNat_nI, i_lit, mI_pI, mK_pI, mN_pI, mR_pI, nI_ltI, nI_eq, nI_add, nI_mul, mjIn_nI, nI_clamp, neg1_lt0, if_pos, if_neg, if_true, if_false, Bool.false_eq_true, and_true, true_and, and_false, false_and]
      rfl
    | cons c m ih =>
      intro i h1 w5 ok hr hi d
      obtain ⟨cs, ct⟩ := c
      have okc := ok (cs, ct) List.mem_cons_self
      obtain ⟨o1, o2, o3, o4, o5, o6⟩ := okc
      have o3 : 1 ≤ npush cs := o3
      have hr : Rw h (rl + 1) i (stepsC (cs, ct) ++ stepsR m) := hr
      have hi : i + (stepsC (cs, ct) ++ stepsR m).length = (stepsR r).length := hi
      rw [List.length_append] at hi
      obtain ⟨hr1, hr2⟩ := Rw.app.mp hr
      cases ct with
      | none =>
        have hr1 : Rw h (rl + 1) i (cs.map stepO ++ [-nI 130]) := hr1
        have hl : (stepsC (cs, none)).length = cs.length + 1 := by show (cs.map stepO ++ [-nI 130]).length = _; simp
        obtain ⟨ha, hb⟩ := Rw.app.mp hr1
        rw [List.length_map] at hb
        have o4 : npush cs + 0 ≤ 60 := o4
        obtain ⟨h2, w2, e2, d2, s2⟩ := ru_ops E k0 r0 r1 k1 n1 k2 n2 kq hn hW cs i [] [false] [] h1 w5 o1 o2 trivial (by simp; omega) ha (by omega) d trivial
        have bt := ty_Bt (W := fun w => nL (wr w)) cs o2 (xs := []) trivial
        have e1 := Bt_one bt
        rw [e1] at s2
        have sv : mL h2 (rl + 2) 0 = one1 (xops (fun w => nL (wr w)) cs []) := s2.1
        have K0 : mK h2 rl = 7 := by rw [d2.1.K]; exact k0
        have R0 : mR h2 rl 0 = rl + 1 := by rw [d2.1.R]; exact r0
        have R1 : mR h2 rl 1 = rl + 2 := by rw [d2.1.R]; exact r1
        have K1 : mK h2 (rl + 1) = 20 := by rw [d2.1.K]; exact k1
        have N1 : mN h2 (rl + 1) = (stepsR r).length := by rw [d2.1.N]; exact n1
        have K2 : mK h2 (rl + 2) = 23 := by rw [d2.1.K]; exact k2
        have N2 : mN h2 (rl + 2) = 60 := by rw [d2.1.N]; exact n2
        have HR : mI h2 (rl + 1) (i + cs.length) = -nI 130 := by rw [d2.2]; exact hb.1
        refine ⟨h2, ?_, d2⟩
        have e2' : ev 31 lv 5 [.ref rl, .ref q, .int (nI s), .int (nI 0), .int (nI i), w5] [] h1 = _ := e2
        rw [e2', e_31_5 E]
        show _ = some (Value.long (one1 (xops (fun w => nL (wr w)) cs [])), h2)
        repeat (first | (apply ifT; focus ((try simp (disch := omega) only [K0, R0, R1, K1, N1, K2, N2, HR, ofNat_nI, sv, i_lit, mI_pI, mK_pI, mN_pI, mR_pI, nI_ltI, nI_eq, nI_add, nI_mul, mjIn_nI, nI_clamp, neg1_lt0, if_pos, if_neg, if_true, if_false, Bool.false_eq_true, and_true, true_and, and_false, false_and]) <;> omega)) | (apply ifF; focus ((try simp (disch := omega) only [K0, R0, R1, K1, N1, K2, N2, HR, ofNat_nI, sv, i_lit, mI_pI, mK_pI, mN_pI, mR_pI, nI_ltI, nI_eq, nI_add, nI_mul, mjIn_nI, nI_clamp, neg1_lt0, if_pos, if_neg, if_true, if_false, Bool.false_eq_true, and_true, true_and, and_false, false_and]) <;> omega)) | (apply stI; focus ((try simp (disch := omega) only [K0, R0, R1, K1, N1, K2, N2, HR, ofNat_nI, sv, i_lit, mI_pI, mK_pI, mN_pI, mR_pI, nI_ltI, nI_eq, nI_add, nI_mul, mjIn_nI, nI_clamp, neg1_lt0, if_pos, if_neg, if_true, if_false, Bool.false_eq_true, and_true, true_and, and_false, false_and]) <;> rfl)) | (apply stV; focus ((try simp (disch := omega) only [K0, R0, R1, K1, N1, K2, N2, HR, ofNat_nI, sv, i_lit, mI_pI, mK_pI, mN_pI, mR_pI, nI_ltI, nI_eq, nI_add, nI_mul, mjIn_nI, nI_clamp, neg1_lt0, if_pos, if_neg, if_true, if_false, Bool.false_eq_true, and_true, true_and, and_false, false_and]) <;> rfl)) | (apply stL; focus ((try simp (disch := omega) only [K0, R0, R1, K1, N1, K2, N2, HR, ofNat_nI, sv, i_lit, mI_pI, mK_pI, mN_pI, mR_pI, nI_ltI, nI_eq, nI_add, nI_mul, mjIn_nI, nI_clamp, neg1_lt0, if_pos, if_neg, if_true, if_false, Bool.false_eq_true, and_true, true_and, and_false, false_and]) <;> rfl)))
        try simp (disch := omega) only [K0, R0, R1, K1, N1, K2, N2, HR, ofNat_nI, sv, i_lit, mI_pI, mK_pI, mN_pI, mR_pI, nI_ltI, nI_eq, nI_add, nI_mul, mjIn_nI, nI_clamp, neg1_lt0, if_pos, if_neg, if_true, if_false, Bool.false_eq_true, and_true, true_and, and_false, false_and]
      | some t =>
        have hr1 : Rw h (rl + 1) i (cs.map stepO ++ (t.map stepO ++ [-nI 131])) := hr1
        have hl : (stepsC (cs, some t)).length = cs.length + t.length + 1 := by show (cs.map stepO ++ (t.map stepO ++ [-nI 131])).length = _; simp; omega
        obtain ⟨ha, hb⟩ := Rw.app.mp hr1
        rw [List.length_map] at hb
        obtain ⟨hb, hc⟩ := Rw.app.mp hb
        rw [List.length_map] at hc
        have o4 : npush cs + npush t ≤ 60 := o4
        obtain ⟨h2, w2, e2, d2, s2⟩ := ru_ops E k0 r0 r1 k1 n1 k2 n2 kq hn hW cs i [] [false] [] h1 w5 o1 o2 trivial (by simp; omega) ha (by omega) d trivial
        have bt := ty_Bt (W := fun w => nL (wr w)) cs o2 (xs := []) trivial
        have e1 := Bt_one bt
        have tt := o6 t rfl
        have tt2 := ty_app t [false] tt
        have bt2 : Bt ([] ++ [false]) (xops (fun w => nL (wr w)) cs []) := bt
        obtain ⟨h3, w3, e3, d3, s3⟩ := ru_ops E k0 r0 r1 k1 n1 k2 n2 kq hn hW t (i + cs.length) ([] ++ [false]) ([true] ++ [false]) (xops (fun w => nL (wr w)) cs []) h2 w2 o5 tt2 bt2 (by rw [bt.len]; simp; omega) hb (by omega) d2 s2
        have xa := xops_app (W := fun w => nL (wr w)) t (xs := []) (xops (fun w => nL (wr w)) cs []) tt trivial
        rw [List.nil_append] at xa
        have btt := ty_Bt (W := fun w => nL (wr w)) t tt (xs := []) trivial
        have e5 := Bt_one btt
        rw [xa] at e3 s3
        rw [e5, e1] at s3
        have sv1 : mL h3 (rl + 2) 1 = one1 (xops (fun w => nL (wr w)) t []) := s3.1
        have sv0 : mL h3 (rl + 2) 0 = one1 (xops (fun w => nL (wr w)) cs []) := s3.2.1
        have K0 : mK h3 rl = 7 := by rw [d3.1.K]; exact k0
        have R0 : mR h3 rl 0 = rl + 1 := by rw [d3.1.R]; exact r0
        have R1 : mR h3 rl 1 = rl + 2 := by rw [d3.1.R]; exact r1
        have K1 : mK h3 (rl + 1) = 20 := by rw [d3.1.K]; exact k1
        have N1 : mN h3 (rl + 1) = (stepsR r).length := by rw [d3.1.N]; exact n1
        have K2 : mK h3 (rl + 2) = 23 := by rw [d3.1.K]; exact k2
        have N2 : mN h3 (rl + 2) = 60 := by rw [d3.1.N]; exact n2
        have HR : mI h3 (rl + 1) (i + cs.length + t.length) = -nI 131 := by rw [d3.2]; exact hc.1
        have e2' : ev 31 lv 5 [.ref rl, .ref q, .int (nI s), .int (nI 0), .int (nI i), w5] [] h1 = _ := e2
        rw [e5] at btt
        have b01 := btt.1 rfl
        by_cases z : one1 (xops (fun w => nL (wr w)) t []) = 1
        · refine ⟨h3, ?_, d3⟩
          have zc : ¬ ((if one1 (xops (fun w => nL (wr w)) t []) < 0 then -nI 1 else if one1 (xops (fun w => nL (wr w)) t []) = 0 then nI 0 else nI 1 : Int32) = nI 0) := fun e => by
            have e := (cmp_eq _ _).mp e
            rw [z] at e; exact absurd e (by decide)
          rw [e2', e3, e_31_5 E]
          show _ = some (Value.long (if one1 (xops (fun w => nL (wr w)) t []) = 1 then one1 (xops (fun w => nL (wr w)) cs []) else _), h3)
          rw [if_pos z]
          repeat (first | (apply ifT; focus ((try simp (disch := omega) only [K0, R0, R1, K1, N1, K2, N2, HR, ofNat_nI, ng_eq, sv0, sv1, zc, i_lit, mI_pI, mK_pI, mN_pI, mR_pI, nI_ltI, nI_eq, nI_add, nI_mul, mjIn_nI, nI_clamp, neg1_lt0, if_pos, if_neg, if_true, if_false, Bool.false_eq_true, and_true, true_and, and_false, false_and]) <;> omega)) | (apply ifF; focus ((try simp (disch := omega) only [K0, R0, R1, K1, N1, K2, N2, HR, ofNat_nI, ng_eq, sv0, sv1, zc, i_lit, mI_pI, mK_pI, mN_pI, mR_pI, nI_ltI, nI_eq, nI_add, nI_mul, mjIn_nI, nI_clamp, neg1_lt0, if_pos, if_neg, if_true, if_false, Bool.false_eq_true, and_true, true_and, and_false, false_and]) <;> omega)) | (apply stI; focus ((try simp (disch := omega) only [K0, R0, R1, K1, N1, K2, N2, HR, ofNat_nI, ng_eq, sv0, sv1, zc, i_lit, mI_pI, mK_pI, mN_pI, mR_pI, nI_ltI, nI_eq, nI_add, nI_mul, mjIn_nI, nI_clamp, neg1_lt0, if_pos, if_neg, if_true, if_false, Bool.false_eq_true, and_true, true_and, and_false, false_and]) <;> rfl)) | (apply stV; focus ((try simp (disch := omega) only [K0, R0, R1, K1, N1, K2, N2, HR, ofNat_nI, ng_eq, sv0, sv1, zc, i_lit, mI_pI, mK_pI, mN_pI, mR_pI, nI_ltI, nI_eq, nI_add, nI_mul, mjIn_nI, nI_clamp, neg1_lt0, if_pos, if_neg, if_true, if_false, Bool.false_eq_true, and_true, true_and, and_false, false_and]) <;> rfl)) | (apply stL; focus ((try simp (disch := omega) only [K0, R0, R1, K1, N1, K2, N2, HR, ofNat_nI, ng_eq, sv0, sv1, zc, i_lit, mI_pI, mK_pI, mN_pI, mR_pI, nI_ltI, nI_eq, nI_add, nI_mul, mjIn_nI, nI_clamp, neg1_lt0, if_pos, if_neg, if_true, if_false, Bool.false_eq_true, and_true, true_and, and_false, false_and]) <;> rfl)))
          try simp (disch := omega) only [K0, R0, R1, K1, N1, K2, N2, HR, ofNat_nI, ng_eq, sv0, sv1, zc, i_lit, mI_pI, mK_pI, mN_pI, mR_pI, nI_ltI, nI_eq, nI_add, nI_mul, mjIn_nI, nI_clamp, neg1_lt0, if_pos, if_neg, if_true, if_false, Bool.false_eq_true, and_true, true_and, and_false, false_and]
        · have z0 : one1 (xops (fun w => nL (wr w)) t []) = 0 := b01.resolve_right z
          have zc : ((if one1 (xops (fun w => nL (wr w)) t []) < 0 then -nI 1 else if one1 (xops (fun w => nL (wr w)) t []) = 0 then nI 0 else nI 1 : Int32) = nI 0) := (cmp_eq _ _).mpr z0
          obtain ⟨h', e4, d4⟩ := ih (i + cs.length + t.length + 1) h3 (.int (-nI 131)) (fun c hc => ok c (List.mem_cons_of_mem _ hc)) (by rw [show i + cs.length + t.length + 1 = i + (stepsC (cs, some t)).length by omega]; exact hr2) (by omega) d3
          refine ⟨h', ?_, d4⟩
          show _ = some (Value.long (if one1 (xops (fun w => nL (wr w)) t []) = 1 then one1 (xops (fun w => nL (wr w)) cs []) else sumR (fun w => nL (wr w)) m), h')
          rw [if_neg z, ← e4, e2', e3, e_31_5 E]
          have zn : ¬ one1 (xops (fun w => nL (wr w)) t []) < 0 := by rw [z0]; decide
          repeat (first | (apply ifT; focus ((try simp (disch := omega) only [K0, R0, R1, K1, N1, K2, N2, HR, ofNat_nI, ng_eq, sv0, sv1, zn, i_lit, mI_pI, mK_pI, mN_pI, mR_pI, nI_ltI, nI_eq, nI_add, nI_mul, mjIn_nI, nI_clamp, neg1_lt0, if_pos, if_neg, if_true, if_false, Bool.false_eq_true, and_true, true_and, and_false, false_and]) <;> omega)) | (apply ifF; focus ((try simp (disch := omega) only [K0, R0, R1, K1, N1, K2, N2, HR, ofNat_nI, ng_eq, sv0, sv1, zn, i_lit, mI_pI, mK_pI, mN_pI, mR_pI, nI_ltI, nI_eq, nI_add, nI_mul, mjIn_nI, nI_clamp, neg1_lt0, if_pos, if_neg, if_true, if_false, Bool.false_eq_true, and_true, true_and, and_false, false_and]) <;> omega)) | (apply stI; focus ((try simp (disch := omega) only [K0, R0, R1, K1, N1, K2, N2, HR, ofNat_nI, ng_eq, sv0, sv1, zn, i_lit, mI_pI, mK_pI, mN_pI, mR_pI, nI_ltI, nI_eq, nI_add, nI_mul, mjIn_nI, nI_clamp, neg1_lt0, if_pos, if_neg, if_true, if_false, Bool.false_eq_true, and_true, true_and, and_false, false_and]) <;> rfl)) | (apply stV; focus ((try simp (disch := omega) only [K0, R0, R1, K1, N1, K2, N2, HR, ofNat_nI, ng_eq, sv0, sv1, zn, i_lit, mI_pI, mK_pI, mN_pI, mR_pI, nI_ltI, nI_eq, nI_add, nI_mul, mjIn_nI, nI_clamp, neg1_lt0, if_pos, if_neg, if_true, if_false, Bool.false_eq_true, and_true, true_and, and_false, false_and]) <;> rfl)) | (apply stL; focus ((try simp (disch := omega) only [K0, R0, R1, K1, N1, K2, N2, HR, ofNat_nI, ng_eq, sv0, sv1, zn, i_lit, mI_pI, mK_pI, mN_pI, mR_pI, nI_ltI, nI_eq, nI_add, nI_mul, mjIn_nI, nI_clamp, neg1_lt0, if_pos, if_neg, if_true, if_false, Bool.false_eq_true, and_true, true_and, and_false, false_and]) <;> rfl)))
          try simp (disch := omega) only [K0, R0, R1, K1, N1, K2, N2, HR, ofNat_nI, ng_eq, sv0, sv1, zn, i_lit, mI_pI, mK_pI, mN_pI, mR_pI, nI_ltI, nI_eq, nI_add, nI_mul, mjIn_nI, nI_clamp, neg1_lt0, if_pos, if_neg, if_true, if_false, Bool.false_eq_true, and_true, true_and, and_false, false_and]
  obtain ⟨h', e, d⟩ := at_ r 0 h mjD ok rw0 (by omega) Dl.rf
  refine ⟨h', ?_, d⟩
  show ev 31 lv 0 [.ref rl, .ref q, .int (nI s), mjD, mjD, mjD] [] h = _
  rw [e_31_0 E]
  exact e
/-- a rule of the class lets go as it says -/
theorem RU.lc (E : mjFix ev) {h : mjS} {rl q f : Nat} {r : rul} (ru : RU h rl r) (hq : rl + 2 < q ∨ q + 7 ≤ rl) : LC ev lv h rl (rl + 2) q f (Lr r) := by
  refine Or.inr ⟨ru.1.1, ru.1.2.1, fun h1 g1 s f1 cs w hs hz => ?_⟩
  obtain ⟨⟨a0, k0, r0, r1⟩, ⟨k1, n1, k2, n2⟩, rw0, hn, ok⟩ := ru
  have ru1 : RU h1 rl r := ⟨⟨a0, by rw [f1.K]; exact k0, by rw [f1.R]; exact r0, by rw [f1.R]; exact r1⟩, ⟨by rw [f1.K]; exact k1, by rw [f1.N]; exact n1, by rw [f1.K]; exact k2, by rw [f1.N]; exact n2⟩, rw0.keep (fun k _ _ => f1.I (by unfold FR; omega)), hn, ok⟩
  obtain ⟨h2, e2, d2⟩ := sp_sum (lv := lv) (s := s) (wr := wrd g1 s) E ru1 cs.1.1.k (fun h3 d3 k hk => cs_word E (cs.same d3.1 d3.2) w hs hz hk)
  refine ⟨_, h2, e2, ?_, d2.1, d2.2⟩
  unfold Lr
  rw [decide_eq_true_eq]
end CU
