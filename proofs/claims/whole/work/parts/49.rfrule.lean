/-! a rule of the reference, reckoned out -/
theorem and15 {o : Nat} (h : o < 2 ^ 31) : nI o &&& nI 15 = nI (o % 16) := pk_andN (by omega) 4 (by decide)
theorem shr4 {o : Nat} (h : o < 2 ^ 31) : nI o >>> (nI 4 &&& nI 31) = nI (o / 16) := pk_shrN h _ 4 (by decide)
/-- the stack and its top -/
abbrev FK (a k : Nat) : Prop := a = 251 ∨ (a = 243 ∧ k = 18)
/-- the clauses of a rule, by their numbers; the signs of one behind those of the other -/
def RCl (h : mjS) (k : Nat) : Nat → Nat → rul → Prop
  | _, _, [] => True
  | c, i, (s, t) :: r => (mI h 247 (48 * k + 4 * c) = nI i ∧ mI h 247 (48 * k + 4 * c + 1) = nI (i + s.length) ∧ (match t with
    | none => mI h 247 (48 * k + 4 * c + 2) = -nI 1
    | some t => mI h 247 (48 * k + 4 * c + 2) = nI (i + s.length) ∧ mI h 247 (48 * k + 4 * c + 3) = nI (i + s.length + t.length))) ∧ Rw h 245 (400 * k + i) ((s ++ t.getD []).map nI) ∧ RCl h k (c + 1) (i + s.length + (t.getD []).length) r
def signsN : rul → Nat
  | [] => 0
  | (s, t) :: r => s.length + (t.getD []).length + signsN r
def RR (h : mjS) (k : Nat) (r : rul) : Prop := (k < 6 ∧ mI h 248 k = nI r.length ∧ r.length ≤ 12 ∧ signsN r ≤ 400) ∧ RCl h k 0 0 r ∧ okR r
theorem RCl.keep {h h' : mjS} {k : Nat} (h1 : ∀ i, mI h' 247 i = mI h 247 i) (h2 : ∀ i, mI h' 245 i = mI h 245 i) : ∀ {r : rul} {c i : Nat}, RCl h k c i r → RCl h' k c i r := by
  intro r
  induction r with
  | nil => intros; trivial
  | cons d r ih =>
    intro c i a
    obtain ⟨s, t⟩ := d
    obtain ⟨⟨a1, a2, a3⟩, a4, a5⟩ := a
    refine ⟨⟨(h1 _).trans a1, (h1 _).trans a2, ?_⟩, a4.keep (fun k _ _ => h2 k), ih a5⟩
    cases t with
    | none => exact (h1 _).trans a3
    | some t => exact ⟨(h1 _).trans a3.1, (h1 _).trans a3.2⟩
theorem RR.keep {h h' : mjS} {k : Nat} {r : rul} (h0 : ∀ i, mI h' 248 i = mI h 248 i) (h1 : ∀ i, mI h' 247 i = mI h 247 i) (h2 : ∀ i, mI h' 245 i = mI h 245 i) (a : RR h k r) : RR h' k r := ⟨⟨a.1.1, (h0 _).trans a.1.2.1, a.1.2.2⟩, a.2.1.keep h1 h2, a.2.2⟩
section RU
variable {ev : mjT} {lv : Nat}
theorem sp_one (E : mjFix ev) (h : mjS) (x y : Int64) {s : Nat} (hs : 2 ≤ s ∧ s < 15 ∧ s ≠ 11) : mjCall ev 182 lv [.int (nI s), .long x, .long y] h = some (.long (xbin s x y), h) := by
  show ev 182 lv 0 [.int (nI s), .long x, mjD, .long y, mjD] [] h = _
  rw [e_182_0 E]
  rcases (show s = 2 ∨ s = 3 ∨ s = 4 ∨ s = 5 ∨ s = 6 ∨ s = 7 ∨ s = 8 ∨ s = 9 ∨ s = 10 ∨ s = 12 ∨ s = 13 ∨ s = 14 by omega) with rfl | rfl | rfl | rfl | rfl | rfl | rfl | rfl | rfl | rfl | rfl | rfl
  all_goals (repeat (first | (apply ifT; focus decide) | (apply ifF; focus decide)))
  · rfl
  · rfl
  · rfl
  · show _ = some (Value.long (if y = 0 then 0 else x / y), h)
    by_cases z : y = 0
    · rw [if_pos ((cmp_eq y 0).mpr z), if_pos z]
    · rw [if_neg (fun e => z ((cmp_eq y 0).mp e)), if_neg z, if_neg z]
  · show _ = some (Value.long (if x < y then 1 else 0), h)
    by_cases z : x < y
    · rw [if_pos ((cmp_lt x y).mpr z), if_pos z]
    · rw [if_neg (fun e => z ((cmp_lt x y).mp e)), if_neg z]
  · show _ = some (Value.long (if y < x then 0 else 1), h)
    by_cases z : y < x
    · rw [if_pos ((cmp_gt x y).mpr z), if_pos z]
    · rw [if_neg (fun e => z ((cmp_gt x y).mp e)), if_neg z]
  · show _ = some (Value.long (if x = y then 1 else 0), h)
    by_cases z : x = y
    · rw [if_pos ((cmp_eq x y).mpr z), if_pos z]
    · rw [if_neg (fun e => z ((cmp_eq x y).mp e)), if_neg z]
  · show _ = some (Value.long (if x < y then 0 else 1), h)
    by_cases z : x < y
    · rw [if_pos ((cmp_lt x y).mpr z), if_pos z]
    · rw [if_neg (fun e => z ((cmp_lt x y).mp e)), if_neg z]
  · show _ = some (Value.long (if y < x then 1 else 0), h)
    by_cases z : y < x
    · rw [if_pos ((cmp_gt x y).mpr z), if_pos z]
    · rw [if_neg (fun e => z ((cmp_gt x y).mp e)), if_neg z]
  · rfl
  · rfl
  · show _ = some (Value.long (if y = 0 then 0 else x - x / y * y), h)
    by_cases z : y = 0
    · rw [if_pos ((cmp_eq y 0).mpr z), if_pos z]
    · rw [if_neg (fun e => z ((cmp_eq y 0).mp e)), if_neg z, if_neg z]
theorem sp_push (E : mjFix ev) {h : mjS} (hs : rSh h) {n : Nat} (ht : mI h 243 18 = nI n) (hn : n < 64) (v : Int64) : mjCall ev 180 lv [.ref 243, .long v] h = some (.ref 0, pI (pL h 251 n v) 243 18 (nI (n + 1))) := by
  show ev 180 lv 0 [.ref 243, .long v, mjD] [] h = _
  rw [e_180_0 E]
  repeat (first | (apply ifT; focus ((try simp (disch := omega) only [hs.k, hs.r_stack, hs.k_stack, hs.n_stack, ht, i_lit, mI_pI, mK_pI, mN_pI, mR_pI, nI_ltI, nI_eq, nI_add, nI_mul, mjIn_nI, nI_clamp, neg1_lt0, if_pos, if_neg, if_true, if_false, Bool.false_eq_true, and_true, true_and, and_false, false_and]) <;> omega)) | (apply ifF; focus ((try simp (disch := omega) only [hs.k, hs.r_stack, hs.k_stack, hs.n_stack, ht, i_lit, mI_pI, mK_pI, mN_pI, mR_pI, nI_ltI, nI_eq, nI_add, nI_mul, mjIn_nI, nI_clamp, neg1_lt0, if_pos, if_neg, if_true, if_false, Bool.false_eq_true, and_true, true_and, and_false, false_and]) <;> omega)) | (apply stI; focus ((try simp (disch := omega) only [hs.k, hs.r_stack, hs.k_stack, hs.n_stack, ht, i_lit, mI_pI, mK_pI, mN_pI, mR_pI, nI_ltI, nI_eq, nI_add, nI_mul, mjIn_nI, nI_clamp, neg1_lt0, if_pos, if_neg, if_true, if_false, Bool.false_eq_true, and_true, true_and, and_false, false_and]) <;> rfl)) | (apply stV; focus ((try simp (disch := omega) only [hs.k, hs.r_stack, hs.k_stack, hs.n_stack, ht, i_lit, mI_pI, mK_pI, mN_pI, mR_pI, nI_ltI, nI_eq, nI_add, nI_mul, mjIn_nI, nI_clamp, neg1_lt0, if_pos, if_neg, if_true, if_false, Bool.false_eq_true, and_true, true_and, and_false, false_and]) <;> rfl)) | (apply stL; focus ((try simp (disch := omega) only [hs.k, hs.r_stack, hs.k_stack, hs.n_stack, ht, i_lit, mI_pI, mK_pI, mN_pI, mR_pI, nI_ltI, nI_eq, nI_add, nI_mul, mjIn_nI, nI_clamp, neg1_lt0, if_pos, if_neg, if_true, if_false, Bool.false_eq_true, and_true, true_and, and_false, false_and]) <;> rfl)))
  try simp (disch := omega) only [hs.k, hs.r_stack, hs.k_stack, hs.n_stack, ht, i_lit, mI_pI, mK_pI, mN_pI, mR_pI, nI_ltI, nI_eq, nI_add, nI_mul, mjIn_nI, nI_clamp, neg1_lt0, if_pos, if_neg, if_true, if_false, Bool.false_eq_true, and_true, true_and, and_false, false_and]
theorem sp_pop (E : mjFix ev) {h : mjS} (hs : rSh h) {n : Nat} (ht : mI h 243 18 = nI (n + 1)) (hn : n < 64) : mjCall ev 181 lv [.ref 243] h = some (.long (mL h 251 n), pI h 243 18 (nI n)) := by
  show ev 181 lv 0 [.ref 243] [] h = _
  rw [e_181_0 E]
  repeat (first | (apply ifT; focus ((try simp (disch := omega) only [hs.k, hs.r_stack, hs.k_stack, hs.n_stack, ht, nI_sub, Nat.add_sub_cancel, i_lit, mI_pI, mK_pI, mN_pI, mR_pI, nI_ltI, nI_eq, nI_add, nI_mul, mjIn_nI, nI_clamp, neg1_lt0, if_pos, if_neg, if_true, if_false, Bool.false_eq_true, and_true, true_and, and_false, false_and]) <;> omega)) | (apply ifF; focus ((try simp (disch := omega) only [hs.k, hs.r_stack, hs.k_stack, hs.n_stack, ht, nI_sub, Nat.add_sub_cancel, i_lit, mI_pI, mK_pI, mN_pI, mR_pI, nI_ltI, nI_eq, nI_add, nI_mul, mjIn_nI, nI_clamp, neg1_lt0, if_pos, if_neg, if_true, if_false, Bool.false_eq_true, and_true, true_and, and_false, false_and]) <;> omega)) | (apply stI; focus ((try simp (disch := omega) only [hs.k, hs.r_stack, hs.k_stack, hs.n_stack, ht, nI_sub, Nat.add_sub_cancel, i_lit, mI_pI, mK_pI, mN_pI, mR_pI, nI_ltI, nI_eq, nI_add, nI_mul, mjIn_nI, nI_clamp, neg1_lt0, if_pos, if_neg, if_true, if_false, Bool.false_eq_true, and_true, true_and, and_false, false_and]) <;> rfl)) | (apply stV; focus ((try simp (disch := omega) only [hs.k, hs.r_stack, hs.k_stack, hs.n_stack, ht, nI_sub, Nat.add_sub_cancel, i_lit, mI_pI, mK_pI, mN_pI, mR_pI, nI_ltI, nI_eq, nI_add, nI_mul, mjIn_nI, nI_clamp, neg1_lt0, if_pos, if_neg, if_true, if_false, Bool.false_eq_true, and_true, true_and, and_false, false_and]) <;> rfl)) | (apply stL; focus ((try simp (disch := omega) only [hs.k, hs.r_stack, hs.k_stack, hs.n_stack, ht, nI_sub, Nat.add_sub_cancel, i_lit, mI_pI, mK_pI, mN_pI, mR_pI, nI_ltI, nI_eq, nI_add, nI_mul, mjIn_nI, nI_clamp, neg1_lt0, if_pos, if_neg, if_true, if_false, Bool.false_eq_true, and_true, true_and, and_false, false_and]) <;> rfl)))
  try simp (disch := omega) only [hs.k, hs.r_stack, hs.k_stack, hs.n_stack, ht, nI_sub, Nat.add_sub_cancel, i_lit, mI_pI, mK_pI, mN_pI, mR_pI, nI_ltI, nI_eq, nI_add, nI_mul, mjIn_nI, nI_clamp, neg1_lt0, if_pos, if_neg, if_true, if_false, Bool.false_eq_true, and_true, true_and, and_false, false_and]
theorem rr_op (E : mjFix ev) {h1 : mjS} {t i en : Nat} {wr : Nat → Nat} (hs : rSh h1) (hw : ∀ k, k < 11 → mL h1 252 k = nL (wr k)) {o : Nat} {ts ts' : List Bool} {xs : List Int64} (w1 w5 w6 w7 w8 w9 w10 : Value) (bg : Int32) (ok : okO o) (ht : tyo o ts = some ts') (b : Bt ts xs) (hx : xs.length + npush [o] ≤ 60) (hr : mI h1 245 (400 * t + i) = nI o) (hi : i < en) (he : en ≤ 400) (t6 : t < 6) (top : mI h1 243 18 = nI xs.length) (sk : Sk h1 251 xs) :
    ∃ h2 a5 a6 a7 a8 a9 a10, ev 183 lv 8 [.ref 243, .int (nI t), .int bg, .int (nI en), .int (nI i), w5, w6, w7, w8, w9, w10] [] h1 = ev 183 lv 8 [.ref 243, .int (nI t), .int bg, .int (nI en), .int (nI (i + 1)), a5, a6, a7, a8, a9, a10] [] h2 ∧ Fr FK h1 h2 ∧ mI h2 243 18 = nI (xop (fun w => nL (wr w)) o xs).length ∧ Sk h2 251 (xop (fun w => nL (wr w)) o xs) := by
  have ol := ok.1
  unfold npush npush at hx
  have fpush : ∀ (h : mjS) n v m, Fr FK h (pI (pL h 251 n v) 243 18 m) := fun h n v m => (Fr.pL (F := FK) (Or.inl rfl)).tr (Fr.pI (F := FK) (Or.inr ⟨rfl, rfl⟩))
  have sks : ∀ {h : mjS} {l : List Int64} (m : Int32), Sk h 251 l → Sk (pI h 243 18 m) 251 l := fun {h l} m s => Sk.keep (h := h) (h' := pI h 243 18 m) (fun k _ => rfl) s
  by_cases c0 : o % 16 = 0
  · rw [if_pos (Or.inl c0)] at hx
    rw [show xop (fun w => nL (wr w)) o xs = nL (o / 16) :: xs by unfold xop; rw [if_pos c0]]
    have e := sp_push (lv := lv) E hs top (by omega) (nL (o / 16))
    unfold nL at e
    refine ⟨_, .int (nI (o % 16)), .int (nI (o / 16)), w7, w8, w9, w10, ?_, fpush h1 xs.length (nL (o / 16)) (nI (xs.length + 1)), by rw [mI_pI, if_pos ⟨rfl, rfl⟩]; rfl, sks _ (sk.push _ rfl)⟩
    rw [e_183_8 E]
    repeat (first | (apply ifT; focus ((try simp (disch := omega) only [hs.k, hs.r_sign, hs.k_sign, hs.n_sign, hr, and15, shr4, c0, e, i_lit, mI_pI, mK_pI, mN_pI, mR_pI, nI_ltI, nI_eq, nI_add, nI_mul, mjIn_nI, nI_clamp, neg1_lt0, if_pos, if_neg, if_true, if_false, Bool.false_eq_true, and_true, true_and, and_false, false_and]) <;> omega)) | (apply ifF; focus ((try simp (disch := omega) only [hs.k, hs.r_sign, hs.k_sign, hs.n_sign, hr, and15, shr4, c0, e, i_lit, mI_pI, mK_pI, mN_pI, mR_pI, nI_ltI, nI_eq, nI_add, nI_mul, mjIn_nI, nI_clamp, neg1_lt0, if_pos, if_neg, if_true, if_false, Bool.false_eq_true, and_true, true_and, and_false, false_and]) <;> omega)) | (apply stI; focus ((try simp (disch := omega) only [hs.k, hs.r_sign, hs.k_sign, hs.n_sign, hr, and15, shr4, c0, e, i_lit, mI_pI, mK_pI, mN_pI, mR_pI, nI_ltI, nI_eq, nI_add, nI_mul, mjIn_nI, nI_clamp, neg1_lt0, if_pos, if_neg, if_true, if_false, Bool.false_eq_true, and_true, true_and, and_false, false_and]) <;> rfl)) | (apply stV; focus ((try simp (disch := omega) only [hs.k, hs.r_sign, hs.k_sign, hs.n_sign, hr, and15, shr4, c0, e, i_lit, mI_pI, mK_pI, mN_pI, mR_pI, nI_ltI, nI_eq, nI_add, nI_mul, mjIn_nI, nI_clamp, neg1_lt0, if_pos, if_neg, if_true, if_false, Bool.false_eq_true, and_true, true_and, and_false, false_and]) <;> rfl)) | (apply stL; focus ((try simp (disch := omega) only [hs.k, hs.r_sign, hs.k_sign, hs.n_sign, hr, and15, shr4, c0, e, i_lit, mI_pI, mK_pI, mN_pI, mR_pI, nI_ltI, nI_eq, nI_add, nI_mul, mjIn_nI, nI_clamp, neg1_lt0, if_pos, if_neg, if_true, if_false, Bool.false_eq_true, and_true, true_and, and_false, false_and]) <;> rfl)))
    try simp (disch := omega) only [hs.k, hs.r_sign, hs.k_sign, hs.n_sign, hr, and15, shr4, c0, e, i_lit, mI_pI, mK_pI, mN_pI, mR_pI, nI_ltI, nI_eq, nI_add, nI_mul, mjIn_nI, nI_clamp, neg1_lt0, if_pos, if_neg, if_true, if_false, Bool.false_eq_true, and_true, true_and, and_false, false_and]
    rfl
  · by_cases c1 : o % 16 = 1
    · rw [if_pos (Or.inr c1)] at hx
      have ow := ok.2 c1
      rw [show xop (fun w => nL (wr w)) o xs = nL (wr (o / 16)) :: xs by unfold xop; rw [if_neg c0, if_pos c1]]
      have e := sp_push (lv := lv) E hs top (by omega) (nL (wr (o / 16)))
      have hw1 := hw (o / 16) ow
      refine ⟨_, .int (nI (o % 16)), .int (nI (o / 16)), w7, w8, w9, w10, ?_, fpush h1 xs.length (nL (wr (o / 16))) (nI (xs.length + 1)), by rw [mI_pI, if_pos ⟨rfl, rfl⟩]; rfl, sks _ (sk.push _ rfl)⟩
      rw [e_183_8 E]
      repeat (first | (apply ifT; focus ((try simp (disch := omega) only [hs.k, hs.r_sign, hs.k_sign, hs.n_sign, hs.r_word, hs.k_word, hs.n_word, hr, and15, shr4, c1, hw1, e, i_lit, mI_pI, mK_pI, mN_pI, mR_pI, nI_ltI, nI_eq, nI_add, nI_mul, mjIn_nI, nI_clamp, neg1_lt0, if_pos, if_neg, if_true, if_false, Bool.false_eq_true, and_true, true_and, and_false, false_and]) <;> omega)) | (apply ifF; focus ((try simp (disch := omega) only [hs.k, hs.r_sign, hs.k_sign, hs.n_sign, hs.r_word, hs.k_word, hs.n_word, hr, and15, shr4, c1, hw1, e, i_lit, mI_pI, mK_pI, mN_pI, mR_pI, nI_ltI, nI_eq, nI_add, nI_mul, mjIn_nI, nI_clamp, neg1_lt0, if_pos, if_neg, if_true, if_false, Bool.false_eq_true, and_true, true_and, and_false, false_and]) <;> omega)) | (apply stI; focus ((try simp (disch := omega) only [hs.k, hs.r_sign, hs.k_sign, hs.n_sign, hs.r_word, hs.k_word, hs.n_word, hr, and15, shr4, c1, hw1, e, i_lit, mI_pI, mK_pI, mN_pI, mR_pI, nI_ltI, nI_eq, nI_add, nI_mul, mjIn_nI, nI_clamp, neg1_lt0, if_pos, if_neg, if_true, if_false, Bool.false_eq_true, and_true, true_and, and_false, false_and]) <;> rfl)) | (apply stV; focus ((try simp (disch := omega) only [hs.k, hs.r_sign, hs.k_sign, hs.n_sign, hs.r_word, hs.k_word, hs.n_word, hr, and15, shr4, c1, hw1, e, i_lit, mI_pI, mK_pI, mN_pI, mR_pI, nI_ltI, nI_eq, nI_add, nI_mul, mjIn_nI, nI_clamp, neg1_lt0, if_pos, if_neg, if_true, if_false, Bool.false_eq_true, and_true, true_and, and_false, false_and]) <;> rfl)) | (apply stL; focus ((try simp (disch := omega) only [hs.k, hs.r_sign, hs.k_sign, hs.n_sign, hs.r_word, hs.k_word, hs.n_word, hr, and15, shr4, c1, hw1, e, i_lit, mI_pI, mK_pI, mN_pI, mR_pI, nI_ltI, nI_eq, nI_add, nI_mul, mjIn_nI, nI_clamp, neg1_lt0, if_pos, if_neg, if_true, if_false, Bool.false_eq_true, and_true, true_and, and_false, false_and]) <;> rfl)))
      try simp (disch := omega) only [hs.k, hs.r_sign, hs.k_sign, hs.n_sign, hs.r_word, hs.k_word, hs.n_word, hr, and15, shr4, c1, hw1, e, i_lit, mI_pI, mK_pI, mN_pI, mR_pI, nI_ltI, nI_eq, nI_add, nI_mul, mjIn_nI, nI_clamp, neg1_lt0, if_pos, if_neg, if_true, if_false, Bool.false_eq_true, and_true, true_and, and_false, false_and]
    · by_cases c2 : o % 16 = 11
      · unfold tyo at ht
        rw [if_neg (by omega), if_pos c2] at ht
        cases xs with
        | nil => cases ts with
          | nil => cases ht
          | cons t r => exact b.elim
        | cons x r =>
          rw [show xop (fun w => nL (wr w)) o (x :: r) = (1 - x) :: r by unfold xop; rw [if_neg c0, if_neg c1, if_pos c2]]
          have hl : r.length + 1 ≤ 60 := by simp at hx; omega
          have s1 := sk.1
          have top' : mI h1 243 18 = nI (r.length + 1) := top
          have e1 := sp_pop (lv := lv) E hs top' (by omega)
          rw [s1] at e1
          have f1 : Fr FK h1 (pI h1 243 18 (nI r.length)) := Fr.pI (F := FK) (Or.inr ⟨rfl, rfl⟩)
          have e2 := sp_push (lv := lv) (n := r.length) E (f1.rSh hs) (by rw [mI_pI, if_pos ⟨rfl, rfl⟩]) (by omega) (1 - x)
          refine ⟨_, .int (nI (o % 16)), .int (nI (o / 16)), w7, w8, w9, w10, ?_, f1.tr (fpush _ r.length (1 - x) (nI (r.length + 1))), by rw [mI_pI, if_pos ⟨rfl, rfl⟩]; rfl, sks _ (Sk.push (sks _ sk.2) _ rfl)⟩
          rw [e_183_8 E]
          repeat (first | (apply ifT; focus ((try simp (disch := omega) only [hs.k, hs.r_sign, hs.k_sign, hs.n_sign, hr, and15, shr4, c2, e1, e2, i_lit, mI_pI, mK_pI, mN_pI, mR_pI, nI_ltI, nI_eq, nI_add, nI_mul, mjIn_nI, nI_clamp, neg1_lt0, if_pos, if_neg, if_true, if_false, Bool.false_eq_true, and_true, true_and, and_false, false_and]) <;> omega)) | (apply ifF; focus ((try simp (disch := omega) only [hs.k, hs.r_sign, hs.k_sign, hs.n_sign, hr, and15, shr4, c2, e1, e2, i_lit, mI_pI, mK_pI, mN_pI, mR_pI, nI_ltI, nI_eq, nI_add, nI_mul, mjIn_nI, nI_clamp, neg1_lt0, if_pos, if_neg, if_true, if_false, Bool.false_eq_true, and_true, true_and, and_false, false_and]) <;> omega)) | (apply stI; focus ((try simp (disch := omega) only [hs.k, hs.r_sign, hs.k_sign, hs.n_sign, hr, and15, shr4, c2, e1, e2, i_lit, mI_pI, mK_pI, mN_pI, mR_pI, nI_ltI, nI_eq, nI_add, nI_mul, mjIn_nI, nI_clamp, neg1_lt0, if_pos, if_neg, if_true, if_false, Bool.false_eq_true, and_true, true_and, and_false, false_and]) <;> rfl)) | (apply stV; focus ((try simp (disch := omega) only [hs.k, hs.r_sign, hs.k_sign, hs.n_sign, hr, and15, shr4, c2, e1, e2, i_lit, mI_pI, mK_pI, mN_pI, mR_pI, nI_ltI, nI_eq, nI_add, nI_mul, mjIn_nI, nI_clamp, neg1_lt0, if_pos, if_neg, if_true, if_false, Bool.false_eq_true, and_true, true_and, and_false, false_and]) <;> rfl)) | (apply stL; focus ((try simp (disch := omega) only [hs.k, hs.r_sign, hs.k_sign, hs.n_sign, hr, and15, shr4, c2, e1, e2, i_lit, mI_pI, mK_pI, mN_pI, mR_pI, nI_ltI, nI_eq, nI_add, nI_mul, mjIn_nI, nI_clamp, neg1_lt0, if_pos, if_neg, if_true, if_false, Bool.false_eq_true, and_true, true_and, and_false, false_and]) <;> rfl)))
          try simp (disch := omega) only [hs.k, hs.r_sign, hs.k_sign, hs.n_sign, hr, and15, shr4, c2, e1, e2, i_lit, mI_pI, mK_pI, mN_pI, mR_pI, nI_ltI, nI_eq, nI_add, nI_mul, mjIn_nI, nI_clamp, neg1_lt0, if_pos, if_neg, if_true, if_false, Bool.false_eq_true, and_true, true_and, and_false, false_and]
      · obtain ⟨t2, t15⟩ := tyo_two ht c0 c1 c2
        have bl := b.len
        cases xs with
        | nil => simp at bl; omega
        | cons y xs => cases xs with
          | nil => simp at bl; omega
          | cons x r =>
            rw [show xop (fun w => nL (wr w)) o (y :: x :: r) = xbin (o % 16) x y :: r by unfold xop; rw [if_neg c0, if_neg c1, if_neg c2]]
            have hl : r.length + 2 ≤ 60 := by simp at hx; omega
            have y1 : mL h1 251 (r.length + 1) = y := sk.1
            have x1 : mL h1 251 r.length = x := sk.2.1
            have top' : mI h1 243 18 = nI (r.length + 1 + 1) := top
            have e1 := sp_pop (lv := lv) E hs top' (by omega)
            rw [y1] at e1
            have f1 : Fr FK h1 (pI h1 243 18 (nI (r.length + 1))) := Fr.pI (F := FK) (Or.inr ⟨rfl, rfl⟩)
            have e2 := sp_pop (lv := lv) (n := r.length) E (f1.rSh hs) (by rw [mI_pI, if_pos ⟨rfl, rfl⟩]) (by omega)
            rw [mL_pI, x1] at e2
            have f2 : Fr FK (pI h1 243 18 (nI (r.length + 1))) (pI (pI h1 243 18 (nI (r.length + 1))) 243 18 (nI r.length)) := Fr.pI (F := FK) (Or.inr ⟨rfl, rfl⟩)
            have e3 := sp_one (lv := lv) E (pI (pI h1 243 18 (nI (r.length + 1))) 243 18 (nI r.length)) x y (s := o % 16) (by omega)
            have e4 := sp_push (lv := lv) (n := r.length) E ((f1.tr f2).rSh hs) (by rw [mI_pI, if_pos ⟨rfl, rfl⟩]) (by omega) (xbin (o % 16) x y)
            refine ⟨_, .int (nI (o % 16)), .int (nI (o / 16)), .long y, mjD, .long x, mjD, ?_, (f1.tr f2).tr (fpush _ r.length (xbin (o % 16) x y) (nI (r.length + 1))), by rw [mI_pI, if_pos ⟨rfl, rfl⟩]; rfl, sks _ (Sk.push (sks _ (sks _ sk.2.2)) _ rfl)⟩
            rw [e_183_8 E]
            repeat (first | (apply ifT; focus ((try simp (disch := omega) only [hs.k, hs.r_sign, hs.k_sign, hs.n_sign, hr, and15, shr4, e1, e2, e3, e4, i_lit, mI_pI, mK_pI, mN_pI, mR_pI, nI_ltI, nI_eq, nI_add, nI_mul, mjIn_nI, nI_clamp, neg1_lt0, if_pos, if_neg, if_true, if_false, Bool.false_eq_true, and_true, true_and, and_false, false_and]) <;> omega)) | (apply ifF; focus ((try simp (disch := omega) only [hs.k, hs.r_sign, hs.k_sign, hs.n_sign, hr, and15, shr4, e1, e2, e3, e4, i_lit, mI_pI, mK_pI, mN_pI, mR_pI, nI_ltI, nI_eq, nI_add, nI_mul, mjIn_nI, nI_clamp, neg1_lt0, if_pos, if_neg, if_true, if_false, Bool.false_eq_true, and_true, true_and, and_false, false_and]) <;> omega)) | (apply stI; focus ((try simp (disch := omega) only [hs.k, hs.r_sign, hs.k_sign, hs.n_sign, hr, and15, shr4, e1, e2, e3, e4, i_lit, mI_pI, mK_pI, mN_pI, mR_pI, nI_ltI, nI_eq, nI_add, nI_mul, mjIn_nI, nI_clamp, neg1_lt0, if_pos, if_neg, if_true, if_false, Bool.false_eq_true, and_true, true_and, and_false, false_and]) <;> rfl)) | (apply stV; focus ((try simp (disch := omega) only [hs.k, hs.r_sign, hs.k_sign, hs.n_sign, hr, and15, shr4, e1, e2, e3, e4, i_lit, mI_pI, mK_pI, mN_pI, mR_pI, nI_ltI, nI_eq, nI_add, nI_mul, mjIn_nI, nI_clamp, neg1_lt0, if_pos, if_neg, if_true, if_false, Bool.false_eq_true, and_true, true_and, and_false, false_and]) <;> rfl)) | (apply stL; focus ((try simp (disch := omega) only [hs.k, hs.r_sign, hs.k_sign, hs.n_sign, hr, and15, shr4, e1, e2, e3, e4, i_lit, mI_pI, mK_pI, mN_pI, mR_pI, nI_ltI, nI_eq, nI_add, nI_mul, mjIn_nI, nI_clamp, neg1_lt0, if_pos, if_neg, if_true, if_false, Bool.false_eq_true, and_true, true_and, and_false, false_and]) <;> rfl)))
            try simp (disch := omega) only [hs.k, hs.r_sign, hs.k_sign, hs.n_sign, hr, and15, shr4, e1, e2, e3, e4, i_lit, mI_pI, mK_pI, mN_pI, mR_pI, nI_ltI, nI_eq, nI_add, nI_mul, mjIn_nI, nI_clamp, neg1_lt0, if_pos, if_neg, if_true, if_false, Bool.false_eq_true, and_true, true_and, and_false, false_and]
theorem xop_len {W : Nat → Int64} {o : Nat} {xs : List Int64} : (xop W o xs).length ≤ xs.length + npush [o] := by
  rw [show npush [o] = if o % 16 = 0 ∨ o % 16 = 1 then 1 else 0 from Nat.add_zero _]
  unfold xop
  split
  · rw [if_pos (by omega)]; exact Nat.le_refl _
  · split
    · rw [if_pos (by omega)]; exact Nat.le_refl _
    · split
      · split
        · exact Nat.le_add_right _ _
        · exact Nat.zero_le _
      · split
        · simp; omega
        · exact Nat.zero_le _
theorem rr_ops (E : mjFix ev) {t en : Nat} {wr : Nat → Nat} (he : en ≤ 400) (t6 : t < 6) (bg : Int32) : ∀ (l : List Nat) (i : Nat) (ts ts' : List Bool) (xs : List Int64) (h1 : mjS) (w5 w6 w7 w8 w9 w10 : Value), rSh h1 → (∀ k, k < 11 → mL h1 252 k = nL (wr k)) → okL l → ty l ts = some ts' → Bt ts xs → xs.length + npush l ≤ 60 → Rw h1 245 (400 * t + i) (l.map nI) → i + l.length = en → mI h1 243 18 = nI xs.length → Sk h1 251 xs →
    ∃ h2 a5 a6 a7 a8 a9 a10, ev 183 lv 8 [.ref 243, .int (nI t), .int bg, .int (nI en), .int (nI i), w5, w6, w7, w8, w9, w10] [] h1 = ev 183 lv 8 [.ref 243, .int (nI t), .int bg, .int (nI en), .int (nI en), a5, a6, a7, a8, a9, a10] [] h2 ∧ Fr FK h1 h2 ∧ mI h2 243 18 = nI (xops (fun w => nL (wr w)) l xs).length ∧ Sk h2 251 (xops (fun w => nL (wr w)) l xs) := by
  intro l
  induction l with
  | nil =>
    intro i ts ts' xs h1 w5 w6 w7 w8 w9 w10 hs hw _ _ _ _ _ hi top sk
    have hi : i + 0 = en := hi
    exact ⟨h1, w5, w6, w7, w8, w9, w10, by rw [show i = en by omega], Fr.rf, top, sk⟩
  | cons o l ih =>
    intro i ts ts' xs h1 w5 w6 w7 w8 w9 w10 hs hw ok ht b hx hr hi top sk
    have ht : (tyo o ts).bind (ty l) = some ts' := ht
    have hx : xs.length + ((if o % 16 = 0 ∨ o % 16 = 1 then 1 else 0) + npush l) ≤ 60 := hx
    have hi : i + (l.length + 1) = en := hi
    have o1 : npush [o] = if o % 16 = 0 ∨ o % 16 = 1 then 1 else 0 := Nat.add_zero _
    cases e : tyo o ts with
    | none => rw [e] at ht; cases ht
    | some t1 =>
      rw [e] at ht
      have ht : ty l t1 = some ts' := ht
      obtain ⟨h2, a5, a6, a7, a8, a9, a10, e2, f2, t2, s2⟩ := rr_op (lv := lv) E (i := i) (en := en) hs hw mjD w5 w6 w7 w8 w9 w10 bg (ok o List.mem_cons_self) e b (by rw [o1]; omega) hr.1 (by omega) he t6 top sk
      have hl := xop_len (W := fun w => nL (wr w)) (o := o) (xs := xs)
      rw [o1] at hl
      obtain ⟨h3, b5, b6, b7, b8, b9, b10, e3, f3, t3, s3⟩ := ih (i + 1) t1 ts' (xop (fun w => nL (wr w)) o xs) h2 a5 a6 a7 a8 a9 a10 (f2.rSh hs) (fun k hk => by rw [f2.L (by unfold FK; omega)]; exact hw k hk) (fun z hz => ok z (List.mem_cons_of_mem _ hz)) ht (tyo_Bt e b) (by omega) (by rw [show 400 * t + (i + 1) = 400 * t + i + 1 by omega]; exact hr.2.keep (fun k _ _ => f2.I (by unfold FK; omega))) (by omega) t2 s2
      exact ⟨h3, b5, b6, b7, b8, b9, b10, e2.trans e3, f2.tr f3, t3, s3⟩
theorem sp_reckons (E : mjFix ev) {h : mjS} {t i en : Nat} {wr : Nat → Nat} (hs : rSh h) (hw : ∀ k, k < 11 → mL h 252 k = nL (wr k)) (he : en ≤ 400) (t6 : t < 6) {l : List Nat} {b : Bool} (ok : okL l) (ht : ty l [] = some [b]) (hx : npush l ≤ 60) (hr : Rw h 245 (400 * t + i) (l.map nI)) (hi : i + l.length = en) : ∃ h', mjCall ev 183 lv [.ref 243, .int (nI t), .int (nI i), .int (nI en)] h = some (.long (one1 (xops (fun w => nL (wr w)) l [])), h') ∧ Fr FK h h' := by
  have f0 : Fr FK h (pI h 243 18 (nI 0)) := Fr.pI (F := FK) (Or.inr ⟨rfl, rfl⟩)
  obtain ⟨h2, a5, a6, a7, a8, a9, a10, e2, f2, t2, s2⟩ := rr_ops (lv := lv) E (wr := wr) he t6 (nI i) l i [] [b] [] (pI h 243 18 (nI 0)) mjD mjD mjD mjD mjD mjD (f0.rSh hs) (fun k hk => hw k hk) ok ht trivial (by simp; exact hx) (hr.keep (fun k _ _ => f0.I (by unfold FK; omega))) hi (by rw [mI_pI, if_pos ⟨rfl, rfl⟩]; rfl) trivial
  have bt := ty_Bt (W := fun w => nL (wr w)) l ht (xs := []) trivial
  rw [bt.len] at t2
  have e1 := Bt_one bt
  rw [e1] at s2
  have e3 := sp_pop (lv := lv) (n := 0) E (f2.rSh (f0.rSh hs)) t2 (by omega)
  have s21 : mL h2 251 0 = _ := s2.1
  rw [s21] at e3
  refine ⟨pI h2 243 18 (nI 0), ?_, (f0.tr f2).tr (Fr.pI (F := FK) (Or.inr ⟨rfl, rfl⟩))⟩
  · show ev 183 lv 0 [.ref 243, .int (nI t), .int (nI i), .int (nI en), mjD, mjD, mjD, mjD, mjD, mjD, mjD] [] h = _
    have k2 := (f2.rSh (f0.rSh hs)).k
    rw [e_183_0 E, if_pos hs.k]
    rw [show pI h 243 18 0 = pI h 243 18 (nI 0) from rfl, e2, e_183_8 E]
    repeat (first | (apply ifT; focus ((try simp (disch := omega) only [k2, e3, i_lit, mI_pI, mK_pI, mN_pI, mR_pI, nI_ltI, nI_eq, nI_add, nI_mul, mjIn_nI, nI_clamp, neg1_lt0, if_pos, if_neg, if_true, if_false, Bool.false_eq_true, and_true, true_and, and_false, false_and]) <;> omega)) | (apply ifF; focus ((try simp (disch := omega) only [k2, e3, i_lit, mI_pI, mK_pI, mN_pI, mR_pI, nI_ltI, nI_eq, nI_add, nI_mul, mjIn_nI, nI_clamp, neg1_lt0, if_pos, if_neg, if_true, if_false, Bool.false_eq_true, and_true, true_and, and_false, false_and]) <;> omega)) | (apply stI; focus ((try simp (disch := omega) only [k2, e3, i_lit, mI_pI, mK_pI, mN_pI, mR_pI, nI_ltI, nI_eq, nI_add, nI_mul, mjIn_nI, nI_clamp, neg1_lt0, if_pos, if_neg, if_true, if_false, Bool.false_eq_true, and_true, true_and, and_false, false_and]) <;> rfl)) | (apply stV; focus ((try simp (disch := omega) only [k2, e3, i_lit, mI_pI, mK_pI, mN_pI, mR_pI, nI_ltI, nI_eq, nI_add, nI_mul, mjIn_nI, nI_clamp, neg1_lt0, if_pos, if_neg, if_true, if_false, Bool.false_eq_true, and_true, true_and, and_false, false_and]) <;> rfl)) | (apply stL; focus ((try simp (disch := omega) only [k2, e3, i_lit, mI_pI, mK_pI, mN_pI, mR_pI, nI_ltI, nI_eq, nI_add, nI_mul, mjIn_nI, nI_clamp, neg1_lt0, if_pos, if_neg, if_true, if_false, Bool.false_eq_true, and_true, true_and, and_false, false_and]) <;> rfl)))
    try simp (disch := omega) only [k2, e3, i_lit, mI_pI, mK_pI, mN_pI, mR_pI, nI_ltI, nI_eq, nI_add, nI_mul, mjIn_nI, nI_clamp, neg1_lt0, if_pos, if_neg, if_true, if_false, Bool.false_eq_true, and_true, true_and, and_false, false_and]
end RU
