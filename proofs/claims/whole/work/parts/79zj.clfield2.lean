/-! the class reads a field; field() -/
theorem CI.away {h h' : mjS} {s : gst} (hx : mX h ≤ mX h') (A : ∀ a, a < mX h → mK h' a = mK h a ∧ mN h' a = mN h a ∧ ∀ k, mR h' a k = mR h a k ∧ (¬ FRk a k → mI h' a k = mI h a k ∧ mL h' a k = mL h a k)) (c : CI h s) : CI h' s := by
  obtain ⟨f, nx, fi, C1, -⟩ := c.parts
  have x := C1.2.2.2.2.2
  obtain ⟨m, em⟩ : ∃ m : mjS, m = (fun a k => if FRk a k then mI h' a k else mI h a k, fun a k => if FRk a k then mL h' a k else mL h a k, h.2.2) := ⟨_, rfl⟩
  have mi : ∀ a k, mI m a k = if FRk a k then mI h' a k else mI h a k := fun a k => by rw [em]; rfl
  have ml : ∀ a k, mL m a k = if FRk a k then mL h' a k else mL h a k := fun a k => by rw [em]; rfl
  have fm : Fr FRk h m := ⟨by rw [em], fun a k hF => ⟨by rw [mi, if_neg hF], by rw [ml, if_neg hF]⟩⟩
  have cm := c.frk fm
  have g : Gv m h' := ⟨by rw [fm.X]; exact hx, fun a ha => by
    rw [fm.X] at ha
    obtain ⟨a1, a2, a3⟩ := A a ha
    refine ⟨by rw [fm.K]; exact a1, by rw [fm.N]; exact a2, fun k => ⟨?_, ?_, fun _ => by rw [fm.R]; exact (a3 k).1⟩⟩
    · rw [mi]
      by_cases z : FRk a k
      · rw [if_pos z]
      · rw [if_neg z]; exact ((a3 k).2 z).1
    · rw [ml]
      by_cases z : FRk a k
      · rw [if_pos z]
      · rw [if_neg z]; exact ((a3 k).2 z).2⟩
  exact g.ci (fun i => by rw [fm.R]; exact ((A 13 (by omega)).2.2 i).1) cm
section CD
variable {ev : mjT} {lv : Nat} {h : mjS} {s : gst} {B : Nat}
/-- a new field, of which nothing is told -/
theorem cl_newF (E : mjFix ev) (h : mjS) (x0 : 0 < mX h) : ∃ h', mjCall ev 3 lv [.ref (mX h)] (pN h 2 0 8) = some (.ref 0, h') ∧ fSh h' (mX h) ∧ (∀ a k, mX h ≤ a → a < mX h + 5 → mI h' a k = 0) ∧ mX h' = mX h + 5 ∧ mZ h' = mZ h + 30 ∧ ∀ a, a < mX h → mK h' a = mK h a ∧ mN h' a = mN h a ∧ ∀ k, mL h' a k = mL h a k ∧ mR h' a k = mR h a k ∧ mI h' a k = mI h a k := by
  obtain ⟨h1, eh1⟩ : ∃ y, y = pN h 2 0 8 := ⟨_, rfl⟩
  obtain ⟨h3, eh3⟩ : ∃ y, y = pR (pN h1 20 5 5) (mX h) 2 (mX h1) := ⟨_, rfl⟩
  obtain ⟨h5, eh5⟩ : ∃ y, y = pR (pN h3 20 6 6) (mX h) 4 (mX h3) := ⟨_, rfl⟩
  obtain ⟨h7, eh7⟩ : ∃ y, y = pR (pN h5 20 6 6) (mX h) 5 (mX h5) := ⟨_, rfl⟩
  obtain ⟨h9, eh9⟩ : ∃ y, y = pR (pN h7 20 5 5) (mX h) 7 (mX h7) := ⟨_, rfl⟩
  have x1 : mX h1 = mX h + 1 := by rw [eh1]; rfl
  have x3 : mX h3 = mX h + 2 := by rw [eh3]; show mX h1 + 1 = _; omega
  have x5 : mX h5 = mX h + 3 := by rw [eh5]; show mX h3 + 1 = _; omega
  have x7 : mX h7 = mX h + 4 := by rw [eh7]; show mX h5 + 1 = _; omega
  have x9 : mX h9 = mX h + 5 := by rw [eh9]; show mX h7 + 1 = _; omega
  have K1 : ∀ a, mK h1 a = if a = mX h then 2 else mK h a := fun a => by rw [eh1]; rfl
  have K3 : ∀ a, mK h3 a = if a = mX h1 then 20 else mK h1 a := fun a => by rw [eh3]; rfl
  have K5 : ∀ a, mK h5 a = if a = mX h3 then 20 else mK h3 a := fun a => by rw [eh5]; rfl
  have K7 : ∀ a, mK h7 a = if a = mX h5 then 20 else mK h5 a := fun a => by rw [eh7]; rfl
  have K9 : ∀ a, mK h9 a = if a = mX h7 then 20 else mK h7 a := fun a => by rw [eh9]; rfl
  have N1 : ∀ a, mN h1 a = if a = mX h then 0 else mN h a := fun a => by rw [eh1]; rfl
  have N3 : ∀ a, mN h3 a = if a = mX h1 then 5 else mN h1 a := fun a => by rw [eh3]; rfl
  have N5 : ∀ a, mN h5 a = if a = mX h3 then 6 else mN h3 a := fun a => by rw [eh5]; rfl
  have N7 : ∀ a, mN h7 a = if a = mX h5 then 6 else mN h5 a := fun a => by rw [eh7]; rfl
  have N9 : ∀ a, mN h9 a = if a = mX h7 then 5 else mN h7 a := fun a => by rw [eh9]; rfl
  have I1 : ∀ a k, mI h1 a k = if a = mX h then 0 else mI h a k := fun a k => by rw [eh1]; rfl
  have I3 : ∀ a k, mI h3 a k = if a = mX h1 then 0 else mI h1 a k := fun a k => by rw [eh3]; rfl
  have I5 : ∀ a k, mI h5 a k = if a = mX h3 then 0 else mI h3 a k := fun a k => by rw [eh5]; rfl
  have I7 : ∀ a k, mI h7 a k = if a = mX h5 then 0 else mI h5 a k := fun a k => by rw [eh7]; rfl
  have I9 : ∀ a k, mI h9 a k = if a = mX h7 then 0 else mI h7 a k := fun a k => by rw [eh9]; rfl
  have L1 : ∀ a k, mL h1 a k = if a = mX h then 0 else mL h a k := fun a k => by rw [eh1]; rfl
  have L3 : ∀ a k, mL h3 a k = if a = mX h1 then 0 else mL h1 a k := fun a k => by rw [eh3]; rfl
  have L5 : ∀ a k, mL h5 a k = if a = mX h3 then 0 else mL h3 a k := fun a k => by rw [eh5]; rfl
  have L7 : ∀ a k, mL h7 a k = if a = mX h5 then 0 else mL h5 a k := fun a k => by rw [eh7]; rfl
  have L9 : ∀ a k, mL h9 a k = if a = mX h7 then 0 else mL h7 a k := fun a k => by rw [eh9]; rfl
  have R1 : ∀ a k, mR h1 a k = if a = mX h then 0 else mR h a k := fun a k => by rw [eh1]; rfl
  have R3 : ∀ a k, mR h3 a k = if a = mX h ∧ k = 2 then mX h1 else if a = mX h1 then 0 else mR h1 a k := fun a k => by rw [eh3]; rfl
  have R5 : ∀ a k, mR h5 a k = if a = mX h ∧ k = 4 then mX h3 else if a = mX h3 then 0 else mR h3 a k := fun a k => by rw [eh5]; rfl
  have R7 : ∀ a k, mR h7 a k = if a = mX h ∧ k = 5 then mX h5 else if a = mX h5 then 0 else mR h5 a k := fun a k => by rw [eh7]; rfl
  have R9 : ∀ a k, mR h9 a k = if a = mX h ∧ k = 7 then mX h7 else if a = mX h7 then 0 else mR h7 a k := fun a k => by rw [eh9]; rfl
  have c5 : Int32.toNatClampNeg 5 = 5 := by decide
  have c6 : Int32.toNatClampNeg 6 = 6 := by decide
  have z9 : mZ h9 = mZ h + 30 := by rw [eh9, eh7, eh5, eh3, eh1]; rfl
  refine ⟨h9, ?_, ⟨?_, ⟨?_, ?_, ?_⟩, ⟨?_, ?_, ?_⟩, ⟨?_, ?_, ?_⟩, ?_, ?_, ?_⟩, fun a k ha hb => ?_, x9, z9, fun a ha => ⟨?_, ?_, fun k => ⟨?_, ?_, ?_⟩⟩⟩
  · rw [← eh1]
    show ev 3 lv 0 [.ref (mX h)] [] h1 = _
    rw [e_3_0 E]
    refine ifF (by omega) ?_
    rw [e_3_4 E]
    dsimp only [mjLet]
    rw [c5, ← eh3]
    refine ifT ⟨by decide, by decide⟩ (ifT ?_ ?_)
    · show mK (pN h1 20 5 5) (mX h) = 2
      rw [mK_pN, if_neg (by omega), K1, if_pos rfl]
    rw [e_3_11 E]
    dsimp only [mjLet]
    rw [c6, ← eh5]
    refine ifT ⟨by decide, by decide⟩ (ifT ?_ ?_)
    · show mK (pN h3 20 6 6) (mX h) = 2
      rw [mK_pN, if_neg (by omega), K3, if_neg (by omega), K1, if_pos rfl]
    rw [e_3_19 E]
    dsimp only [mjLet]
    rw [c6, ← eh7]
    refine ifT ⟨by decide, by decide⟩ (ifT ?_ ?_)
    · show mK (pN h5 20 6 6) (mX h) = 2
      rw [mK_pN, if_neg (by omega), K5, if_neg (by omega), K3, if_neg (by omega), K1, if_pos rfl]
    rw [e_3_27 E]
    dsimp only [mjLet]
    rw [c5, ← eh9]
    refine ifT ⟨by decide, by decide⟩ (ifT ?_ rfl)
    show mK (pN h7 20 5 5) (mX h) = 2
    rw [mK_pN, if_neg (by omega), K7, if_neg (by omega), K5, if_neg (by omega), K3, if_neg (by omega), K1, if_pos rfl]
  · rw [K9, if_neg (by omega), K7, if_neg (by omega), K5, if_neg (by omega), K3, if_neg (by omega), K1, if_pos rfl]
  · rw [R9, if_neg (by omega), if_neg (by omega), R7, if_neg (by omega), if_neg (by omega), R5, if_neg (by omega), if_neg (by omega), R3, if_pos ⟨rfl, rfl⟩, x1]
  · rw [K9, if_neg (by omega), K7, if_neg (by omega), K5, if_neg (by omega), K3, if_pos (by omega)]
  · rw [N9, if_neg (by omega), N7, if_neg (by omega), N5, if_neg (by omega), N3, if_pos (by omega)]
  · rw [R9, if_neg (by omega), if_neg (by omega), R7, if_neg (by omega), if_neg (by omega), R5, if_pos ⟨rfl, rfl⟩, x3]
  · rw [K9, if_neg (by omega), K7, if_neg (by omega), K5, if_pos (by omega)]
  · rw [N9, if_neg (by omega), N7, if_neg (by omega), N5, if_pos (by omega)]
  · rw [R9, if_neg (by omega), if_neg (by omega), R7, if_pos ⟨rfl, rfl⟩, x5]
  · rw [K9, if_neg (by omega), K7, if_pos (by omega)]
  · rw [N9, if_neg (by omega), N7, if_pos (by omega)]
  · rw [R9, if_pos ⟨rfl, rfl⟩, x7]
  · rw [K9, if_pos (by omega)]
  · rw [N9, if_pos (by omega)]
  · rw [I9, I7, I5, I3, I1]
    repeat' split
    all_goals first | rfl | omega
  · rw [K9, if_neg (by omega), K7, if_neg (by omega), K5, if_neg (by omega), K3, if_neg (by omega), K1, if_neg (by omega)]
  · rw [N9, if_neg (by omega), N7, if_neg (by omega), N5, if_neg (by omega), N3, if_neg (by omega), N1, if_neg (by omega)]
  · rw [L9, if_neg (by omega), L7, if_neg (by omega), L5, if_neg (by omega), L3, if_neg (by omega), L1, if_neg (by omega)]
  · rw [R9, if_neg (by omega), if_neg (by omega), R7, if_neg (by omega), if_neg (by omega), R5, if_neg (by omega), if_neg (by omega), R3, if_neg (by omega), if_neg (by omega), R1, if_neg (by omega)]
  · rw [I9, if_neg (by omega), I7, if_neg (by omega), I5, if_neg (by omega), I3, if_neg (by omega), I1, if_neg (by omega)]
def CLr (tb : Nat → Int32) (tl f : Nat) (h : mjS) (X : mjO) (r : Nat ⊕ (Nat → Nat)) : Prop := match r with
  | .inl g => ∃ h' i ts, X = some (.ref 0, h') ∧ Fr (FCl f) h h' ∧ Tq h' tb tl i ts g ∧ g ≠ 0
  | .inr G => ∃ h', X = some (.ref f, h') ∧ Fr (FCl f) h h' ∧ CT h' f G
theorem CLr.tr {tb : Nat → Int32} {tl f : Nat} {h h1 : mjS} {X Y : mjO} {r : Nat ⊕ (Nat → Nat)} (g : Fr (FCl f) h h1) (e : X = Y) (c : CLr tb tl f h1 Y r) : CLr tb tl f h X r := by
  cases r with
  | inl z => obtain ⟨h', i, ts, a, b, d⟩ := c; exact ⟨h', i, ts, e.trans a, g.tr b, d⟩
  | inr z => obtain ⟨h', a, b, d⟩ := c; exact ⟨h', e.trans a, g.tr b, d⟩
theorem cf_all (E : mjFix ev) {tb : Nat → Int32} {tl f : Nat} (hf : 264 ≤ f) : ∀ (n : Nat) (G : Nat → Nat) (ts : List tok) (i : Nat) (h : mjS), nG G + n = 40 → okN G → Tq h tb tl i ts 0 → fSh h f → CT h f G → CLr tb tl f h (ev 6 lv 17 [.ref 10, .ref f, .int (nI (nG G))] [] h) (fdF tl n G ts) := by
  intro n
  induction n with
  | zero => intro G ts i h hn o; have := okN_n o; omega
  | succ n ih =>
    intro G ts i h hn o q fs ct
    have n17 := okN_n o
    have t := q.1.1
    have gz : (if G 0 = 0 then 1 else 0) = (if nG G = 0 then 1 else 0) := by
      obtain ⟨⟨⟨w0, w1, w2, w3, w4, w5, w6, w7⟩, -⟩, -⟩ := o
      unfold nG
      split <;> split <;> omega
    have j : ev 6 lv 17 [.ref 10, .ref f, .int (nI (nG G))] [] h = ev 6 lv 34 [.ref 10, .ref f, .int (nI (nG G))] [.int (nI (if G 0 = 0 then 1 else 0)), .ref f, .ref 10] h := by
      rw [gz, e_6_17 E]
      by_cases z : nG G = 0
      · rw [z]
        repeat (first | (apply ifT; focus ((try simp (disch := omega) only [ofNat_nI, i_lit, mI_pI, mK_pI, mN_pI, mR_pI, nI_ltI, nI_eq, nI_add, nI_mul, mjIn_nI, nI_clamp, neg1_lt0, if_pos, if_neg, if_true, if_false, Bool.false_eq_true, and_true, true_and, and_false, false_and, mI_pL, mK_pL, mN_pL, mR_pL, mL_pL, mL_pI, mI_pR, mL_pR, mK_pR, mN_pR, mR_pR, mI_pC, mL_pC, mK_pC, mN_pC, mR_pC]) <;> first | omega | decide)) | (apply ifF; focus ((try simp (disch := omega) only [ofNat_nI, i_lit, mI_pI, mK_pI, mN_pI, mR_pI, nI_ltI, nI_eq, nI_add, nI_mul, mjIn_nI, nI_clamp, neg1_lt0, if_pos, if_neg, if_true, if_false, Bool.false_eq_true, and_true, true_and, and_false, false_and, mI_pL, mK_pL, mN_pL, mR_pL, mL_pL, mL_pI, mI_pR, mL_pR, mK_pR, mN_pR, mR_pR, mI_pC, mL_pC, mK_pC, mN_pC, mR_pC]) <;> first | omega | decide)) | (apply stI; focus ((try simp (disch := omega) only [ofNat_nI, i_lit, mI_pI, mK_pI, mN_pI, mR_pI, nI_ltI, nI_eq, nI_add, nI_mul, mjIn_nI, nI_clamp, neg1_lt0, if_pos, if_neg, if_true, if_false, Bool.false_eq_true, and_true, true_and, and_false, false_and, mI_pL, mK_pL, mN_pL, mR_pL, mL_pL, mL_pI, mI_pR, mL_pR, mK_pR, mN_pR, mR_pR, mI_pC, mL_pC, mK_pC, mN_pC, mR_pC]) <;> rfl)) | (apply stV; focus ((try simp (disch := omega) only [ofNat_nI, i_lit, mI_pI, mK_pI, mN_pI, mR_pI, nI_ltI, nI_eq, nI_add, nI_mul, mjIn_nI, nI_clamp, neg1_lt0, if_pos, if_neg, if_true, if_false, Bool.false_eq_true, and_true, true_and, and_false, false_and, mI_pL, mK_pL, mN_pL, mR_pL, mL_pL, mL_pI, mI_pR, mL_pR, mK_pR, mN_pR, mR_pR, mI_pC, mL_pC, mK_pC, mN_pC, mR_pC]) <;> rfl)) | (apply stL; focus ((try simp (disch := omega) only [ofNat_nI, i_lit, mI_pI, mK_pI, mN_pI, mR_pI, nI_ltI, nI_eq, nI_add, nI_mul, mjIn_nI, nI_clamp, neg1_lt0, if_pos, if_neg, if_true, if_false, Bool.false_eq_true, and_true, true_and, and_false, false_and, mI_pL, mK_pL, mN_pL, mR_pL, mL_pL, mL_pI, mI_pR, mL_pR, mK_pR, mN_pR, mR_pR, mI_pC, mL_pC, mK_pC, mN_pC, mR_pC]) <;> rfl)) | (apply stA; focus ((try simp (disch := omega) only [ofNat_nI, i_lit, mI_pI, mK_pI, mN_pI, mR_pI, nI_ltI, nI_eq, nI_add, nI_mul, mjIn_nI, nI_clamp, neg1_lt0, if_pos, if_neg, if_true, if_false, Bool.false_eq_true, and_true, true_and, and_false, false_and, mI_pL, mK_pL, mN_pL, mR_pL, mL_pL, mL_pI, mI_pR, mL_pR, mK_pR, mN_pR, mR_pR, mI_pC, mL_pC, mK_pC, mN_pC, mR_pC]) <;> rfl)))
        try simp (disch := omega) only [ofNat_nI, i_lit, mI_pI, mK_pI, mN_pI, mR_pI, nI_ltI, nI_eq, nI_add, nI_mul, mjIn_nI, nI_clamp, neg1_lt0, if_pos, if_neg, if_true, if_false, Bool.false_eq_true, and_true, true_and, and_false, false_and, mI_pL, mK_pL, mN_pL, mR_pL, mL_pL, mL_pI, mI_pR, mL_pR, mK_pR, mN_pR, mR_pR, mI_pC, mL_pC, mK_pC, mN_pC, mR_pC]
        try rfl
      · rw [if_neg z]
        repeat (first | (apply ifT; focus ((try simp (disch := omega) only [ofNat_nI, i_lit, mI_pI, mK_pI, mN_pI, mR_pI, nI_ltI, nI_eq, nI_add, nI_mul, mjIn_nI, nI_clamp, neg1_lt0, if_pos, if_neg, if_true, if_false, Bool.false_eq_true, and_true, true_and, and_false, false_and, mI_pL, mK_pL, mN_pL, mR_pL, mL_pL, mL_pI, mI_pR, mL_pR, mK_pR, mN_pR, mR_pR, mI_pC, mL_pC, mK_pC, mN_pC, mR_pC]) <;> first | omega | decide)) | (apply ifF; focus ((try simp (disch := omega) only [ofNat_nI, i_lit, mI_pI, mK_pI, mN_pI, mR_pI, nI_ltI, nI_eq, nI_add, nI_mul, mjIn_nI, nI_clamp, neg1_lt0, if_pos, if_neg, if_true, if_false, Bool.false_eq_true, and_true, true_and, and_false, false_and, mI_pL, mK_pL, mN_pL, mR_pL, mL_pL, mL_pI, mI_pR, mL_pR, mK_pR, mN_pR, mR_pR, mI_pC, mL_pC, mK_pC, mN_pC, mR_pC]) <;> first | omega | decide)) | (apply stI; focus ((try simp (disch := omega) only [ofNat_nI, i_lit, mI_pI, mK_pI, mN_pI, mR_pI, nI_ltI, nI_eq, nI_add, nI_mul, mjIn_nI, nI_clamp, neg1_lt0, if_pos, if_neg, if_true, if_false, Bool.false_eq_true, and_true, true_and, and_false, false_and, mI_pL, mK_pL, mN_pL, mR_pL, mL_pL, mL_pI, mI_pR, mL_pR, mK_pR, mN_pR, mR_pR, mI_pC, mL_pC, mK_pC, mN_pC, mR_pC]) <;> rfl)) | (apply stV; focus ((try simp (disch := omega) only [ofNat_nI, i_lit, mI_pI, mK_pI, mN_pI, mR_pI, nI_ltI, nI_eq, nI_add, nI_mul, mjIn_nI, nI_clamp, neg1_lt0, if_pos, if_neg, if_true, if_false, Bool.false_eq_true, and_true, true_and, and_false, false_and, mI_pL, mK_pL, mN_pL, mR_pL, mL_pL, mL_pI, mI_pR, mL_pR, mK_pR, mN_pR, mR_pR, mI_pC, mL_pC, mK_pC, mN_pC, mR_pC]) <;> rfl)) | (apply stL; focus ((try simp (disch := omega) only [ofNat_nI, i_lit, mI_pI, mK_pI, mN_pI, mR_pI, nI_ltI, nI_eq, nI_add, nI_mul, mjIn_nI, nI_clamp, neg1_lt0, if_pos, if_neg, if_true, if_false, Bool.false_eq_true, and_true, true_and, and_false, false_and, mI_pL, mK_pL, mN_pL, mR_pL, mL_pL, mL_pI, mI_pR, mL_pR, mK_pR, mN_pR, mR_pR, mI_pC, mL_pC, mK_pC, mN_pC, mR_pC]) <;> rfl)) | (apply stA; focus ((try simp (disch := omega) only [ofNat_nI, i_lit, mI_pI, mK_pI, mN_pI, mR_pI, nI_ltI, nI_eq, nI_add, nI_mul, mjIn_nI, nI_clamp, neg1_lt0, if_pos, if_neg, if_true, if_false, Bool.false_eq_true, and_true, true_and, and_false, false_and, mI_pL, mK_pL, mN_pL, mR_pL, mL_pL, mL_pI, mI_pR, mL_pR, mK_pR, mN_pR, mR_pR, mI_pC, mL_pC, mK_pC, mN_pC, mR_pC]) <;> rfl)))
        try simp (disch := omega) only [ofNat_nI, i_lit, mI_pI, mK_pI, mN_pI, mR_pI, nI_ltI, nI_eq, nI_add, nI_mul, mjIn_nI, nI_clamp, neg1_lt0, if_pos, if_neg, if_true, if_false, Bool.false_eq_true, and_true, true_and, and_false, false_and, mI_pL, mK_pL, mN_pL, mR_pL, mL_pL, mL_pI, mI_pR, mL_pR, mK_pR, mN_pR, mR_pR, mI_pC, mL_pC, mK_pC, mN_pC, mR_pC]
        try rfl
    rw [j, e_6_34 E]
    have r := cf_clause (lv := lv) E q fs ct hf o
    have bad : ∀ g, CCr tb tl f h (mjCall ev 7 lv [.ref 10, .ref f, .int (nI (if G 0 = 0 then 1 else 0))] h) (.inl g) → CLr tb tl f h (ev 6 lv 34 [.ref 10, .ref f, .int (nI (nG G))] [.int (nI (if G 0 = 0 then 1 else 0)), .ref f, .ref 10] h) (.inl g) := by
      intro g r
      obtain ⟨h1, i1, ts1, e1, f1, q1, g0⟩ := r
      have t1 := q1.1.1
      have s1 := tq_stuck (lv := lv) E q1 g0 (nI 1)
      have s2 := tq_stuck (lv := lv) E q1 g0 (nI 59)
      obtain ⟨h2, m, f2, q2⟩ := tq_mark (lv := lv) (k := 0) E q1 (by omega)
      rw [if_neg g0] at q2
      refine ⟨h2, i1, ts1, ?_, f1.tr (f2.mono (fun x k => FTp_FCl)), q2, g0⟩
      rw [e_6_34 E]
      repeat (first | (apply ifT; focus ((try simp (disch := omega) only [t.k10, e1, t1.k10, t1.r10_0, t1.k5, s1, s2, m, ofNat_nI, i_lit, mI_pI, mK_pI, mN_pI, mR_pI, nI_ltI, nI_eq, nI_add, nI_mul, mjIn_nI, nI_clamp, neg1_lt0, if_pos, if_neg, if_true, if_false, Bool.false_eq_true, and_true, true_and, and_false, false_and, mI_pL, mK_pL, mN_pL, mR_pL, mL_pL, mL_pI, mI_pR, mL_pR, mK_pR, mN_pR, mR_pR, mI_pC, mL_pC, mK_pC, mN_pC, mR_pC]) <;> first | omega | decide)) | (apply ifF; focus ((try simp (disch := omega) only [t.k10, e1, t1.k10, t1.r10_0, t1.k5, s1, s2, m, ofNat_nI, i_lit, mI_pI, mK_pI, mN_pI, mR_pI, nI_ltI, nI_eq, nI_add, nI_mul, mjIn_nI, nI_clamp, neg1_lt0, if_pos, if_neg, if_true, if_false, Bool.false_eq_true, and_true, true_and, and_false, false_and, mI_pL, mK_pL, mN_pL, mR_pL, mL_pL, mL_pI, mI_pR, mL_pR, mK_pR, mN_pR, mR_pR, mI_pC, mL_pC, mK_pC, mN_pC, mR_pC]) <;> first | omega | decide)) | (apply stI; focus ((try simp (disch := omega) only [t.k10, e1, t1.k10, t1.r10_0, t1.k5, s1, s2, m, ofNat_nI, i_lit, mI_pI, mK_pI, mN_pI, mR_pI, nI_ltI, nI_eq, nI_add, nI_mul, mjIn_nI, nI_clamp, neg1_lt0, if_pos, if_neg, if_true, if_false, Bool.false_eq_true, and_true, true_and, and_false, false_and, mI_pL, mK_pL, mN_pL, mR_pL, mL_pL, mL_pI, mI_pR, mL_pR, mK_pR, mN_pR, mR_pR, mI_pC, mL_pC, mK_pC, mN_pC, mR_pC]) <;> rfl)) | (apply stV; focus ((try simp (disch := omega) only [t.k10, e1, t1.k10, t1.r10_0, t1.k5, s1, s2, m, ofNat_nI, i_lit, mI_pI, mK_pI, mN_pI, mR_pI, nI_ltI, nI_eq, nI_add, nI_mul, mjIn_nI, nI_clamp, neg1_lt0, if_pos, if_neg, if_true, if_false, Bool.false_eq_true, and_true, true_and, and_false, false_and, mI_pL, mK_pL, mN_pL, mR_pL, mL_pL, mL_pI, mI_pR, mL_pR, mK_pR, mN_pR, mR_pR, mI_pC, mL_pC, mK_pC, mN_pC, mR_pC]) <;> rfl)) | (apply stL; focus ((try simp (disch := omega) only [t.k10, e1, t1.k10, t1.r10_0, t1.k5, s1, s2, m, ofNat_nI, i_lit, mI_pI, mK_pI, mN_pI, mR_pI, nI_ltI, nI_eq, nI_add, nI_mul, mjIn_nI, nI_clamp, neg1_lt0, if_pos, if_neg, if_true, if_false, Bool.false_eq_true, and_true, true_and, and_false, false_and, mI_pL, mK_pL, mN_pL, mR_pL, mL_pL, mL_pI, mI_pR, mL_pR, mK_pR, mN_pR, mR_pR, mI_pC, mL_pC, mK_pC, mN_pC, mR_pC]) <;> rfl)) | (apply stA; focus ((try simp (disch := omega) only [t.k10, e1, t1.k10, t1.r10_0, t1.k5, s1, s2, m, ofNat_nI, i_lit, mI_pI, mK_pI, mN_pI, mR_pI, nI_ltI, nI_eq, nI_add, nI_mul, mjIn_nI, nI_clamp, neg1_lt0, if_pos, if_neg, if_true, if_false, Bool.false_eq_true, and_true, true_and, and_false, false_and, mI_pL, mK_pL, mN_pL, mR_pL, mL_pL, mL_pI, mI_pR, mL_pR, mK_pR, mN_pR, mR_pR, mI_pC, mL_pC, mK_pC, mN_pC, mR_pC]) <;> rfl)))
      try simp (disch := omega) only [t.k10, e1, t1.k10, t1.r10_0, t1.k5, s1, s2, m, ofNat_nI, i_lit, mI_pI, mK_pI, mN_pI, mR_pI, nI_ltI, nI_eq, nI_add, nI_mul, mjIn_nI, nI_clamp, neg1_lt0, if_pos, if_neg, if_true, if_false, Bool.false_eq_true, and_true, true_and, and_false, false_and, mI_pL, mK_pL, mN_pL, mR_pL, mL_pL, mL_pI, mI_pR, mL_pR, mK_pR, mN_pR, mR_pR, mI_pC, mL_pC, mK_pC, mN_pC, mR_pC]
    have q0 : fdF tl (n + 1) G ts = match fcF tl G ts with
      | .inl f => .inl f
      | .inr v => if kd v.2 = 1 then .inr v.1 else if kd v.2 = 59 then fdF tl n v.1 v.2.tail else .inl (1 + 8 * pl tl v.2 + 0) := rfl
    rw [q0]
    cases hc : fcF tl G ts with
    | inl g =>
      rw [hc] at r
      have b := bad g r
      rw [e_6_34 E] at b
      exact b
    | inr v =>
      rw [hc] at r
      obtain ⟨h1, i1, e1, f1, q1, ct1⟩ := r
      obtain ⟨a1, a2, a3, a4⟩ := fcF_ok o q.2.1 hc
      have t1 := q1.1.1
      have fs1 := f1.t.fs fs
      show CLr tb tl f h _ (if kd v.2 = 1 then .inr v.1 else if kd v.2 = 59 then fdF tl n v.1 v.2.tail else .inl (1 + 8 * pl tl v.2 + 0))
      by_cases z : kd v.2 = 1
      · rw [if_pos z]
        obtain ⟨h2, i2, e2, f2, q2⟩ := tq_take (lv := lv) (k := 1) E q1 (by omega) z
        refine ⟨h2, ?_, f1.tr (f2.mono (fun x k => FTp_FCl)), ct1.fr f2 (fun x k h1 h2 => by unfold FTp; omega)⟩
        repeat (first | (apply ifT; focus ((try simp (disch := omega) only [t.k10, e1, t1.k10, t1.r10_0, t1.k5, e2, ofNat_nI, i_lit, mI_pI, mK_pI, mN_pI, mR_pI, nI_ltI, nI_eq, nI_add, nI_mul, mjIn_nI, nI_clamp, neg1_lt0, if_pos, if_neg, if_true, if_false, Bool.false_eq_true, and_true, true_and, and_false, false_and, mI_pL, mK_pL, mN_pL, mR_pL, mL_pL, mL_pI, mI_pR, mL_pR, mK_pR, mN_pR, mR_pR, mI_pC, mL_pC, mK_pC, mN_pC, mR_pC]) <;> first | omega | decide)) | (apply ifF; focus ((try simp (disch := omega) only [t.k10, e1, t1.k10, t1.r10_0, t1.k5, e2, ofNat_nI, i_lit, mI_pI, mK_pI, mN_pI, mR_pI, nI_ltI, nI_eq, nI_add, nI_mul, mjIn_nI, nI_clamp, neg1_lt0, if_pos, if_neg, if_true, if_false, Bool.false_eq_true, and_true, true_and, and_false, false_and, mI_pL, mK_pL, mN_pL, mR_pL, mL_pL, mL_pI, mI_pR, mL_pR, mK_pR, mN_pR, mR_pR, mI_pC, mL_pC, mK_pC, mN_pC, mR_pC]) <;> first | omega | decide)) | (apply stI; focus ((try simp (disch := omega) only [t.k10, e1, t1.k10, t1.r10_0, t1.k5, e2, ofNat_nI, i_lit, mI_pI, mK_pI, mN_pI, mR_pI, nI_ltI, nI_eq, nI_add, nI_mul, mjIn_nI, nI_clamp, neg1_lt0, if_pos, if_neg, if_true, if_false, Bool.false_eq_true, and_true, true_and, and_false, false_and, mI_pL, mK_pL, mN_pL, mR_pL, mL_pL, mL_pI, mI_pR, mL_pR, mK_pR, mN_pR, mR_pR, mI_pC, mL_pC, mK_pC, mN_pC, mR_pC]) <;> rfl)) | (apply stV; focus ((try simp (disch := omega) only [t.k10, e1, t1.k10, t1.r10_0, t1.k5, e2, ofNat_nI, i_lit, mI_pI, mK_pI, mN_pI, mR_pI, nI_ltI, nI_eq, nI_add, nI_mul, mjIn_nI, nI_clamp, neg1_lt0, if_pos, if_neg, if_true, if_false, Bool.false_eq_true, and_true, true_and, and_false, false_and, mI_pL, mK_pL, mN_pL, mR_pL, mL_pL, mL_pI, mI_pR, mL_pR, mK_pR, mN_pR, mR_pR, mI_pC, mL_pC, mK_pC, mN_pC, mR_pC]) <;> rfl)) | (apply stL; focus ((try simp (disch := omega) only [t.k10, e1, t1.k10, t1.r10_0, t1.k5, e2, ofNat_nI, i_lit, mI_pI, mK_pI, mN_pI, mR_pI, nI_ltI, nI_eq, nI_add, nI_mul, mjIn_nI, nI_clamp, neg1_lt0, if_pos, if_neg, if_true, if_false, Bool.false_eq_true, and_true, true_and, and_false, false_and, mI_pL, mK_pL, mN_pL, mR_pL, mL_pL, mL_pI, mI_pR, mL_pR, mK_pR, mN_pR, mR_pR, mI_pC, mL_pC, mK_pC, mN_pC, mR_pC]) <;> rfl)) | (apply stA; focus ((try simp (disch := omega) only [t.k10, e1, t1.k10, t1.r10_0, t1.k5, e2, ofNat_nI, i_lit, mI_pI, mK_pI, mN_pI, mR_pI, nI_ltI, nI_eq, nI_add, nI_mul, mjIn_nI, nI_clamp, neg1_lt0, if_pos, if_neg, if_true, if_false, Bool.false_eq_true, and_true, true_and, and_false, false_and, mI_pL, mK_pL, mN_pL, mR_pL, mL_pL, mL_pI, mI_pR, mL_pR, mK_pR, mN_pR, mR_pR, mI_pC, mL_pC, mK_pC, mN_pC, mR_pC]) <;> rfl)))
        try simp (disch := omega) only [t.k10, e1, t1.k10, t1.r10_0, t1.k5, e2, ofNat_nI, i_lit, mI_pI, mK_pI, mN_pI, mR_pI, nI_ltI, nI_eq, nI_add, nI_mul, mjIn_nI, nI_clamp, neg1_lt0, if_pos, if_neg, if_true, if_false, Bool.false_eq_true, and_true, true_and, and_false, false_and, mI_pL, mK_pL, mN_pL, mR_pL, mL_pL, mL_pI, mI_pR, mL_pR, mK_pR, mN_pR, mR_pR, mI_pC, mL_pC, mK_pC, mN_pC, mR_pC]
      · rw [if_neg z]
        have n1 := tq_not (lv := lv) (k := 1) E q1 (by omega) z
        by_cases z2 : kd v.2 = 59
        · rw [if_pos z2]
          obtain ⟨h2, i2, e2, f2, q2⟩ := tq_take (lv := lv) (k := 59) E q1 (by omega) z2
          refine CLr.tr (f1.tr (f2.mono (fun x k => FTp_FCl))) ?_ (ih v.1 v.2.tail i2 h2 (by omega) a1 q2 (f2.t.fs fs1) (ct1.fr f2 (fun x k h1 h2 => by unfold FTp; omega)))
          rw [a3]
          repeat (first | (apply ifT; focus ((try simp (disch := omega) only [t.k10, e1, t1.k10, t1.r10_0, t1.k5, n1, e2, ofNat_nI, i_lit, mI_pI, mK_pI, mN_pI, mR_pI, nI_ltI, nI_eq, nI_add, nI_mul, mjIn_nI, nI_clamp, neg1_lt0, if_pos, if_neg, if_true, if_false, Bool.false_eq_true, and_true, true_and, and_false, false_and, mI_pL, mK_pL, mN_pL, mR_pL, mL_pL, mL_pI, mI_pR, mL_pR, mK_pR, mN_pR, mR_pR, mI_pC, mL_pC, mK_pC, mN_pC, mR_pC]) <;> first | omega | decide)) | (apply ifF; focus ((try simp (disch := omega) only [t.k10, e1, t1.k10, t1.r10_0, t1.k5, n1, e2, ofNat_nI, i_lit, mI_pI, mK_pI, mN_pI, mR_pI, nI_ltI, nI_eq, nI_add, nI_mul, mjIn_nI, nI_clamp, neg1_lt0, if_pos, if_neg, if_true, if_false, Bool.false_eq_true, and_true, true_and, and_false, false_and, mI_pL, mK_pL, mN_pL, mR_pL, mL_pL, mL_pI, mI_pR, mL_pR, mK_pR, mN_pR, mR_pR, mI_pC, mL_pC, mK_pC, mN_pC, mR_pC]) <;> first | omega | decide)) | (apply stI; focus ((try simp (disch := omega) only [t.k10, e1, t1.k10, t1.r10_0, t1.k5, n1, e2, ofNat_nI, i_lit, mI_pI, mK_pI, mN_pI, mR_pI, nI_ltI, nI_eq, nI_add, nI_mul, mjIn_nI, nI_clamp, neg1_lt0, if_pos, if_neg, if_true, if_false, Bool.false_eq_true, and_true, true_and, and_false, false_and, mI_pL, mK_pL, mN_pL, mR_pL, mL_pL, mL_pI, mI_pR, mL_pR, mK_pR, mN_pR, mR_pR, mI_pC, mL_pC, mK_pC, mN_pC, mR_pC]) <;> rfl)) | (apply stV; focus ((try simp (disch := omega) only [t.k10, e1, t1.k10, t1.r10_0, t1.k5, n1, e2, ofNat_nI, i_lit, mI_pI, mK_pI, mN_pI, mR_pI, nI_ltI, nI_eq, nI_add, nI_mul, mjIn_nI, nI_clamp, neg1_lt0, if_pos, if_neg, if_true, if_false, Bool.false_eq_true, and_true, true_and, and_false, false_and, mI_pL, mK_pL, mN_pL, mR_pL, mL_pL, mL_pI, mI_pR, mL_pR, mK_pR, mN_pR, mR_pR, mI_pC, mL_pC, mK_pC, mN_pC, mR_pC]) <;> rfl)) | (apply stL; focus ((try simp (disch := omega) only [t.k10, e1, t1.k10, t1.r10_0, t1.k5, n1, e2, ofNat_nI, i_lit, mI_pI, mK_pI, mN_pI, mR_pI, nI_ltI, nI_eq, nI_add, nI_mul, mjIn_nI, nI_clamp, neg1_lt0, if_pos, if_neg, if_true, if_false, Bool.false_eq_true, and_true, true_and, and_false, false_and, mI_pL, mK_pL, mN_pL, mR_pL, mL_pL, mL_pI, mI_pR, mL_pR, mK_pR, mN_pR, mR_pR, mI_pC, mL_pC, mK_pC, mN_pC, mR_pC]) <;> rfl)) | (apply stA; focus ((try simp (disch := omega) only [t.k10, e1, t1.k10, t1.r10_0, t1.k5, n1, e2, ofNat_nI, i_lit, mI_pI, mK_pI, mN_pI, mR_pI, nI_ltI, nI_eq, nI_add, nI_mul, mjIn_nI, nI_clamp, neg1_lt0, if_pos, if_neg, if_true, if_false, Bool.false_eq_true, and_true, true_and, and_false, false_and, mI_pL, mK_pL, mN_pL, mR_pL, mL_pL, mL_pI, mI_pR, mL_pR, mK_pR, mN_pR, mR_pR, mI_pC, mL_pC, mK_pC, mN_pC, mR_pC]) <;> rfl)))
          try simp (disch := omega) only [t.k10, e1, t1.k10, t1.r10_0, t1.k5, n1, e2, ofNat_nI, i_lit, mI_pI, mK_pI, mN_pI, mR_pI, nI_ltI, nI_eq, nI_add, nI_mul, mjIn_nI, nI_clamp, neg1_lt0, if_pos, if_neg, if_true, if_false, Bool.false_eq_true, and_true, true_and, and_false, false_and, mI_pL, mK_pL, mN_pL, mR_pL, mL_pL, mL_pI, mI_pR, mL_pR, mK_pR, mN_pR, mR_pR, mI_pC, mL_pC, mK_pC, mN_pC, mR_pC]
        · rw [if_neg z2]
          have n2 := tq_not (lv := lv) (k := 59) E q1 (by omega) z2
          obtain ⟨h2, m, f2, q2⟩ := tq_mark (lv := lv) (k := 0) E q1 (by omega)
          rw [if_pos rfl] at q2
          refine ⟨h2, i1, v.2, ?_, f1.tr (f2.mono (fun x k => FTp_FCl)), q2, by omega⟩
          repeat (first | (apply ifT; focus ((try simp (disch := omega) only [t.k10, e1, t1.k10, t1.r10_0, t1.k5, n1, n2, m, ofNat_nI, i_lit, mI_pI, mK_pI, mN_pI, mR_pI, nI_ltI, nI_eq, nI_add, nI_mul, mjIn_nI, nI_clamp, neg1_lt0, if_pos, if_neg, if_true, if_false, Bool.false_eq_true, and_true, true_and, and_false, false_and, mI_pL, mK_pL, mN_pL, mR_pL, mL_pL, mL_pI, mI_pR, mL_pR, mK_pR, mN_pR, mR_pR, mI_pC, mL_pC, mK_pC, mN_pC, mR_pC]) <;> first | omega | decide)) | (apply ifF; focus ((try simp (disch := omega) only [t.k10, e1, t1.k10, t1.r10_0, t1.k5, n1, n2, m, ofNat_nI, i_lit, mI_pI, mK_pI, mN_pI, mR_pI, nI_ltI, nI_eq, nI_add, nI_mul, mjIn_nI, nI_clamp, neg1_lt0, if_pos, if_neg, if_true, if_false, Bool.false_eq_true, and_true, true_and, and_false, false_and, mI_pL, mK_pL, mN_pL, mR_pL, mL_pL, mL_pI, mI_pR, mL_pR, mK_pR, mN_pR, mR_pR, mI_pC, mL_pC, mK_pC, mN_pC, mR_pC]) <;> first | omega | decide)) | (apply stI; focus ((try simp (disch := omega) only [t.k10, e1, t1.k10, t1.r10_0, t1.k5, n1, n2, m, ofNat_nI, i_lit, mI_pI, mK_pI, mN_pI, mR_pI, nI_ltI, nI_eq, nI_add, nI_mul, mjIn_nI, nI_clamp, neg1_lt0, if_pos, if_neg, if_true, if_false, Bool.false_eq_true, and_true, true_and, and_false, false_and, mI_pL, mK_pL, mN_pL, mR_pL, mL_pL, mL_pI, mI_pR, mL_pR, mK_pR, mN_pR, mR_pR, mI_pC, mL_pC, mK_pC, mN_pC, mR_pC]) <;> rfl)) | (apply stV; focus ((try simp (disch := omega) only [t.k10, e1, t1.k10, t1.r10_0, t1.k5, n1, n2, m, ofNat_nI, i_lit, mI_pI, mK_pI, mN_pI, mR_pI, nI_ltI, nI_eq, nI_add, nI_mul, mjIn_nI, nI_clamp, neg1_lt0, if_pos, if_neg, if_true, if_false, Bool.false_eq_true, and_true, true_and, and_false, false_and, mI_pL, mK_pL, mN_pL, mR_pL, mL_pL, mL_pI, mI_pR, mL_pR, mK_pR, mN_pR, mR_pR, mI_pC, mL_pC, mK_pC, mN_pC, mR_pC]) <;> rfl)) | (apply stL; focus ((try simp (disch := omega) only [t.k10, e1, t1.k10, t1.r10_0, t1.k5, n1, n2, m, ofNat_nI, i_lit, mI_pI, mK_pI, mN_pI, mR_pI, nI_ltI, nI_eq, nI_add, nI_mul, mjIn_nI, nI_clamp, neg1_lt0, if_pos, if_neg, if_true, if_false, Bool.false_eq_true, and_true, true_and, and_false, false_and, mI_pL, mK_pL, mN_pL, mR_pL, mL_pL, mL_pI, mI_pR, mL_pR, mK_pR, mN_pR, mR_pR, mI_pC, mL_pC, mK_pC, mN_pC, mR_pC]) <;> rfl)) | (apply stA; focus ((try simp (disch := omega) only [t.k10, e1, t1.k10, t1.r10_0, t1.k5, n1, n2, m, ofNat_nI, i_lit, mI_pI, mK_pI, mN_pI, mR_pI, nI_ltI, nI_eq, nI_add, nI_mul, mjIn_nI, nI_clamp, neg1_lt0, if_pos, if_neg, if_true, if_false, Bool.false_eq_true, and_true, true_and, and_false, false_and, mI_pL, mK_pL, mN_pL, mR_pL, mL_pL, mL_pI, mI_pR, mL_pR, mK_pR, mN_pR, mR_pR, mI_pC, mL_pC, mK_pC, mN_pC, mR_pC]) <;> rfl)))
          try simp (disch := omega) only [t.k10, e1, t1.k10, t1.r10_0, t1.k5, n1, n2, m, ofNat_nI, i_lit, mI_pI, mK_pI, mN_pI, mR_pI, nI_ltI, nI_eq, nI_add, nI_mul, mjIn_nI, nI_clamp, neg1_lt0, if_pos, if_neg, if_true, if_false, Bool.false_eq_true, and_true, true_and, and_false, false_and, mI_pL, mK_pL, mN_pL, mR_pL, mL_pL, mL_pI, mI_pR, mL_pR, mK_pR, mN_pR, mR_pR, mI_pC, mL_pC, mK_pC, mN_pC, mR_pC]
theorem cl_Field (E : mjFix ev) (c : CI h s) (w : WS B s) : (∃ h', mjCall ev 98 lv [.ref 4] h = some (.int (qField s), h') ∧ CI h' (nField s) ∧ Cg h h') ∧ ∀ f, fieldF s = .inl f → f ≠ 0 ∧ f < 5000 := by
  obtain ⟨f0, nx, fi, C1, C2, C3, C4, C5, C6, C7⟩ := c.parts
  have t := C1.1
  have x0 := C1.2.2.2.2.2
  have tl4 := w.2.1.1
  obtain ⟨h1, e3, fs1, z1, x1, y1, A1⟩ := cl_newF (lv := lv) E h (by omega)
  have c1 : CI h1 s := c.away (by omega) (fun a ha => ⟨(A1 a ha).1, (A1 a ha).2.1, fun k => ⟨((A1 a ha).2.2 k).2.1, fun _ => ⟨((A1 a ha).2.2 k).2.2, ((A1 a ha).2.2 k).1⟩⟩⟩)
  obtain ⟨g0, gx, gi, D1, D2, D3, D4, D5, D6, D7⟩ := c1.parts
  have t1 := D1.1
  obtain ⟨h2, e82, f82, tp⟩ := tz_all (lv := lv) E D1.1 D3 tl4
  have q2 : Tq h2 s.tb s.tl 0 (tks s.tb s.tl) 0 := ⟨tp, tkz_ok s.tb s.tl s.tl 0 (by omega), by omega⟩
  have fs2 := f82.t.fs fs1
  have ct2 : CT h2 (mX h) (fun _ => 0) := fun o i j tf => by
    rw [f82.I (by unfold FKu; omega), z1 _ _ (by omega) (by unfold Tf at tf; omega)]; rfl
  have R := cf_all (lv := lv) E (f := mX h) x0 40 (fun _ => 0) (tks s.tb s.tl) 0 h2 rfl okN_0 q2 fs2 ct2
  have e6 : mjCall ev 6 lv [.ref 10] h = ev 6 lv 17 [.ref 10, .ref (mX h), .int (nI 0)] [] h2 := by
    have kx : mK (pN h 2 0 8) (mX h) = 2 := by rw [mK_pN, if_pos rfl]
    show ev 6 lv 0 [.ref 10, mjD, mjD] [] h = _
    rw [e_6_0 E]
    dsimp only [mjLet]
    refine ifT kx (stV e3 (ifT t1.k10 ?_))
    rw [t1.r10_0]
    exact ifT t1.k5 (stV e82 rfl)
  have hR : fdF s.tl 40 (fun _ => 0) (tks s.tb s.tl) = fieldF s := rfl
  rw [hR] at R
  have R : CLr s.tb s.tl (mX h) h2 (ev 6 lv 17 [.ref 10, .ref (mX h), .int (nI 0)] [] h2) (fieldF s) := R
  have ef : mjCall ev 98 lv [.ref 4] h = ev 98 lv 0 [.ref 4, mjD] [] h := rfl
  -- what stays behind the reading
  have away : ∀ {h3 : mjS}, Fr (FCl (mX h)) h2 h3 → mX h3 = mX h + 5 ∧ mZ h3 = mZ h + 30 ∧ ∀ a, a < mX h → mK h3 a = mK h a ∧ mN h3 a = mN h a ∧ ∀ k, mR h3 a k = mR h a k ∧ (¬ FRk a k → mI h3 a k = mI h a k ∧ mL h3 a k = mL h a k) := by
    intro h3 f3
    refine ⟨by rw [f3.X, f82.X]; exact x1, by rw [f3.Z, f82.Z]; exact y1, fun a ha => ⟨by rw [f3.K, f82.K]; exact (A1 a ha).1, by rw [f3.N, f82.N]; exact (A1 a ha).2.1, fun k => ⟨by rw [f3.R, f82.R]; exact ((A1 a ha).2.2 k).2.1, fun z => ⟨?_, ?_⟩⟩⟩⟩
    · rw [f3.I (by unfold FRk at z; unfold FCl; omega), f82.I (by unfold FRk at z; unfold FKu; omega)]; exact ((A1 a ha).2.2 k).2.2
    · rw [f3.L (by unfold FRk at z; unfold FCl; omega), f82.L (by unfold FRk at z; unfold FKu; omega)]; exact ((A1 a ha).2.2 k).1
  cases hr : fieldF s with
  | inl g =>
    rw [hr] at R
    obtain ⟨h3, i3, ts3, e3', f3, q3, g0⟩ := R
    obtain ⟨x3, y3, A3⟩ := away f3
    have c3 : CI h3 s := c.away (by omega) A3
    have t3 := q3.1.1
    have i7 : mI h3 5 7 = nI g := q3.1.2.2.2.2.2.2
    have n1 : qField s = -nI 2 - nI g := by unfold qField; rw [hr]
    have n2 : nField s = sTape s s.tb 0 := by unfold nField; rw [hr]
    rw [n1, n2]
    refine ⟨⟨pI h3 5 1 (nI 0), ?_, c3.empty, ⟨fun b hb => ?_, ?_, ?_, ?_⟩⟩, fun f' hf' => by cases hf'; exact ⟨g0, q3.2.2⟩⟩
    · have e6' := e6.trans e3'
      rw [ef, e_98_0 E]
      repeat (first | (apply ifT; focus ((try simp (disch := omega) only [t.k4, t.r4_1, t.k10, e6', t3.k4, t3.r4_0, t3.k5, i7, ofNat_nI, i_lit, mI_pI, mK_pI, mN_pI, mR_pI, nI_ltI, nI_eq, nI_add, nI_mul, mjIn_nI, nI_clamp, neg1_lt0, if_pos, if_neg, if_true, if_false, Bool.false_eq_true, and_true, true_and, and_false, false_and, mI_pL, mK_pL, mN_pL, mR_pL, mL_pL, mL_pI, mI_pR, mL_pR, mK_pR, mN_pR, mR_pR, mI_pC, mL_pC, mK_pC, mN_pC, mR_pC]) <;> first | omega | decide)) | (apply ifF; focus ((try simp (disch := omega) only [t.k4, t.r4_1, t.k10, e6', t3.k4, t3.r4_0, t3.k5, i7, ofNat_nI, i_lit, mI_pI, mK_pI, mN_pI, mR_pI, nI_ltI, nI_eq, nI_add, nI_mul, mjIn_nI, nI_clamp, neg1_lt0, if_pos, if_neg, if_true, if_false, Bool.false_eq_true, and_true, true_and, and_false, false_and, mI_pL, mK_pL, mN_pL, mR_pL, mL_pL, mL_pI, mI_pR, mL_pR, mK_pR, mN_pR, mR_pR, mI_pC, mL_pC, mK_pC, mN_pC, mR_pC]) <;> first | omega | decide)) | (apply stI; focus ((try simp (disch := omega) only [t.k4, t.r4_1, t.k10, e6', t3.k4, t3.r4_0, t3.k5, i7, ofNat_nI, i_lit, mI_pI, mK_pI, mN_pI, mR_pI, nI_ltI, nI_eq, nI_add, nI_mul, mjIn_nI, nI_clamp, neg1_lt0, if_pos, if_neg, if_true, if_false, Bool.false_eq_true, and_true, true_and, and_false, false_and, mI_pL, mK_pL, mN_pL, mR_pL, mL_pL, mL_pI, mI_pR, mL_pR, mK_pR, mN_pR, mR_pR, mI_pC, mL_pC, mK_pC, mN_pC, mR_pC]) <;> rfl)) | (apply stV; focus ((try simp (disch := omega) only [t.k4, t.r4_1, t.k10, e6', t3.k4, t3.r4_0, t3.k5, i7, ofNat_nI, i_lit, mI_pI, mK_pI, mN_pI, mR_pI, nI_ltI, nI_eq, nI_add, nI_mul, mjIn_nI, nI_clamp, neg1_lt0, if_pos, if_neg, if_true, if_false, Bool.false_eq_true, and_true, true_and, and_false, false_and, mI_pL, mK_pL, mN_pL, mR_pL, mL_pL, mL_pI, mI_pR, mL_pR, mK_pR, mN_pR, mR_pR, mI_pC, mL_pC, mK_pC, mN_pC, mR_pC]) <;> rfl)) | (apply stL; focus ((try simp (disch := omega) only [t.k4, t.r4_1, t.k10, e6', t3.k4, t3.r4_0, t3.k5, i7, ofNat_nI, i_lit, mI_pI, mK_pI, mN_pI, mR_pI, nI_ltI, nI_eq, nI_add, nI_mul, mjIn_nI, nI_clamp, neg1_lt0, if_pos, if_neg, if_true, if_false, Bool.false_eq_true, and_true, true_and, and_false, false_and, mI_pL, mK_pL, mN_pL, mR_pL, mL_pL, mL_pI, mI_pR, mL_pR, mK_pR, mN_pR, mR_pR, mI_pC, mL_pC, mK_pC, mN_pC, mR_pC]) <;> rfl)) | (apply stA; focus ((try simp (disch := omega) only [t.k4, t.r4_1, t.k10, e6', t3.k4, t3.r4_0, t3.k5, i7, ofNat_nI, i_lit, mI_pI, mK_pI, mN_pI, mR_pI, nI_ltI, nI_eq, nI_add, nI_mul, mjIn_nI, nI_clamp, neg1_lt0, if_pos, if_neg, if_true, if_false, Bool.false_eq_true, and_true, true_and, and_false, false_and, mI_pL, mK_pL, mN_pL, mR_pL, mL_pL, mL_pI, mI_pR, mL_pR, mK_pR, mN_pR, mR_pR, mI_pC, mL_pC, mK_pC, mN_pC, mR_pC]) <;> rfl)))
      try simp (disch := omega) only [t.k4, t.r4_1, t.k10, e6', t3.k4, t3.r4_0, t3.k5, i7, ofNat_nI, i_lit, mI_pI, mK_pI, mN_pI, mR_pI, nI_ltI, nI_eq, nI_add, nI_mul, mjIn_nI, nI_clamp, neg1_lt0, if_pos, if_neg, if_true, if_false, Bool.false_eq_true, and_true, true_and, and_false, false_and, mI_pL, mK_pL, mN_pL, mR_pL, mL_pL, mL_pI, mI_pR, mL_pR, mK_pR, mN_pR, mR_pR, mI_pC, mL_pC, mK_pC, mN_pC, mR_pC]
    · have hb' : b = 1 ∨ (243 ≤ b ∧ b < 264) := hb
      obtain ⟨a1, a2, a3⟩ := A3 b (by omega)
      exact ⟨a1, a2, fun k => ⟨by rw [pI_ne (by omega)]; exact ((a3 k).2 (by unfold FRk; omega)).1, ((a3 k).2 (by unfold FRk; omega)).2, (a3 k).1⟩⟩
    · show mX h ≤ mX h3
      omega
    · show mX h3 ≤ mX h + 5
      omega
    · show mZ h3 ≤ mZ h + 500
      omega
  | inr G =>
    rw [hr] at R
    obtain ⟨h3, e3', f3, ct3⟩ := R
    obtain ⟨o, g1⟩ := fdF_ok 40 _ _ G okN_0 (tkz_ok s.tb s.tl s.tl 0 (by omega)) hr
    have lt := okN_lt o
    obtain ⟨x3, y3, A3⟩ := away f3
    have c3 : CI h3 s := c.away (by omega) A3
    have fs3 : fSh h3 (mX h) := f3.t.fs fs2
    have n1 : qField s = nI (G 2) := by unfold qField; rw [hr]
    have n2 : nField s = sField (sTape s s.tb 0) (begF G) := by unfold nField; rw [hr]
    rw [n1, n2]
    have c4 := c3.empty
    have g4 : Fr (fun a k => a = 5 ∧ k = 1) h3 (pI h3 5 1 (nI 0)) := Fr.pI ⟨rfl, rfl⟩
    obtain ⟨h4, eh4⟩ : ∃ y, y = pI h3 5 1 (nI 0) := ⟨_, rfl⟩
    rw [← eh4] at c4 g4
    obtain ⟨f', nx', fi', P1, P2, P3, P4, P5, P6, P7⟩ := c4.parts
    have fs4 := g4.t.fs fs3
    have ct4 := ct3.fr g4 (fun x k h1 h2 => by omega)
    have x4 : mX h4 = mX h + 5 := by rw [g4.X]; exact x3
    have z4 : mZ h4 = mZ h + 30 := by rw [g4.Z]; exact y3
    obtain ⟨h5, e50, f5, cs5⟩ := cs_begin (lv := lv) E P2.1.1.1 fs4 ct4.cf (by omega) o.1.1.2.2.2.2.1 (fun k _ => Nat.lt_trans (lt k) (by decide))
    have P15 := P1.ft f5 (fun x hx => by unfold FQ; omega) (fun k hk => by unfold FQ; omega)
    have t3 := (c3.parts.choose_spec.choose_spec.choose_spec).1.1
    have t5 := P15.1
    have a6 : Ft (fun a k => (19 ≤ a ∧ a < 26) ∨ (a = 168 ∧ k = 0) ∨ (a = 26 ∧ k = 1)) h4 (pI (pI h5 168 0 (nI 0)) 26 1 (nI 0)) := ((f5.mono (fun a k hx => by unfold FQ at hx; omega)).tr (Ft.pI (F := fun a k => (19 ≤ a ∧ a < 26) ∨ (a = 168 ∧ k = 0) ∨ (a = 26 ∧ k = 1)) (by omega))).tr (Ft.pI (F := fun a k => (19 ≤ a ∧ a < 26) ∨ (a = 168 ∧ k = 0) ∨ (a = 26 ∧ k = 1)) (by omega))
    have cs6 : CS (pI (pI h5 168 0 (nI 0)) 26 1 (nI 0)) 19 (mX h) (begF G) := cs5.ft ((Ft.pI (F := fun a _ => a = 168 ∨ a = 26) (Or.inl rfl)).tr (Ft.pI (F := fun a _ => a = 168 ∨ a = 26) (Or.inr rfl))) (fun x k hx => by omega)
    have z147 : begF G 147 = 0 := by rw [begF_told (by omega)]; exact o.2.2 147 (by omega)
    have x6 : mX (pI (pI h5 168 0 (nI 0)) 26 1 (nI 0)) = mX h + 5 := by rw [a6.X]; exact x4
    have z6 : mZ (pI (pI h5 168 0 (nI 0)) 26 1 (nI 0)) = mZ h + 30 := by rw [a6.Z]; exact z4
    have of' := P2.2.1.1
    refine ⟨⟨pI (pI h5 168 0 (nI 0)) 26 1 (nI 0), ?_, CI.of (s := sField (sTape s s.tb 0) (begF G)) (f := mX h) (nx := nx') (fi := fi') (P1.ft a6 (fun x hx => by omega) (fun k hk => by omega)) ⟨cs6, ⟨Or.inr x0, by omega⟩, ?_, fun i hi => ?_⟩ (P3.ft a6 ⟨by omega, fun k => by omega⟩) (P4.ft a6 (by omega) (fun x k hx _ => by omega)) (P5.ft a6 (by omega)) ⟨pI_at, by rw [a6.I (by omega)]; exact P6.2.1, P6.2.2.1, fun i hi => absurd hi (Nat.not_lt_zero i)⟩ (P7.ft a6 (fun x k hx => by omega) (fun j hj hm x k hx => by have := (P7.ok hj hm).1.1; omega)), ⟨fun b hb => ?_, by omega, by omega, by omega⟩⟩, fun f'' hf' => by cases hf'⟩
    · have e6' := e6.trans e3'
      have k19 : mK h3 19 = 10 := by rw [← g4.K]; exact P2.1.1.1.k
      have k168 : mK h5 168 = 6 := P15.2.2.2.2.1.k
      have kf : mK h5 (mX h) = 2 := by rw [f5.K]; exact fs4.k
      have vf : mI h5 (mX h) 1 = nI (G 2) := by
        have := cs5.2.1.1.2.1
        rw [begF_told (by omega)] at this
        exact this
      have l2 := lt 2
      rw [eh4] at e50
      have n0 : mX h ≠ 0 := by omega
      rw [ef, e_98_0 E]
      repeat (first | (apply ifT; focus ((try simp (disch := omega) only [t.k4, t.r4_1, t.k10, e6', t3.k4, t3.r4_0, t3.k5, n0, t3.r4_6, k19, e50, t5.k4, t5.r4_8, k168, t5.r4_7, t5.k26, kf, vf, ofNat_nI, i_lit, mI_pI, mK_pI, mN_pI, mR_pI, nI_ltI, nI_eq, nI_add, nI_mul, mjIn_nI, nI_clamp, neg1_lt0, if_pos, if_neg, if_true, if_false, Bool.false_eq_true, and_true, true_and, and_false, false_and, mI_pL, mK_pL, mN_pL, mR_pL, mL_pL, mL_pI, mI_pR, mL_pR, mK_pR, mN_pR, mR_pR, mI_pC, mL_pC, mK_pC, mN_pC, mR_pC]) <;> first | omega | decide)) | (apply ifF; focus ((try simp (disch := omega) only [t.k4, t.r4_1, t.k10, e6', t3.k4, t3.r4_0, t3.k5, n0, t3.r4_6, k19, e50, t5.k4, t5.r4_8, k168, t5.r4_7, t5.k26, kf, vf, ofNat_nI, i_lit, mI_pI, mK_pI, mN_pI, mR_pI, nI_ltI, nI_eq, nI_add, nI_mul, mjIn_nI, nI_clamp, neg1_lt0, if_pos, if_neg, if_true, if_false, Bool.false_eq_true, and_true, true_and, and_false, false_and, mI_pL, mK_pL, mN_pL, mR_pL, mL_pL, mL_pI, mI_pR, mL_pR, mK_pR, mN_pR, mR_pR, mI_pC, mL_pC, mK_pC, mN_pC, mR_pC]) <;> first | omega | decide)) | (apply stI; focus ((try simp (disch := omega) only [t.k4, t.r4_1, t.k10, e6', t3.k4, t3.r4_0, t3.k5, n0, t3.r4_6, k19, e50, t5.k4, t5.r4_8, k168, t5.r4_7, t5.k26, kf, vf, ofNat_nI, i_lit, mI_pI, mK_pI, mN_pI, mR_pI, nI_ltI, nI_eq, nI_add, nI_mul, mjIn_nI, nI_clamp, neg1_lt0, if_pos, if_neg, if_true, if_false, Bool.false_eq_true, and_true, true_and, and_false, false_and, mI_pL, mK_pL, mN_pL, mR_pL, mL_pL, mL_pI, mI_pR, mL_pR, mK_pR, mN_pR, mR_pR, mI_pC, mL_pC, mK_pC, mN_pC, mR_pC]) <;> rfl)) | (apply stV; focus ((try simp (disch := omega) only [t.k4, t.r4_1, t.k10, e6', t3.k4, t3.r4_0, t3.k5, n0, t3.r4_6, k19, e50, t5.k4, t5.r4_8, k168, t5.r4_7, t5.k26, kf, vf, ofNat_nI, i_lit, mI_pI, mK_pI, mN_pI, mR_pI, nI_ltI, nI_eq, nI_add, nI_mul, mjIn_nI, nI_clamp, neg1_lt0, if_pos, if_neg, if_true, if_false, Bool.false_eq_true, and_true, true_and, and_false, false_and, mI_pL, mK_pL, mN_pL, mR_pL, mL_pL, mL_pI, mI_pR, mL_pR, mK_pR, mN_pR, mR_pR, mI_pC, mL_pC, mK_pC, mN_pC, mR_pC]) <;> rfl)) | (apply stL; focus ((try simp (disch := omega) only [t.k4, t.r4_1, t.k10, e6', t3.k4, t3.r4_0, t3.k5, n0, t3.r4_6, k19, e50, t5.k4, t5.r4_8, k168, t5.r4_7, t5.k26, kf, vf, ofNat_nI, i_lit, mI_pI, mK_pI, mN_pI, mR_pI, nI_ltI, nI_eq, nI_add, nI_mul, mjIn_nI, nI_clamp, neg1_lt0, if_pos, if_neg, if_true, if_false, Bool.false_eq_true, and_true, true_and, and_false, false_and, mI_pL, mK_pL, mN_pL, mR_pL, mL_pL, mL_pI, mI_pR, mL_pR, mK_pR, mN_pR, mR_pR, mI_pC, mL_pC, mK_pC, mN_pC, mR_pC]) <;> rfl)) | (apply stA; focus ((try simp (disch := omega) only [t.k4, t.r4_1, t.k10, e6', t3.k4, t3.r4_0, t3.k5, n0, t3.r4_6, k19, e50, t5.k4, t5.r4_8, k168, t5.r4_7, t5.k26, kf, vf, ofNat_nI, i_lit, mI_pI, mK_pI, mN_pI, mR_pI, nI_ltI, nI_eq, nI_add, nI_mul, mjIn_nI, nI_clamp, neg1_lt0, if_pos, if_neg, if_true, if_false, Bool.false_eq_true, and_true, true_and, and_false, false_and, mI_pL, mK_pL, mN_pL, mR_pL, mL_pL, mL_pI, mI_pR, mL_pR, mK_pR, mN_pR, mR_pR, mI_pC, mL_pC, mK_pC, mN_pC, mR_pC]) <;> rfl)))
      try simp (disch := omega) only [t.k4, t.r4_1, t.k10, e6', t3.k4, t3.r4_0, t3.k5, n0, t3.r4_6, k19, e50, t5.k4, t5.r4_8, k168, t5.r4_7, t5.k26, kf, vf, ofNat_nI, i_lit, mI_pI, mK_pI, mN_pI, mR_pI, nI_ltI, nI_eq, nI_add, nI_mul, mjIn_nI, nI_clamp, neg1_lt0, if_pos, if_neg, if_true, if_false, Bool.false_eq_true, and_true, true_and, and_false, false_and, mI_pL, mK_pL, mN_pL, mR_pL, mL_pL, mL_pI, mI_pR, mL_pR, mK_pR, mN_pR, mR_pR, mI_pC, mL_pC, mK_pC, mN_pC, mR_pC]
    · show mI _ 168 0 = nI (begF G 147)
      rw [z147, pI_ne (by omega), pI_at]
    · have hi : i < begF G 147 := hi
      rw [z147] at hi
      exact absurd hi (Nat.not_lt_zero i)
    · have hb' : b = 1 ∨ (243 ≤ b ∧ b < 264) := hb
      obtain ⟨a1, a2, a3⟩ := A3 b (by omega)
      refine ⟨by rw [a6.K, g4.K]; exact a1, by rw [a6.N, g4.N]; exact a2, fun k => ⟨?_, ?_, ?_⟩⟩
      · rw [a6.I (by omega), g4.I (by omega)]; exact ((a3 k).2 (by unfold FRk; omega)).1
      · rw [a6.L (by omega), g4.L (by omega)]; exact ((a3 k).2 (by unfold FRk; omega)).2
      · rw [a6.R (by omega), g4.R]; exact (a3 k).1
end CD
