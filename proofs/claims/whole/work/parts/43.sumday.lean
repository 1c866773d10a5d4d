/-! the class's day -/
theorem lier_ext {g : Nat → Nat} : ∀ (n d p : Nat), (∀ k, p + n ≤ k → k < p + n + d → g (37 + k) ≠ 1) → lier g (n + d) p = lier g n p := by
  intro n
  induction n with
  | zero =>
    intro d
    induction d with
    | zero => intro p _; rfl
    | succ d ih =>
      intro p h
      rw [show 0 + (d + 1) = (0 + d) + 1 by omega]
      show (if g (37 + p) = 1 then p else lier g (0 + d) (p + 1)) = 9
      rw [if_neg (h p (by omega) (by omega))]
      exact ih (p + 1) (fun k h1 h2 => h k (by omega) (by omega))
  | succ n ih =>
    intro d p h
    rw [show n + 1 + d = (n + d) + 1 by omega]
    show (if g (37 + p) = 1 then p else lier g (n + d) (p + 1)) = if g (37 + p) = 1 then p else lier g n (p + 1)
    rw [ih d (p + 1) (fun k h1 h2 => h k (by omega) (by omega))]
def tz (m : Nat) : Nat := if m % 2 = 1 then 0 else if m / 2 % 2 = 1 then 1 else if m / 4 % 2 = 1 then 2 else if m / 8 % 2 = 1 then 3 else if m / 16 % 2 = 1 then 4 else 9
theorem tz_lier {g : Nat → Nat} (w : Wb g) : lier g (g 2) 0 = tz (msk g) := by
  have h25 : g 2 ≤ 5 := w.1.1.2.2.2.2.1
  have e := lier_ext (g := g) (g 2) (5 - g 2) 0 (fun k h1 h2 => by have := (w.2.2.1 k (by omega)).2 (by omega); omega)
  rw [show g 2 + (5 - g 2) = 5 by omega] at e
  rw [← e]
  show (if g 37 = 1 then 0 else if g 38 = 1 then 1 else if g 39 = 1 then 2 else if g 40 = 1 then 3 else if g 41 = 1 then 4 else 9) = _
  have b0 : msk g % 2 = g 37 := by have := msk_bit w (p := 0) (by omega); rw [show (2 : Nat) ^ 0 = 1 from rfl, Nat.div_one] at this; exact this
  have b1 : msk g / 2 % 2 = g 38 := msk_bit w (p := 1) (by omega)
  have b2 : msk g / 4 % 2 = g 39 := msk_bit w (p := 2) (by omega)
  have b3 : msk g / 8 % 2 = g 40 := msk_bit w (p := 3) (by omega)
  have b4 : msk g / 16 % 2 = g 41 := msk_bit w (p := 4) (by omega)
  unfold tz
  rw [b0, b1, b2, b3, b4]
theorem tz_0 {g : Nat → Nat} (w : Wb g) : msk g = 0 ↔ lier g (g 2) 0 = 9 := by
  rw [tz_lier w]
  have hm := msk_lt w
  constructor
  · intro e; rw [e]; rfl
  · intro e
    unfold tz at e
    split at e
    · omega
    · split at e
      · omega
      · split at e
        · omega
        · split at e
          · omega
          · split at e
            · omega
            · omega
section CD
variable {ev : mjT} {lv : Nat}
theorem sp_ntz (E : mjFix ev) (h : mjS) : ∀ m, m < 32 → m ≠ 0 → mjCall ev 256 lv [.int (nI m)] h = some (.int (nI (tz m)), h) := by
  intro m hm h0
  show ev 256 lv 0 [.int (nI m), mjD] [] h = _
  rcases (show m = 1 ∨ m = 2 ∨ m = 3 ∨ m = 4 ∨ m = 5 ∨ m = 6 ∨ m = 7 ∨ m = 8 ∨ m = 9 ∨ m = 10 ∨ m = 11 ∨ m = 12 ∨ m = 13 ∨ m = 14 ∨ m = 15 ∨ m = 16 ∨ m = 17 ∨ m = 18 ∨ m = 19 ∨ m = 20 ∨ m = 21 ∨ m = 22 ∨ m = 23 ∨ m = 24 ∨ m = 25 ∨ m = 26 ∨ m = 27 ∨ m = 28 ∨ m = 29 ∨ m = 30 ∨ m = 31 by omega) with rfl | rfl | rfl | rfl | rfl | rfl | rfl | rfl | rfl | rfl | rfl | rfl | rfl | rfl | rfl | rfl | rfl | rfl | rfl | rfl | rfl | rfl | rfl | rfl | rfl | rfl | rfl | rfl | rfl | rfl | rfl
  all_goals (rw [e_256_0 E]; repeat (first | (apply ifT; focus decide) | (apply ifF; focus decide)))
  all_goals (first | rfl | (rw [e_256_49 E]; repeat (first | (apply ifT; focus decide) | (apply ifF; focus decide))))
  all_goals rfl
theorem CS.mk {h h' : mjS} {q f : Nat} {g g' : Nat → Nat} (cs : CS h q f g) (a : Fr (FQ q) h h') (c : CQ h' q g') (k : Kd g g') : CS h' q f g' := by
  obtain ⟨⟨hq, hf, h0, hd⟩, cf, -⟩ := cs
  exact ⟨⟨a.qs hq, a.fs hf, by rw [a.R]; exact h0, hd⟩, (cf.fr a (fun x k h1 h2 => by omega)).cg k, c⟩
theorem CQ.same {h h' : mjS} {q : Nat} {g : Nat → Nat} (c : CQ h q g) (a : ∀ x k, mI h' x k = mI h x k) : CQ h' q g :=
  ⟨fun o i j t => by rw [a]; exact c.1 o i j t, fun s hs => by rw [a]; exact c.2.1 s hs, by rw [a]; exact c.2.2.1, c.2.2.2⟩
theorem CF.same {h h' : mjS} {f : Nat} {g : Nat → Nat} (c : CF h f g) (a : ∀ x k, mI h' x k = mI h x k) : CF h' f g :=
  ⟨⟨by rw [a]; exact c.1.1, by rw [a]; exact c.1.2.1, by rw [a]; exact c.1.2.2.1, by rw [a]; exact c.1.2.2.2⟩, fun p hp => by rw [a]; exact c.2.1 p hp, fun p hp => by rw [a]; exact c.2.2.1 p hp, fun p hp => by rw [a]; exact c.2.2.2.1 p hp, fun p hp => by rw [a]; exact c.2.2.2.2 p hp⟩
theorem CS.same {F : Nat → Nat → Prop} {h h' : mjS} {q f : Nat} {g : Nat → Nat} (cs : CS h q f g) (b : Fr F h h') (a : ∀ x k, mI h' x k = mI h x k) : CS h' q f g := by
  obtain ⟨⟨hq, hf, h0, hd⟩, cf, c⟩ := cs
  exact ⟨⟨b.qs hq, b.fs hf, by rw [b.R]; exact h0, hd⟩, cf.same a, c.same a⟩
/-- the cells of a summer and the stack of a rule -/
abbrev FR (q st : Nat) (a _k : Nat) : Prop := (q ≤ a ∧ a < q + 7) ∨ a = st
/-- whether a spider is let go, on the class's side: by the rule rl (0: none) -/
def LC (ev : mjT) (lv : Nat) (h : mjS) (rl st q f : Nat) (L : (Nat → Nat) → Nat → Bool) : Prop := (rl = 0 ∧ ∀ g s, L g s = true) ∨ (rl ≠ 0 ∧ mK h rl = 7 ∧ ∀ (h1 : mjS) (g1 : Nat → Nat) (s : Nat), Fr (FR q st) h h1 → CS h1 q f g1 → Wb g1 → s < g1 3 → g1 (47 + 8 * s) = 0 → ∃ (x : Int64) (h2 : mjS), mjCall ev 31 lv [.ref rl, .ref q, .int (nI s)] h1 = some (.long x, h2) ∧ (0 < x ↔ L g1 s = true) ∧ Fr (fun a _ => a = st) h1 h2 ∧ ∀ a k, mI h2 a k = mI h1 a k)
theorem LC.fr {h h' : mjS} {rl st q f : Nat} {L : (Nat → Nat) → Nat → Bool} (lc : LC ev lv h rl st q f L) (a : Fr (FR q st) h h') : LC ev lv h' rl st q f L := by
  rcases lc with l | ⟨l1, l2, l3⟩
  · exact Or.inl l
  · exact Or.inr ⟨l1, by rw [a.K]; exact l2, fun h1 g1 s f1 => l3 h1 g1 s (a.tr f1)⟩
theorem lcmp0 (x : Int64) : (0 < (if x < 0 then -1 else if x = 0 then 0 else 1 : Int32)) ↔ 0 < x := by
  by_cases a : x < 0
  · rw [if_pos a]
    exact ⟨fun z => absurd z (by decide), fun z => absurd (Int64.lt_trans a z) (fun y => Int64.lt_irrefl y)⟩
  · rw [if_neg a]
    by_cases b : x = 0
    · rw [if_pos b, b]; exact ⟨fun z => absurd z (by decide), fun z => absurd z (by decide)⟩
    · rw [if_neg b]
      refine ⟨fun _ => ?_, fun _ => by decide⟩
      have h1 : ¬ x.toInt < 0 := fun z => a (Int64.lt_iff_toInt_lt.mpr (by rw [show (0 : Int64).toInt = 0 from rfl]; exact z))
      have h2 : x.toInt ≠ 0 := fun z => b (Int64.toInt_inj.mp (by rw [z]; rfl))
      exact Int64.lt_iff_toInt_lt.mpr (by rw [show (0 : Int64).toInt = 0 from rfl]; omega)
theorem lcmpN (x : Int64) : (nI 0 < (if x < 0 then -nI 1 else if x = 0 then nI 0 else nI 1 : Int32)) ↔ 0 < x := lcmp0 x
variable {h : mjS} {g : Nat → Nat} {q f : Nat}
theorem gout_CQ (c : CQ h q g) {s : Nat} (h6 : s < 6) : CQ (pI (pI (pI h (q + 3) s (nI 1)) (q + 4) s (-nI 1)) (q + 5) s (nI (g 1))) q (gout g s) := by
  refine c.sp (s := s) h6 (fun a k z => by rw [mI_pI, if_neg (by omega), mI_pI, if_neg (by omega), mI_pI, if_neg (by omega)]) ?_ ?_ ?_ (fun j a b d => by rw [gout_at, if_neg d, if_neg a]) (fun k hk => ?_)
  · rw [mI_pI, if_neg (by omega), mI_pI, if_neg (by omega), mI_pI, if_pos (by omega), gout_at, if_neg (by omega), if_pos rfl]
  · rw [mI_pI, if_neg (by omega), mI_pI, if_pos (by omega)]
    unfold whoI
    rw [if_pos (show gout g s (47 + 8 * s) = 1 by rw [gout_at, if_neg (by omega), if_pos rfl])]
    rfl
  · rw [mI_pI, if_pos (by omega), gout_at, if_pos rfl]
  · rw [gout_at]
    split
    · exact c.lt (by omega)
    · split
      · omega
      · exact c.lt hk
theorem cs_out (E : mjFix ev) (cs : CS h q f g) {s : Nat} (h6 : s < 6) (rl : Nat) (x : Int32) : ∃ h', ev 64 lv 49 [.ref q, .int (nI s), .ref rl, .int x] [] h = some (.ref 0, h') ∧ Fr (FQ q) h h' ∧ CQ h' q (gout g s) := by
  obtain ⟨⟨hq, hf, h0, hd⟩, cf, c⟩ := cs
  refine ⟨_, ?_, ((Fr.pI (F := FQ q) (by omega)).tr (Fr.pI (F := FQ q) (by omega))).tr (Fr.pI (F := FQ q) (by omega)), gout_CQ c h6⟩
  rw [e_64_49 E]
  repeat (first | (apply ifT; focus ((try simp (disch := omega) only [hq.k, hq.r1, hq.k1, hq.n1, hq.r2, hq.k2, hq.n2, hq.r3, hq.k3, hq.n3, hq.r4, hq.k4, hq.n4, hq.r5, hq.k5, hq.n5, hq.r6, hq.k6, hq.n6, hf.k, hf.r2, hf.r4, hf.r5, hf.r7, hf.k1, hf.n1, hf.k2, hf.n2, hf.k3, hf.n3, hf.k4, hf.n4, h0, c.own, c.plc, c.lft, c.lod, c.blt, c.day, c.lyg, cf.far, cf.ppl, cf.spd, cf.wrk, cf.pcs, cf.slv, cf.car, cf.ned, i_lit, mI_pI, mK_pI, mN_pI, mR_pI, nI_ltI, nI_eq, nI_add, nI_mul, mjIn_nI, nI_clamp, neg1_lt0, if_pos, if_neg, if_true, if_false, Bool.false_eq_true, and_true, true_and, and_false, false_and]) <;> omega)) | (apply ifF; focus ((try simp (disch := omega) only [hq.k, hq.r1, hq.k1, hq.n1, hq.r2, hq.k2, hq.n2, hq.r3, hq.k3, hq.n3, hq.r4, hq.k4, hq.n4, hq.r5, hq.k5, hq.n5, hq.r6, hq.k6, hq.n6, hf.k, hf.r2, hf.r4, hf.r5, hf.r7, hf.k1, hf.n1, hf.k2, hf.n2, hf.k3, hf.n3, hf.k4, hf.n4, h0, c.own, c.plc, c.lft, c.lod, c.blt, c.day, c.lyg, cf.far, cf.ppl, cf.spd, cf.wrk, cf.pcs, cf.slv, cf.car, cf.ned, i_lit, mI_pI, mK_pI, mN_pI, mR_pI, nI_ltI, nI_eq, nI_add, nI_mul, mjIn_nI, nI_clamp, neg1_lt0, if_pos, if_neg, if_true, if_false, Bool.false_eq_true, and_true, true_and, and_false, false_and]) <;> omega)) | (apply stI; focus ((try simp (disch := omega) only [hq.k, hq.r1, hq.k1, hq.n1, hq.r2, hq.k2, hq.n2, hq.r3, hq.k3, hq.n3, hq.r4, hq.k4, hq.n4, hq.r5, hq.k5, hq.n5, hq.r6, hq.k6, hq.n6, hf.k, hf.r2, hf.r4, hf.r5, hf.r7, hf.k1, hf.n1, hf.k2, hf.n2, hf.k3, hf.n3, hf.k4, hf.n4, h0, c.own, c.plc, c.lft, c.lod, c.blt, c.day, c.lyg, cf.far, cf.ppl, cf.spd, cf.wrk, cf.pcs, cf.slv, cf.car, cf.ned, i_lit, mI_pI, mK_pI, mN_pI, mR_pI, nI_ltI, nI_eq, nI_add, nI_mul, mjIn_nI, nI_clamp, neg1_lt0, if_pos, if_neg, if_true, if_false, Bool.false_eq_true, and_true, true_and, and_false, false_and]) <;> rfl)) | (apply stV; focus ((try simp (disch := omega) only [hq.k, hq.r1, hq.k1, hq.n1, hq.r2, hq.k2, hq.n2, hq.r3, hq.k3, hq.n3, hq.r4, hq.k4, hq.n4, hq.r5, hq.k5, hq.n5, hq.r6, hq.k6, hq.n6, hf.k, hf.r2, hf.r4, hf.r5, hf.r7, hf.k1, hf.n1, hf.k2, hf.n2, hf.k3, hf.n3, hf.k4, hf.n4, h0, c.own, c.plc, c.lft, c.lod, c.blt, c.day, c.lyg, cf.far, cf.ppl, cf.spd, cf.wrk, cf.pcs, cf.slv, cf.car, cf.ned, i_lit, mI_pI, mK_pI, mN_pI, mR_pI, nI_ltI, nI_eq, nI_add, nI_mul, mjIn_nI, nI_clamp, neg1_lt0, if_pos, if_neg, if_true, if_false, Bool.false_eq_true, and_true, true_and, and_false, false_and]) <;> rfl)) | (apply stL; focus ((try simp (disch := omega) only [hq.k, hq.r1, hq.k1, hq.n1, hq.r2, hq.k2, hq.n2, hq.r3, hq.k3, hq.n3, hq.r4, hq.k4, hq.n4, hq.r5, hq.k5, hq.n5, hq.r6, hq.k6, hq.n6, hf.k, hf.r2, hf.r4, hf.r5, hf.r7, hf.k1, hf.n1, hf.k2, hf.n2, hf.k3, hf.n3, hf.k4, hf.n4, h0, c.own, c.plc, c.lft, c.lod, c.blt, c.day, c.lyg, cf.far, cf.ppl, cf.spd, cf.wrk, cf.pcs, cf.slv, cf.car, cf.ned, i_lit, mI_pI, mK_pI, mN_pI, mR_pI, nI_ltI, nI_eq, nI_add, nI_mul, mjIn_nI, nI_clamp, neg1_lt0, if_pos, if_neg, if_true, if_false, Bool.false_eq_true, and_true, true_and, and_false, false_and]) <;> rfl)))
  try simp (disch := omega) only [hq.k, hq.r1, hq.k1, hq.n1, hq.r2, hq.k2, hq.n2, hq.r3, hq.k3, hq.n3, hq.r4, hq.k4, hq.n4, hq.r5, hq.k5, hq.n5, hq.r6, hq.k6, hq.n6, hf.k, hf.r2, hf.r4, hf.r5, hf.r7, hf.k1, hf.n1, hf.k2, hf.n2, hf.k3, hf.n3, hf.k4, hf.n4, h0, c.own, c.plc, c.lft, c.lod, c.blt, c.day, c.lyg, cf.far, cf.ppl, cf.spd, cf.wrk, cf.pcs, cf.slv, cf.car, cf.ned, i_lit, mI_pI, mK_pI, mN_pI, mR_pI, nI_ltI, nI_eq, nI_add, nI_mul, mjIn_nI, nI_clamp, neg1_lt0, if_pos, if_neg, if_true, if_false, Bool.false_eq_true, and_true, true_and, and_false, false_and]
theorem cs_leave (E : mjFix ev) (cs : CS h q f g) (w : Wb g) {rl st : Nat} {L : (Nat → Nat) → Nat → Bool} (lc : LC ev lv h rl st q f L) {s : Nat} (h3 : s < g 3) (hz : g (47 + 8 * s) = 0) : ∃ h', mjCall ev 64 lv [.ref q, .int (nI s), .ref rl] h = some (.ref 0, h') ∧ Fr (FR q st) h h' ∧ CQ h' q (stF L g s) := by
  obtain ⟨h6, -, hp5, h25, -⟩ := w.p h3
  have cs0 := cs
  obtain ⟨⟨hq, hf, h0, hd⟩, cf, c⟩ := cs
  have hw := c.whoN h6 (by omega)
  have fl := c.five_lt (a := 12 + 5 * g (47 + 8 * s + 1)) (by omega)
  have ef : mjCall ev 64 lv [.ref q, .int (nI s), .ref rl] h = ev 64 lv 0 [.ref q, .int (nI s), .ref rl, mjD] [] h := rfl
  have r : RW q (q + 1) (g (47 + 8 * s + 1)) (12 + 5 * g (47 + 8 * s + 1)) 25 := Or.inl ⟨rfl, hp5, rfl, rfl⟩
  have e58 := cs_lies (lv := lv) E cs0 w hp5
  have e52 := cs_pieces (lv := lv) E cs0 hp5
  unfold stF
  by_cases q1 : g (37 + g (47 + 8 * s + 1)) = 1
  · rw [if_pos q1]
    obtain ⟨h', e1, f1, c1⟩ := cs_out (lv := lv) E cs0 h6 rl (nI (g (47 + 8 * s + 1)))
    refine ⟨h', ?_, f1.mono (fun x k hx => Or.inl hx), c1⟩
    rw [ef, e_64_0 E, ← e1]
    repeat (first | (apply ifT; focus ((try simp (disch := omega) only [hw, e58, hq.k, hq.r1, hq.k1, hq.n1, hq.r2, hq.k2, hq.n2, hq.r3, hq.k3, hq.n3, hq.r4, hq.k4, hq.n4, hq.r5, hq.k5, hq.n5, hq.r6, hq.k6, hq.n6, hf.k, hf.r2, hf.r4, hf.r5, hf.r7, hf.k1, hf.n1, hf.k2, hf.n2, hf.k3, hf.n3, hf.k4, hf.n4, h0, c.own, c.plc, c.lft, c.lod, c.blt, c.day, c.lyg, cf.far, cf.ppl, cf.spd, cf.wrk, cf.pcs, cf.slv, cf.car, cf.ned, i_lit, mI_pI, mK_pI, mN_pI, mR_pI, nI_ltI, nI_eq, nI_add, nI_mul, mjIn_nI, nI_clamp, neg1_lt0, if_pos, if_neg, if_true, if_false, Bool.false_eq_true, and_true, true_and, and_false, false_and]) <;> omega)) | (apply ifF; focus ((try simp (disch := omega) only [hw, e58, hq.k, hq.r1, hq.k1, hq.n1, hq.r2, hq.k2, hq.n2, hq.r3, hq.k3, hq.n3, hq.r4, hq.k4, hq.n4, hq.r5, hq.k5, hq.n5, hq.r6, hq.k6, hq.n6, hf.k, hf.r2, hf.r4, hf.r5, hf.r7, hf.k1, hf.n1, hf.k2, hf.n2, hf.k3, hf.n3, hf.k4, hf.n4, h0, c.own, c.plc, c.lft, c.lod, c.blt, c.day, c.lyg, cf.far, cf.ppl, cf.spd, cf.wrk, cf.pcs, cf.slv, cf.car, cf.ned, i_lit, mI_pI, mK_pI, mN_pI, mR_pI, nI_ltI, nI_eq, nI_add, nI_mul, mjIn_nI, nI_clamp, neg1_lt0, if_pos, if_neg, if_true, if_false, Bool.false_eq_true, and_true, true_and, and_false, false_and]) <;> omega)) | (apply stI; focus ((try simp (disch := omega) only [hw, e58, hq.k, hq.r1, hq.k1, hq.n1, hq.r2, hq.k2, hq.n2, hq.r3, hq.k3, hq.n3, hq.r4, hq.k4, hq.n4, hq.r5, hq.k5, hq.n5, hq.r6, hq.k6, hq.n6, hf.k, hf.r2, hf.r4, hf.r5, hf.r7, hf.k1, hf.n1, hf.k2, hf.n2, hf.k3, hf.n3, hf.k4, hf.n4, h0, c.own, c.plc, c.lft, c.lod, c.blt, c.day, c.lyg, cf.far, cf.ppl, cf.spd, cf.wrk, cf.pcs, cf.slv, cf.car, cf.ned, i_lit, mI_pI, mK_pI, mN_pI, mR_pI, nI_ltI, nI_eq, nI_add, nI_mul, mjIn_nI, nI_clamp, neg1_lt0, if_pos, if_neg, if_true, if_false, Bool.false_eq_true, and_true, true_and, and_false, false_and]) <;> rfl)) | (apply stV; focus ((try simp (disch := omega) only [hw, e58, hq.k, hq.r1, hq.k1, hq.n1, hq.r2, hq.k2, hq.n2, hq.r3, hq.k3, hq.n3, hq.r4, hq.k4, hq.n4, hq.r5, hq.k5, hq.n5, hq.r6, hq.k6, hq.n6, hf.k, hf.r2, hf.r4, hf.r5, hf.r7, hf.k1, hf.n1, hf.k2, hf.n2, hf.k3, hf.n3, hf.k4, hf.n4, h0, c.own, c.plc, c.lft, c.lod, c.blt, c.day, c.lyg, cf.far, cf.ppl, cf.spd, cf.wrk, cf.pcs, cf.slv, cf.car, cf.ned, i_lit, mI_pI, mK_pI, mN_pI, mR_pI, nI_ltI, nI_eq, nI_add, nI_mul, mjIn_nI, nI_clamp, neg1_lt0, if_pos, if_neg, if_true, if_false, Bool.false_eq_true, and_true, true_and, and_false, false_and]) <;> rfl)) | (apply stL; focus ((try simp (disch := omega) only [hw, e58, hq.k, hq.r1, hq.k1, hq.n1, hq.r2, hq.k2, hq.n2, hq.r3, hq.k3, hq.n3, hq.r4, hq.k4, hq.n4, hq.r5, hq.k5, hq.n5, hq.r6, hq.k6, hq.n6, hf.k, hf.r2, hf.r4, hf.r5, hf.r7, hf.k1, hf.n1, hf.k2, hf.n2, hf.k3, hf.n3, hf.k4, hf.n4, h0, c.own, c.plc, c.lft, c.lod, c.blt, c.day, c.lyg, cf.far, cf.ppl, cf.spd, cf.wrk, cf.pcs, cf.slv, cf.car, cf.ned, i_lit, mI_pI, mK_pI, mN_pI, mR_pI, nI_ltI, nI_eq, nI_add, nI_mul, mjIn_nI, nI_clamp, neg1_lt0, if_pos, if_neg, if_true, if_false, Bool.false_eq_true, and_true, true_and, and_false, false_and]) <;> rfl)))
    try simp (disch := omega) only [hw, e58, hq.k, hq.r1, hq.k1, hq.n1, hq.r2, hq.k2, hq.n2, hq.r3, hq.k3, hq.n3, hq.r4, hq.k4, hq.n4, hq.r5, hq.k5, hq.n5, hq.r6, hq.k6, hq.n6, hf.k, hf.r2, hf.r4, hf.r5, hf.r7, hf.k1, hf.n1, hf.k2, hf.n2, hf.k3, hf.n3, hf.k4, hf.n4, h0, c.own, c.plc, c.lft, c.lod, c.blt, c.day, c.lyg, cf.far, cf.ppl, cf.spd, cf.wrk, cf.pcs, cf.slv, cf.car, cf.ned, i_lit, mI_pI, mK_pI, mN_pI, mR_pI, nI_ltI, nI_eq, nI_add, nI_mul, mjIn_nI, nI_clamp, neg1_lt0, if_pos, if_neg, if_true, if_false, Bool.false_eq_true, and_true, true_and, and_false, false_and]
  · rw [if_neg q1]
    by_cases q2 : five g (12 + 5 * g (47 + 8 * s + 1)) = 0
    · rw [if_pos q2]
      refine ⟨h, ?_, Fr.rf, c⟩
      rw [ef, e_64_0 E]
      repeat (first | (apply ifT; focus ((try simp (disch := omega) only [hw, e58, e52, hq.k, hq.r1, hq.k1, hq.n1, hq.r2, hq.k2, hq.n2, hq.r3, hq.k3, hq.n3, hq.r4, hq.k4, hq.n4, hq.r5, hq.k5, hq.n5, hq.r6, hq.k6, hq.n6, hf.k, hf.r2, hf.r4, hf.r5, hf.r7, hf.k1, hf.n1, hf.k2, hf.n2, hf.k3, hf.n3, hf.k4, hf.n4, h0, c.own, c.plc, c.lft, c.lod, c.blt, c.day, c.lyg, cf.far, cf.ppl, cf.spd, cf.wrk, cf.pcs, cf.slv, cf.car, cf.ned, i_lit, mI_pI, mK_pI, mN_pI, mR_pI, nI_ltI, nI_eq, nI_add, nI_mul, mjIn_nI, nI_clamp, neg1_lt0, if_pos, if_neg, if_true, if_false, Bool.false_eq_true, and_true, true_and, and_false, false_and]) <;> omega)) | (apply ifF; focus ((try simp (disch := omega) only [hw, e58, e52, hq.k, hq.r1, hq.k1, hq.n1, hq.r2, hq.k2, hq.n2, hq.r3, hq.k3, hq.n3, hq.r4, hq.k4, hq.n4, hq.r5, hq.k5, hq.n5, hq.r6, hq.k6, hq.n6, hf.k, hf.r2, hf.r4, hf.r5, hf.r7, hf.k1, hf.n1, hf.k2, hf.n2, hf.k3, hf.n3, hf.k4, hf.n4, h0, c.own, c.plc, c.lft, c.lod, c.blt, c.day, c.lyg, cf.far, cf.ppl, cf.spd, cf.wrk, cf.pcs, cf.slv, cf.car, cf.ned, i_lit, mI_pI, mK_pI, mN_pI, mR_pI, nI_ltI, nI_eq, nI_add, nI_mul, mjIn_nI, nI_clamp, neg1_lt0, if_pos, if_neg, if_true, if_false, Bool.false_eq_true, and_true, true_and, and_false, false_and]) <;> omega)) | (apply stI; focus ((try simp (disch := omega) only [hw, e58, e52, hq.k, hq.r1, hq.k1, hq.n1, hq.r2, hq.k2, hq.n2, hq.r3, hq.k3, hq.n3, hq.r4, hq.k4, hq.n4, hq.r5, hq.k5, hq.n5, hq.r6, hq.k6, hq.n6, hf.k, hf.r2, hf.r4, hf.r5, hf.r7, hf.k1, hf.n1, hf.k2, hf.n2, hf.k3, hf.n3, hf.k4, hf.n4, h0, c.own, c.plc, c.lft, c.lod, c.blt, c.day, c.lyg, cf.far, cf.ppl, cf.spd, cf.wrk, cf.pcs, cf.slv, cf.car, cf.ned, i_lit, mI_pI, mK_pI, mN_pI, mR_pI, nI_ltI, nI_eq, nI_add, nI_mul, mjIn_nI, nI_clamp, neg1_lt0, if_pos, if_neg, if_true, if_false, Bool.false_eq_true, and_true, true_and, and_false, false_and]) <;> rfl)) | (apply stV; focus ((try simp (disch := omega) only [hw, e58, e52, hq.k, hq.r1, hq.k1, hq.n1, hq.r2, hq.k2, hq.n2, hq.r3, hq.k3, hq.n3, hq.r4, hq.k4, hq.n4, hq.r5, hq.k5, hq.n5, hq.r6, hq.k6, hq.n6, hf.k, hf.r2, hf.r4, hf.r5, hf.r7, hf.k1, hf.n1, hf.k2, hf.n2, hf.k3, hf.n3, hf.k4, hf.n4, h0, c.own, c.plc, c.lft, c.lod, c.blt, c.day, c.lyg, cf.far, cf.ppl, cf.spd, cf.wrk, cf.pcs, cf.slv, cf.car, cf.ned, i_lit, mI_pI, mK_pI, mN_pI, mR_pI, nI_ltI, nI_eq, nI_add, nI_mul, mjIn_nI, nI_clamp, neg1_lt0, if_pos, if_neg, if_true, if_false, Bool.false_eq_true, and_true, true_and, and_false, false_and]) <;> rfl)) | (apply stL; focus ((try simp (disch := omega) only [hw, e58, e52, hq.k, hq.r1, hq.k1, hq.n1, hq.r2, hq.k2, hq.n2, hq.r3, hq.k3, hq.n3, hq.r4, hq.k4, hq.n4, hq.r5, hq.k5, hq.n5, hq.r6, hq.k6, hq.n6, hf.k, hf.r2, hf.r4, hf.r5, hf.r7, hf.k1, hf.n1, hf.k2, hf.n2, hf.k3, hf.n3, hf.k4, hf.n4, h0, c.own, c.plc, c.lft, c.lod, c.blt, c.day, c.lyg, cf.far, cf.ppl, cf.spd, cf.wrk, cf.pcs, cf.slv, cf.car, cf.ned, i_lit, mI_pI, mK_pI, mN_pI, mR_pI, nI_ltI, nI_eq, nI_add, nI_mul, mjIn_nI, nI_clamp, neg1_lt0, if_pos, if_neg, if_true, if_false, Bool.false_eq_true, and_true, true_and, and_false, false_and]) <;> rfl)))
      try simp (disch := omega) only [hw, e58, e52, hq.k, hq.r1, hq.k1, hq.n1, hq.r2, hq.k2, hq.n2, hq.r3, hq.k3, hq.n3, hq.r4, hq.k4, hq.n4, hq.r5, hq.k5, hq.n5, hq.r6, hq.k6, hq.n6, hf.k, hf.r2, hf.r4, hf.r5, hf.r7, hf.k1, hf.n1, hf.k2, hf.n2, hf.k3, hf.n3, hf.k4, hf.n4, h0, c.own, c.plc, c.lft, c.lod, c.blt, c.day, c.lyg, cf.far, cf.ppl, cf.spd, cf.wrk, cf.pcs, cf.slv, cf.car, cf.ned, i_lit, mI_pI, mK_pI, mN_pI, mR_pI, nI_ltI, nI_eq, nI_add, nI_mul, mjIn_nI, nI_clamp, neg1_lt0, if_pos, if_neg, if_true, if_false, Bool.false_eq_true, and_true, true_and, and_false, false_and]
    · rw [if_neg q2]
      rcases lc with ⟨l1, l2⟩ | ⟨l1, l2, l3⟩
      · rw [if_pos (l2 g s)]
        obtain ⟨h2, e2, f2, c2⟩ := sp_takeUp (lv := lv) E r h6 cs0 w
        have cs2 := cs0.mk f2 c2 (Kc.mvs (bk_p hp5) (Or.inr (bk_s h6))).d
        obtain ⟨h', e3, f3, c3⟩ := cs_out (lv := lv) E cs2 h6 rl (nI (g (47 + 8 * s + 1)))
        refine ⟨h', ?_, (f2.tr f3).mono (fun x k hx => Or.inl hx), c3⟩
        rw [ef, e_64_0 E, ← e3]
        repeat (first | (apply ifT; focus ((try simp (disch := omega) only [hw, e58, e52, l1, e2, hq.k, hq.r1, hq.k1, hq.n1, hq.r2, hq.k2, hq.n2, hq.r3, hq.k3, hq.n3, hq.r4, hq.k4, hq.n4, hq.r5, hq.k5, hq.n5, hq.r6, hq.k6, hq.n6, hf.k, hf.r2, hf.r4, hf.r5, hf.r7, hf.k1, hf.n1, hf.k2, hf.n2, hf.k3, hf.n3, hf.k4, hf.n4, h0, c.own, c.plc, c.lft, c.lod, c.blt, c.day, c.lyg, cf.far, cf.ppl, cf.spd, cf.wrk, cf.pcs, cf.slv, cf.car, cf.ned, i_lit, mI_pI, mK_pI, mN_pI, mR_pI, nI_ltI, nI_eq, nI_add, nI_mul, mjIn_nI, nI_clamp, neg1_lt0, if_pos, if_neg, if_true, if_false, Bool.false_eq_true, and_true, true_and, and_false, false_and]) <;> omega)) | (apply ifF; focus ((try simp (disch := omega) only [hw, e58, e52, l1, e2, hq.k, hq.r1, hq.k1, hq.n1, hq.r2, hq.k2, hq.n2, hq.r3, hq.k3, hq.n3, hq.r4, hq.k4, hq.n4, hq.r5, hq.k5, hq.n5, hq.r6, hq.k6, hq.n6, hf.k, hf.r2, hf.r4, hf.r5, hf.r7, hf.k1, hf.n1, hf.k2, hf.n2, hf.k3, hf.n3, hf.k4, hf.n4, h0, c.own, c.plc, c.lft, c.lod, c.blt, c.day, c.lyg, cf.far, cf.ppl, cf.spd, cf.wrk, cf.pcs, cf.slv, cf.car, cf.ned, i_lit, mI_pI, mK_pI, mN_pI, mR_pI, nI_ltI, nI_eq, nI_add, nI_mul, mjIn_nI, nI_clamp, neg1_lt0, if_pos, if_neg, if_true, if_false, Bool.false_eq_true, and_true, true_and, and_false, false_and]) <;> omega)) | (apply stI; focus ((try simp (disch := omega) only [hw, e58, e52, l1, e2, hq.k, hq.r1, hq.k1, hq.n1, hq.r2, hq.k2, hq.n2, hq.r3, hq.k3, hq.n3, hq.r4, hq.k4, hq.n4, hq.r5, hq.k5, hq.n5, hq.r6, hq.k6, hq.n6, hf.k, hf.r2, hf.r4, hf.r5, hf.r7, hf.k1, hf.n1, hf.k2, hf.n2, hf.k3, hf.n3, hf.k4, hf.n4, h0, c.own, c.plc, c.lft, c.lod, c.blt, c.day, c.lyg, cf.far, cf.ppl, cf.spd, cf.wrk, cf.pcs, cf.slv, cf.car, cf.ned, i_lit, mI_pI, mK_pI, mN_pI, mR_pI, nI_ltI, nI_eq, nI_add, nI_mul, mjIn_nI, nI_clamp, neg1_lt0, if_pos, if_neg, if_true, if_false, Bool.false_eq_true, and_true, true_and, and_false, false_and]) <;> rfl)) | (apply stV; focus ((try simp (disch := omega) only [hw, e58, e52, l1, e2, hq.k, hq.r1, hq.k1, hq.n1, hq.r2, hq.k2, hq.n2, hq.r3, hq.k3, hq.n3, hq.r4, hq.k4, hq.n4, hq.r5, hq.k5, hq.n5, hq.r6, hq.k6, hq.n6, hf.k, hf.r2, hf.r4, hf.r5, hf.r7, hf.k1, hf.n1, hf.k2, hf.n2, hf.k3, hf.n3, hf.k4, hf.n4, h0, c.own, c.plc, c.lft, c.lod, c.blt, c.day, c.lyg, cf.far, cf.ppl, cf.spd, cf.wrk, cf.pcs, cf.slv, cf.car, cf.ned, i_lit, mI_pI, mK_pI, mN_pI, mR_pI, nI_ltI, nI_eq, nI_add, nI_mul, mjIn_nI, nI_clamp, neg1_lt0, if_pos, if_neg, if_true, if_false, Bool.false_eq_true, and_true, true_and, and_false, false_and]) <;> rfl)) | (apply stL; focus ((try simp (disch := omega) only [hw, e58, e52, l1, e2, hq.k, hq.r1, hq.k1, hq.n1, hq.r2, hq.k2, hq.n2, hq.r3, hq.k3, hq.n3, hq.r4, hq.k4, hq.n4, hq.r5, hq.k5, hq.n5, hq.r6, hq.k6, hq.n6, hf.k, hf.r2, hf.r4, hf.r5, hf.r7, hf.k1, hf.n1, hf.k2, hf.n2, hf.k3, hf.n3, hf.k4, hf.n4, h0, c.own, c.plc, c.lft, c.lod, c.blt, c.day, c.lyg, cf.far, cf.ppl, cf.spd, cf.wrk, cf.pcs, cf.slv, cf.car, cf.ned, i_lit, mI_pI, mK_pI, mN_pI, mR_pI, nI_ltI, nI_eq, nI_add, nI_mul, mjIn_nI, nI_clamp, neg1_lt0, if_pos, if_neg, if_true, if_false, Bool.false_eq_true, and_true, true_and, and_false, false_and]) <;> rfl)))
        try simp (disch := omega) only [hw, e58, e52, l1, e2, hq.k, hq.r1, hq.k1, hq.n1, hq.r2, hq.k2, hq.n2, hq.r3, hq.k3, hq.n3, hq.r4, hq.k4, hq.n4, hq.r5, hq.k5, hq.n5, hq.r6, hq.k6, hq.n6, hf.k, hf.r2, hf.r4, hf.r5, hf.r7, hf.k1, hf.n1, hf.k2, hf.n2, hf.k3, hf.n3, hf.k4, hf.n4, h0, c.own, c.plc, c.lft, c.lod, c.blt, c.day, c.lyg, cf.far, cf.ppl, cf.spd, cf.wrk, cf.pcs, cf.slv, cf.car, cf.ned, i_lit, mI_pI, mK_pI, mN_pI, mR_pI, nI_ltI, nI_eq, nI_add, nI_mul, mjIn_nI, nI_clamp, neg1_lt0, if_pos, if_neg, if_true, if_false, Bool.false_eq_true, and_true, true_and, and_false, false_and]
      · obtain ⟨x, h4, e4, hx, f4, i4⟩ := l3 h g s Fr.rf cs0 w h3 hz
        have cs4 := cs0.same f4 i4
        have F4 : Fr (FR q st) h h4 := f4.mono (fun x k hx => Or.inr hx)
        have hq4 := f4.qs hq
        by_cases q3 : L g s = true
        · rw [if_pos q3]
          have hx' := (lcmpN x).mpr (hx.mpr q3)
          obtain ⟨h2, e2, f2, c2⟩ := sp_takeUp (lv := lv) E r h6 cs4 w
          have cs2 := cs4.mk f2 c2 (Kc.mvs (bk_p hp5) (Or.inr (bk_s h6))).d
          obtain ⟨h', e3, f3, c3⟩ := cs_out (lv := lv) E cs2 h6 rl (nI (g (47 + 8 * s + 1)))
          refine ⟨h', ?_, F4.tr ((f2.tr f3).mono (fun x k hx => Or.inl hx)), c3⟩
          rw [ef, e_64_0 E, ← e3]
          repeat (first | (apply ifT; focus ((try simp (disch := omega) only [hw, e58, e52, l2, e4, hx', hq4.k, hq4.r1, e2, hq.k, hq.r1, hq.k1, hq.n1, hq.r2, hq.k2, hq.n2, hq.r3, hq.k3, hq.n3, hq.r4, hq.k4, hq.n4, hq.r5, hq.k5, hq.n5, hq.r6, hq.k6, hq.n6, hf.k, hf.r2, hf.r4, hf.r5, hf.r7, hf.k1, hf.n1, hf.k2, hf.n2, hf.k3, hf.n3, hf.k4, hf.n4, h0, c.own, c.plc, c.lft, c.lod, c.blt, c.day, c.lyg, cf.far, cf.ppl, cf.spd, cf.wrk, cf.pcs, cf.slv, cf.car, cf.ned, i_lit, mI_pI, mK_pI, mN_pI, mR_pI, nI_ltI, nI_eq, nI_add, nI_mul, mjIn_nI, nI_clamp, neg1_lt0, if_pos, if_neg, if_true, if_false, Bool.false_eq_true, and_true, true_and, and_false, false_and]) <;> omega)) | (apply ifF; focus ((try simp (disch := omega) only [hw, e58, e52, l2, e4, hx', hq4.k, hq4.r1, e2, hq.k, hq.r1, hq.k1, hq.n1, hq.r2, hq.k2, hq.n2, hq.r3, hq.k3, hq.n3, hq.r4, hq.k4, hq.n4, hq.r5, hq.k5, hq.n5, hq.r6, hq.k6, hq.n6, hf.k, hf.r2, hf.r4, hf.r5, hf.r7, hf.k1, hf.n1, hf.k2, hf.n2, hf.k3, hf.n3, hf.k4, hf.n4, h0, c.own, c.plc, c.lft, c.lod, c.blt, c.day, c.lyg, cf.far, cf.ppl, cf.spd, cf.wrk, cf.pcs, cf.slv, cf.car, cf.ned, i_lit, mI_pI, mK_pI, mN_pI, mR_pI, nI_ltI, nI_eq, nI_add, nI_mul, mjIn_nI, nI_clamp, neg1_lt0, if_pos, if_neg, if_true, if_false, Bool.false_eq_true, and_true, true_and, and_false, false_and]) <;> omega)) | (apply stI; focus ((try simp (disch := omega) only [hw, e58, e52, l2, e4, hx', hq4.k, hq4.r1, e2, hq.k, hq.r1, hq.k1, hq.n1, hq.r2, hq.k2, hq.n2, hq.r3, hq.k3, hq.n3, hq.r4, hq.k4, hq.n4, hq.r5, hq.k5, hq.n5, hq.r6, hq.k6, hq.n6, hf.k, hf.r2, hf.r4, hf.r5, hf.r7, hf.k1, hf.n1, hf.k2, hf.n2, hf.k3, hf.n3, hf.k4, hf.n4, h0, c.own, c.plc, c.lft, c.lod, c.blt, c.day, c.lyg, cf.far, cf.ppl, cf.spd, cf.wrk, cf.pcs, cf.slv, cf.car, cf.ned, i_lit, mI_pI, mK_pI, mN_pI, mR_pI, nI_ltI, nI_eq, nI_add, nI_mul, mjIn_nI, nI_clamp, neg1_lt0, if_pos, if_neg, if_true, if_false, Bool.false_eq_true, and_true, true_and, and_false, false_and]) <;> rfl)) | (apply stV; focus ((try simp (disch := omega) only [hw, e58, e52, l2, e4, hx', hq4.k, hq4.r1, e2, hq.k, hq.r1, hq.k1, hq.n1, hq.r2, hq.k2, hq.n2, hq.r3, hq.k3, hq.n3, hq.r4, hq.k4, hq.n4, hq.r5, hq.k5, hq.n5, hq.r6, hq.k6, hq.n6, hf.k, hf.r2, hf.r4, hf.r5, hf.r7, hf.k1, hf.n1, hf.k2, hf.n2, hf.k3, hf.n3, hf.k4, hf.n4, h0, c.own, c.plc, c.lft, c.lod, c.blt, c.day, c.lyg, cf.far, cf.ppl, cf.spd, cf.wrk, cf.pcs, cf.slv, cf.car, cf.ned, i_lit, mI_pI, mK_pI, mN_pI, mR_pI, nI_ltI, nI_eq, nI_add, nI_mul, mjIn_nI, nI_clamp, neg1_lt0, if_pos, if_neg, if_true, if_false, Bool.false_eq_true, and_true, true_and, and_false, false_and]) <;> rfl)) | (apply stL; focus ((try simp (disch := omega) only [hw, e58, e52, l2, e4, hx', hq4.k, hq4.r1, e2, hq.k, hq.r1, hq.k1, hq.n1, hq.r2, hq.k2, hq.n2, hq.r3, hq.k3, hq.n3, hq.r4, hq.k4, hq.n4, hq.r5, hq.k5, hq.n5, hq.r6, hq.k6, hq.n6, hf.k, hf.r2, hf.r4, hf.r5, hf.r7, hf.k1, hf.n1, hf.k2, hf.n2, hf.k3, hf.n3, hf.k4, hf.n4, h0, c.own, c.plc, c.lft, c.lod, c.blt, c.day, c.lyg, cf.far, cf.ppl, cf.spd, cf.wrk, cf.pcs, cf.slv, cf.car, cf.ned, i_lit, mI_pI, mK_pI, mN_pI, mR_pI, nI_ltI, nI_eq, nI_add, nI_mul, mjIn_nI, nI_clamp, neg1_lt0, if_pos, if_neg, if_true, if_false, Bool.false_eq_true, and_true, true_and, and_false, false_and]) <;> rfl)))
          try simp (disch := omega) only [hw, e58, e52, l2, e4, hx', hq4.k, hq4.r1, e2, hq.k, hq.r1, hq.k1, hq.n1, hq.r2, hq.k2, hq.n2, hq.r3, hq.k3, hq.n3, hq.r4, hq.k4, hq.n4, hq.r5, hq.k5, hq.n5, hq.r6, hq.k6, hq.n6, hf.k, hf.r2, hf.r4, hf.r5, hf.r7, hf.k1, hf.n1, hf.k2, hf.n2, hf.k3, hf.n3, hf.k4, hf.n4, h0, c.own, c.plc, c.lft, c.lod, c.blt, c.day, c.lyg, cf.far, cf.ppl, cf.spd, cf.wrk, cf.pcs, cf.slv, cf.car, cf.ned, i_lit, mI_pI, mK_pI, mN_pI, mR_pI, nI_ltI, nI_eq, nI_add, nI_mul, mjIn_nI, nI_clamp, neg1_lt0, if_pos, if_neg, if_true, if_false, Bool.false_eq_true, and_true, true_and, and_false, false_and]
        · rw [if_neg q3]
          have hx' : ¬ (nI 0 < (if x < 0 then -nI 1 else if x = 0 then nI 0 else nI 1 : Int32)) := fun z => q3 (hx.mp ((lcmpN x).mp z))
          refine ⟨h4, ?_, F4, cs4.2.2⟩
          rw [ef, e_64_0 E]
          repeat (first | (apply ifT; focus ((try simp (disch := omega) only [hw, e58, e52, l2, e4, hx', hq.k, hq.r1, hq.k1, hq.n1, hq.r2, hq.k2, hq.n2, hq.r3, hq.k3, hq.n3, hq.r4, hq.k4, hq.n4, hq.r5, hq.k5, hq.n5, hq.r6, hq.k6, hq.n6, hf.k, hf.r2, hf.r4, hf.r5, hf.r7, hf.k1, hf.n1, hf.k2, hf.n2, hf.k3, hf.n3, hf.k4, hf.n4, h0, c.own, c.plc, c.lft, c.lod, c.blt, c.day, c.lyg, cf.far, cf.ppl, cf.spd, cf.wrk, cf.pcs, cf.slv, cf.car, cf.ned, i_lit, mI_pI, mK_pI, mN_pI, mR_pI, nI_ltI, nI_eq, nI_add, nI_mul, mjIn_nI, nI_clamp, neg1_lt0, if_pos, if_neg, if_true, if_false, Bool.false_eq_true, and_true, true_and, and_false, false_and]) <;> omega)) | (apply ifF; focus ((try simp (disch := omega) only [hw, e58, e52, l2, e4, hx', hq.k, hq.r1, hq.k1, hq.n1, hq.r2, hq.k2, hq.n2, hq.r3, hq.k3, hq.n3, hq.r4, hq.k4, hq.n4, hq.r5, hq.k5, hq.n5, hq.r6, hq.k6, hq.n6, hf.k, hf.r2, hf.r4, hf.r5, hf.r7, hf.k1, hf.n1, hf.k2, hf.n2, hf.k3, hf.n3, hf.k4, hf.n4, h0, c.own, c.plc, c.lft, c.lod, c.blt, c.day, c.lyg, cf.far, cf.ppl, cf.spd, cf.wrk, cf.pcs, cf.slv, cf.car, cf.ned, i_lit, mI_pI, mK_pI, mN_pI, mR_pI, nI_ltI, nI_eq, nI_add, nI_mul, mjIn_nI, nI_clamp, neg1_lt0, if_pos, if_neg, if_true, if_false, Bool.false_eq_true, and_true, true_and, and_false, false_and]) <;> omega)) | (apply stI; focus ((try simp (disch := omega) only [hw, e58, e52, l2, e4, hx', hq.k, hq.r1, hq.k1, hq.n1, hq.r2, hq.k2, hq.n2, hq.r3, hq.k3, hq.n3, hq.r4, hq.k4, hq.n4, hq.r5, hq.k5, hq.n5, hq.r6, hq.k6, hq.n6, hf.k, hf.r2, hf.r4, hf.r5, hf.r7, hf.k1, hf.n1, hf.k2, hf.n2, hf.k3, hf.n3, hf.k4, hf.n4, h0, c.own, c.plc, c.lft, c.lod, c.blt, c.day, c.lyg, cf.far, cf.ppl, cf.spd, cf.wrk, cf.pcs, cf.slv, cf.car, cf.ned, i_lit, mI_pI, mK_pI, mN_pI, mR_pI, nI_ltI, nI_eq, nI_add, nI_mul, mjIn_nI, nI_clamp, neg1_lt0, if_pos, if_neg, if_true, if_false, Bool.false_eq_true, and_true, true_and, and_false, false_and]) <;> rfl)) | (apply stV; focus ((try simp (disch := omega) only [hw, e58, e52, l2, e4, hx', hq.k, hq.r1, hq.k1, hq.n1, hq.r2, hq.k2, hq.n2, hq.r3, hq.k3, hq.n3, hq.r4, hq.k4, hq.n4, hq.r5, hq.k5, hq.n5, hq.r6, hq.k6, hq.n6, hf.k, hf.r2, hf.r4, hf.r5, hf.r7, hf.k1, hf.n1, hf.k2, hf.n2, hf.k3, hf.n3, hf.k4, hf.n4, h0, c.own, c.plc, c.lft, c.lod, c.blt, c.day, c.lyg, cf.far, cf.ppl, cf.spd, cf.wrk, cf.pcs, cf.slv, cf.car, cf.ned, i_lit, mI_pI, mK_pI, mN_pI, mR_pI, nI_ltI, nI_eq, nI_add, nI_mul, mjIn_nI, nI_clamp, neg1_lt0, if_pos, if_neg, if_true, if_false, Bool.false_eq_true, and_true, true_and, and_false, false_and]) <;> rfl)) | (apply stL; focus ((try simp (disch := omega) only [hw, e58, e52, l2, e4, hx', hq.k, hq.r1, hq.k1, hq.n1, hq.r2, hq.k2, hq.n2, hq.r3, hq.k3, hq.n3, hq.r4, hq.k4, hq.n4, hq.r5, hq.k5, hq.n5, hq.r6, hq.k6, hq.n6, hf.k, hf.r2, hf.r4, hf.r5, hf.r7, hf.k1, hf.n1, hf.k2, hf.n2, hf.k3, hf.n3, hf.k4, hf.n4, h0, c.own, c.plc, c.lft, c.lod, c.blt, c.day, c.lyg, cf.far, cf.ppl, cf.spd, cf.wrk, cf.pcs, cf.slv, cf.car, cf.ned, i_lit, mI_pI, mK_pI, mN_pI, mR_pI, nI_ltI, nI_eq, nI_add, nI_mul, mjIn_nI, nI_clamp, neg1_lt0, if_pos, if_neg, if_true, if_false, Bool.false_eq_true, and_true, true_and, and_false, false_and]) <;> rfl)))
          try simp (disch := omega) only [hw, e58, e52, l2, e4, hx', hq.k, hq.r1, hq.k1, hq.n1, hq.r2, hq.k2, hq.n2, hq.r3, hq.k3, hq.n3, hq.r4, hq.k4, hq.n4, hq.r5, hq.k5, hq.n5, hq.r6, hq.k6, hq.n6, hf.k, hf.r2, hf.r4, hf.r5, hf.r7, hf.k1, hf.n1, hf.k2, hf.n2, hf.k3, hf.n3, hf.k4, hf.n4, h0, c.own, c.plc, c.lft, c.lod, c.blt, c.day, c.lyg, cf.far, cf.ppl, cf.spd, cf.wrk, cf.pcs, cf.slv, cf.car, cf.ned, i_lit, mI_pI, mK_pI, mN_pI, mR_pI, nI_ltI, nI_eq, nI_add, nI_mul, mjIn_nI, nI_clamp, neg1_lt0, if_pos, if_neg, if_true, if_false, Bool.false_eq_true, and_true, true_and, and_false, false_and]
end CD
