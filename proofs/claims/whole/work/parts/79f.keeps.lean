/-! what holds at all times holds behind each call -/
section SM
variable {g : Nat → Nat}
theorem npc_s {s i : Nat} (hs : s < 6) (hi : i < 3) : ¬ pc (47 + 8 * s + i) := by unfold pc; omega
theorem npc_0 {s : Nat} (hs : s < 6) : ¬ pc (47 + 8 * s) := by unfold pc; omega
theorem sm_at {k : Nat} (hk : pc k) (h1 : k < 148) : g k ≤ sm g 148 := by
  have := sm_gup (g := g) (v := 0) hk 148 h1
  omega
theorem sm_gout {s : Nat} (hs : s < 6) : sm (gout g s) 148 = sm g 148 := by
  unfold gout
  rw [sm_gup_out (npc_s (i := 2) hs (by omega)), sm_gup_out (npc_0 hs)]
theorem sm_gsp {s a b c : Nat} (hs : s < 6) : sm (gsp g s a b c) 148 = sm g 148 := by
  unfold gsp
  rw [sm_gup_out (npc_s (i := 2) hs (by omega)), sm_gup_out (npc_s (i := 1) hs (by omega)), sm_gup_out (npc_0 hs)]
theorem sm_dec {s : Nat} (hs : s < 6) : sm (dec g s) 148 = sm g 148 := by
  unfold dec
  rw [sm_gup_out (npc_s (i := 2) hs (by omega))]
theorem ru_sm {L : (Nat → Nat) → Nat → Bool} (w : Wg g) {s : Nat} (hs : s < g 3) : sm (ruF L g s) 148 ≤ sm g 148 := by
  have hp := w.1.p hs
  have ha := bk_p hp.2.2.1
  have ht := bk_s hp.1
  unfold ruF
  split
  · unfold stF
    split
    · rw [sm_gout hp.1]; omega
    · split
      · omega
      · split
        · rw [sm_gout hp.1]; exact mvs_sm _ _ ha (Or.inr ht) (by omega)
        · omega
  · split
    · rw [sm_dec hp.1]; omega
    · have wd := w.1.dec hs
      have e1 : dec g s (47 + 8 * s + 1) = g (47 + 8 * s + 1) := by rw [dec_at, if_neg (by omega)]
      split
      · unfold thF
        split
        · rw [sm_gsp hp.1]
          refine Nat.le_trans (mvs_sm _ _ ht (Or.inr bk_h) (by omega)) ?_
          rw [sm_dec hp.1]; omega
        · refine Nat.le_trans (mvs_sm _ _ bk_h (Or.inr ht) (by omega)) ?_
          rw [sm_gsp hp.1]
          refine Nat.le_trans (mvs_sm _ _ ht (Or.inr bk_h) (by omega)) ?_
          rw [sm_dec hp.1]; omega
      · unfold hoF
        rw [sm_gup_out (npc_0 hp.1), e1]
        refine Nat.le_trans (mvs_sm _ _ ht (Or.inr ha) (by omega)) ?_
        rw [sm_dec hp.1]; omega
theorem runs_sm {L : (Nat → Nat) → Nat → Bool} : ∀ (n s : Nat) (g : Nat → Nat), Wg g → s + n ≤ g 3 → sm (runs L n s g) 148 ≤ sm g 148 := by
  intro n
  induction n with
  | zero => intro s g _ _; exact Nat.le_refl _
  | succ n ih =>
    intro s g w h
    have h1 := ru_keeps (L := L) w (s := s) (by omega)
    exact Nat.le_trans (ih (s + 1) (ruF L g s) h1.1 (by rw [h1.2 3 (by omega)]; omega)) (ru_sm w (by omega))
theorem day_sm {L : (Nat → Nat) → Nat → Bool} (w : Wg g) : sm (dayF L g) 148 ≤ sm g 148 := by
  unfold dayF
  rw [sm_gup_out (by unfold pc; omega)]
  refine Nat.le_trans ?_ (runs_sm (L := L) (g 3) 0 g w (by omega))
  unfold buF
  split
  · rw [sm_gup_out (by unfold pc; omega)]
    exact mvs_sm _ _ bk_h (Or.inl rfl) (by omega)
  · exact Nat.le_refl _
/-- how great each can be -/
theorem Wg.lt (w : Wg g) (h10 : g 10 < 1048576) (hc : ∀ k, k < 10 ∨ (95 ≤ k ∧ k < 148) → g k < 1048576) : ∀ k, k < 148 → g k < 1048576 := by
  intro k hk
  obtain ⟨⟨wc, a, b, c, d⟩, e⟩ := w
  by_cases hp : pc k
  · have := sm_at (g := g) hp hk; omega
  · by_cases h1 : k < 10 ∨ (95 ≤ k ∧ k < 148)
    · exact hc k h1
    · have h45 : g 4 ≤ 5 := wc.1.2.2.2.2.2.2.1
      by_cases h2 : k < 12
      · rcases (show k = 10 ∨ k = 11 by omega) with y | y
        · rw [y]; exact h10
        · rw [y]; omega
      · unfold pc at hp
        by_cases h3 : k < 42
        · have := b (k - 37) (by omega)
          rw [show 37 + (k - 37) = k by omega] at this
          omega
        · have := a ((k - 47) / 8) (by omega)
          rcases (show k = 47 + 8 * ((k - 47) / 8) ∨ k = 47 + 8 * ((k - 47) / 8) + 1 ∨ k = 47 + 8 * ((k - 47) / 8) + 2 by omega) with y | y | y
          · rw [y]; omega
          · rw [y]; omega
          · rw [y]; omega
end SM
theorem Wt.of {g g' : Nat → Nat} (t : told g g') (w : Wt g) : Wt g' := fun s h6 h3 => by rw [t _ (by omega)]; exact w s h6 (by rw [t 3 (by omega)] at h3; exact h3)
theorem Wn.of {g g' : Nat → Nat} (t : told g g') (n : ∀ j, 117 ≤ j → j < 148 → g' j = g j) (w : Wn g) : Wn g' := by
  unfold Wn
  rw [n 147 (by omega) (by omega), t 2 (by omega)]
  have w1 := w.1
  exact ⟨w1, fun i hi => by rw [n _ (by omega) (by omega), n _ (by omega) (by omega), n _ (by omega) (by omega)]; exact w.2 i hi⟩
section WK
variable {B C : Nat} {s : gst}
theorem okG.mono {g : Nat → Nat} (h : B ≤ C) (o : okG B g) : okG C g := ⟨o.1, o.2.1, o.2.2.1, Nat.le_trans o.2.2.2.1 h, o.2.2.2.2⟩
theorem WS.mono (h : B ≤ C) (w : WS B s) : WS C s :=
  ⟨w.1.mono h, w.2.1, w.2.2.1, w.2.2.2.1, ⟨w.2.2.2.2.1.1, fun i hi => ⟨⟨(w.2.2.2.2.1.2 i hi).1.1, Nat.le_trans (w.2.2.2.2.1.2 i hi).1.2.1 h, (w.2.2.2.2.1.2 i hi).1.2.2⟩, (w.2.2.2.2.1.2 i hi).2⟩⟩, fun k hk hm => ⟨(w.2.2.2.2.2 k hk hm).1.mono h, (w.2.2.2.2.2 k hk hm).2⟩⟩
/-- another field of the same text, and the same notes -/
theorem okG.of {g g' : Nat → Nat} (o : okG B g) (w : Wg g') (t : told g g') (n : ∀ j, 117 ≤ j → j < 148 → g' j = g j) (hs : sm g' 148 ≤ C) (hd : g' 10 ≤ 999) : okG C g' :=
  ⟨w, o.2.1.of t, o.2.2.1.of t n, hs, hd, w.lt (by omega) (fun k hk => by
    by_cases y : k < 117
    · rw [t k (by omega)]; exact o.2.2.2.2.2 k (by omega)
    · rw [n k (by omega) (by omega)]; exact o.2.2.2.2.2 k (by omega))⟩
theorem WS.now {g' : Nat → Nat} (w : WS B s) (o : okG B g') (t : told s.g g') : WS B (sG s g') :=
  ⟨o, w.2.1, w.2.2.1, w.2.2.2.1, ⟨w.2.2.2.2.1.1, fun i hi => ⟨(w.2.2.2.2.1.2 i hi).1, fun j hj => ((w.2.2.2.2.1.2 i hi).2 j hj).trans (t j hj).symm⟩⟩, w.2.2.2.2.2⟩
theorem ws_Day (w : WS B s) : WS B (nDay s) := by
  unfold nDay
  by_cases z : s.g 0 = 1 ∧ s.g 10 ≠ 999
  · rw [if_pos z]
    have k := day_keeps (L := Lo s.R) w.1.1
    have t : told s.g (dayF (Lo s.R) s.g) := fun j hj => k.2.1 j (by omega)
    have h10 := w.1.2.2.2.2.1
    exact w.act.now (w.1.of k.1 t (fun j h1 h2 => k.2.1 j (by omega)) (Nat.le_trans (day_sm w.1.1) w.1.2.2.2.1) (by omega)) t
  · rw [if_neg z]; exact w
theorem gup_told {g : Nat → Nat} {k v : Nat} (hk : 10 ≤ k ∧ k < 95) : told g (gup g k v) := fun j hj => gup_ne _ _ (by omega)
theorem ws_Lie (w : WS B s) (p : Int32) : WS B (nLie s p) := by
  have h25 : s.g 2 ≤ 5 := w.1.1.1.1.1.2.2.2.2.1
  unfold nLie
  by_cases z : isP s.g p
  · rw [if_pos z]
    obtain ⟨p', rfl, p1⟩ := isP_nat z
    rw [nI_clamp (show p' < 2 ^ 31 by omega)]
    have l1 := (w.1.1.1.2.2.1 p' (by omega)).1
    have t : told s.g (lieG s.g p') := gup_told (by omega)
    exact w.act.now (w.1.of (lie_w w.1.1 p1 (by omega)) t (fun j _ _ => gup_ne _ _ (by omega)) (by unfold lieG; rw [sm_gup_out (by unfold pc; omega)]; exact w.1.2.2.2.1) (by unfold lieG; rw [gup_ne _ _ (by omega)]; exact w.1.2.2.2.2.1)) t
  · rw [if_neg z]; exact w
theorem ws_Cheer (w : WS B s) (hB : B ≤ 9000) (p u : Int32) : WS (B + 9) (nCheer s p u) := by
  have h25 : s.g 2 ≤ 5 := w.1.1.1.1.1.2.2.2.2.1
  unfold nCheer
  by_cases z : isP s.g p ∧ rg u 1 9
  · rw [if_pos z]
    obtain ⟨p', rfl, p1⟩ := isP_nat z.1
    obtain ⟨u', rfl, u1, u2⟩ := rg_nat z.2
    rw [nI_clamp (show p' < 2 ^ 31 by omega), nI_clamp (show u' < 2 ^ 31 by omega)]
    have hp : pc (12 + 5 * p' + p') := bk_pc (bk_p (show p' < 5 by omega)) (by omega)
    have e := sm_gup (g := s.g) (v := chV (s.g (12 + 5 * p' + p')) u') hp 148 (by omega)
    have c9 : chV (s.g (12 + 5 * p' + p')) u' ≤ s.g (12 + 5 * p' + p') + 9 := by unfold chV; split; split <;> omega; omega
    have sB := w.1.2.2.2.1
    have gk := sm_at (g := s.g) hp (show 12 + 5 * p' + p' < 148 by omega)
    have t : told s.g (gup s.g (12 + 5 * p' + p') (chV (s.g (12 + 5 * p' + p')) u')) := gup_told (by omega)
    have w' : Wg (gup s.g (12 + 5 * p' + p') (chV (s.g (12 + 5 * p' + p')) u')) := by
      refine ⟨w.1.1.1.pieces (fun j _ q => gup_ne _ _ (fun e => q (e ▸ hp))) (by omega), fun z hz => ?_⟩
      rw [gup_ne _ _ (by omega), gup_ne _ _ (by omega)]; exact w.1.1.2 z hz
    exact (w.act.mono (by omega)).now (w.1.of w' t (fun j _ _ => gup_ne _ _ (by omega)) (by omega) (by rw [gup_ne _ _ (by omega)]; exact w.1.2.2.2.2.1)) t
  · rw [if_neg z]; exact w.mono (by omega)
theorem ws_Give (w : WS B s) (hB : B ≤ 9000) (a b c : Int32) : WS B (nGive s a b c) := by
  have h25 : s.g 2 ≤ 5 := w.1.1.1.1.1.2.2.2.2.1
  unfold nGive
  by_cases z : isP s.g a ∧ isP s.g b ∧ isP s.g c ∧ ¬ a = b ∧ s.g (12 + 5 * a.toNatClampNeg + c.toNatClampNeg) ≠ 0
  · rw [if_pos z]
    obtain ⟨z1, z2, z3, z4, z5⟩ := z
    obtain ⟨a', rfl, a1⟩ := isP_nat z1
    obtain ⟨b', rfl, b1⟩ := isP_nat z2
    obtain ⟨c', rfl, c1⟩ := isP_nat z3
    have hab : a' ≠ b' := fun e => z4 (by rw [e])
    rw [nI_clamp (show a' < 2 ^ 31 by omega), nI_clamp (show c' < 2 ^ 31 by omega)] at z5
    rw [nI_clamp (show a' < 2 ^ 31 by omega), nI_clamp (show b' < 2 ^ 31 by omega), nI_clamp (show c' < 2 ^ 31 by omega)]
    have pa : pc (12 + 5 * a' + c') := bk_pc (bk_p (show a' < 5 by omega)) (by omega)
    have pb : pc (12 + 5 * b' + c') := bk_pc (bk_p (show b' < 5 by omega)) (by omega)
    have e1 := sm_gup (g := s.g) (v := s.g (12 + 5 * a' + c') - 1) pa 148 (by omega)
    have e2 := sm_gup (g := gup s.g (12 + 5 * a' + c') (s.g (12 + 5 * a' + c') - 1)) (v := s.g (12 + 5 * b' + c') + 1) pb 148 (by omega)
    rw [gup_ne (j := 12 + 5 * b' + c') _ _ (by omega)] at e2
    have sB := w.1.2.2.2.1
    have es : sm (giveG s.g a' b' c') 148 ≤ B := by unfold giveG; omega
    have ne : ∀ j, ¬ pc j → giveG s.g a' b' c' j = s.g j := fun j q => by unfold giveG; rw [gup_ne (j := j) _ _ (fun e => q (by rw [e]; exact pb)), gup_ne (j := j) _ _ (fun e => q (by rw [e]; exact pa))]
    have t : told s.g (giveG s.g a' b' c') := fun j hj => ne j (by unfold pc; omega)
    have w' : Wg (giveG s.g a' b' c') := by
      refine ⟨w.1.1.1.pieces (fun j _ q => ne j q) (by omega), fun z hz => ?_⟩
      rw [ne _ (by unfold pc; omega), ne _ (by unfold pc; omega)]; exact w.1.1.2 z hz
    exact w.act.now (w.1.of w' t (fun j _ _ => ne j (by unfold pc; omega)) es (by rw [ne _ (by unfold pc; omega)]; exact w.1.2.2.2.2.1)) t
  · rw [if_neg z]; exact w
theorem ws_Brush (w : WS B s) (a b : Int32) : WS B (nBrush s a b) := by
  have h25 : s.g 2 ≤ 5 := w.1.1.1.1.1.2.2.2.2.1
  have h36 : s.g 3 ≤ 6 := w.1.1.1.1.1.2.2.2.2.2.1
  unfold nBrush
  by_cases z : isO s.g a ∧ isP s.g b ∧ s.g (47 + 8 * a.toNatClampNeg + 1) ≠ b.toNatClampNeg
  · rw [if_pos z]
    obtain ⟨a', rfl, a1⟩ := isS_nat z.1.1
    obtain ⟨b', rfl, b1⟩ := isP_nat z.2.1
    rw [nI_clamp (show a' < 2 ^ 31 by omega), nI_clamp (show b' < 2 ^ 31 by omega)]
    have t : told s.g (brG s.g a' b') := gup_told (by omega)
    exact w.act.now (w.1.of (brush_w w.1.1 a1 b1) t (fun j _ _ => gup_ne _ _ (by omega)) (by unfold brG; rw [sm_gup_out (by unfold pc; omega)]; exact w.1.2.2.2.1) (by unfold brG; rw [gup_ne _ _ (by omega)]; exact w.1.2.2.2.2.1)) t
  · rw [if_neg z]; exact w
/-- the field of an act, with what was told and the notes -/
theorem ws_Undo (w : WS B s) : WS B (nUndo s) := by
  unfold nUndo
  by_cases z : s.ac = 0
  · rw [if_pos z]; exact w
  · rw [if_neg z]
    obtain ⟨⟨a1, a2, a3, a4⟩, a5⟩ := w.2.2.2.2.1.2 (s.ac - 1) (by have := w.2.2.2.2.1.1; omega)
    have e : ∀ j, j < 117 → unG s j = s.A (s.ac - 1) j := fun j hj => by
      unfold unG
      by_cases y : 10 ≤ j ∧ j < 95
      · rw [if_pos y]
      · rw [if_neg y, a5 j (by omega)]
    have n : ∀ j, 117 ≤ j → unG s j = s.g j := fun j hj => by unfold unG; rw [if_neg (by omega)]
    have t : told s.g (unG s) := fun j hj => by rw [e j (by omega)]; exact a5 j hj
    have es : sm (unG s) 148 = sm (s.A (s.ac - 1)) 148 := sm_congr 148 (fun j hj hp => e j (by unfold pc at hp; omega))
    have w' : Wg (unG s) := by
      obtain ⟨⟨wc, x1, x2, x3, x4⟩, x5⟩ := a1
      refine ⟨⟨wc.of (fun j hj => e j (by omega)), fun z hz => ?_, fun p hp => ?_, ?_, by rw [es]; exact x4⟩, fun z hz => ?_⟩
      · rw [e _ (by omega), e (47 + 8 * z + 1) (by omega), e (47 + 8 * z + 2) (by omega), e 3 (by omega), e 2 (by omega)]; exact x1 z hz
      · rw [e _ (by omega), e 2 (by omega)]; exact x2 p hp
      · rw [e _ (by omega), e 4 (by omega)]; exact x3
      · rw [e _ (by omega), e _ (by omega)]; exact x5 z hz
    have w2 : WS B (sActs s s.A (s.ac - 1)) := ⟨w.1, w.2.1, w.2.2.1, w.2.2.2.1, ⟨by show s.ac - 1 ≤ 20; have := w.2.2.2.2.1.1; omega, fun i hi => by have hi : i < s.ac - 1 := hi; exact w.2.2.2.2.1.2 i (by omega)⟩, w.2.2.2.2.2⟩
    exact w2.now (w.1.of w' t (fun j h _ => n j h) (by omega) (by rw [e _ (by omega)]; exact a3)) t
theorem ws_Force (w : WS B s) (r : Int32) : WS B (nForce s r) := by
  unfold nForce
  by_cases z : r = -nI 1 ∨ (0 ≤ r.toInt ∧ r.toInt < (s.nr : Int))
  · rw [if_pos z]
    refine ⟨w.1, w.2.1, w.2.2.1, ⟨fun k hk => ?_, w.2.2.2.1.2⟩, w.2.2.2.2⟩
    have hk : toO r = some k := hk
    unfold toO at hk
    by_cases u : r = -nI 1
    · rw [if_pos u] at hk; exact absurd hk (by simp)
    · rw [if_neg u] at hk
      have zz := z.resolve_left u
      obtain ⟨n, rfl, h1, h2⟩ := i_nat zz.1
      rw [nI_clamp h2] at hk
      have hk : n = k := by injection hk
      show k < s.nr
      rw [nI_toInt (by omega)] at zz
      omega
  · rw [if_neg z]; exact w
theorem ws_Seed (w : WS B s) (x : Int32) : WS B (nSeed s x) := by
  unfold nSeed
  by_cases z : 0 ≤ x.toInt
  · rw [if_pos z]
    obtain ⟨n, rfl, h1, h2⟩ := i_nat z
    rw [nI_clamp h2]
    exact ⟨w.1, w.2.1, w.2.2.1, ⟨w.2.2.2.1.1, h2⟩, w.2.2.2.2⟩
  · rw [if_neg z]; exact w
theorem ws_Note (w : WS B s) (n p m : Int32) : WS B (nNote s n p m) := by
  have h25 : s.g 2 ≤ 5 := w.1.1.1.1.1.2.2.2.2.1
  obtain ⟨wg, wt, wn, hsm, hd, hlt⟩ := w.1
  have w10 := wn.1
  have cell : ∀ {g : Nat → Nat} (k v : Nat), Wg g → 117 ≤ k → k < 148 → Wg (gup g k v) := fun k v w h1 h2 => w.cell (by unfold pc; omega) h2 (Or.inr (Or.inl h1))
  unfold nNote
  by_cases z : n = -nI 1
  · rw [if_pos z]
    have t : told s.g (gup s.g 147 0) := fun j hj => gup_ne _ _ (by omega)
    refine w.now ⟨cell _ _ wg (by omega) (by omega), wt.of t, ⟨by rw [gup_eq]; omega, fun i hi => by rw [gup_eq] at hi; omega⟩, by rw [sm_gup_out (by unfold pc; omega)]; exact hsm, by rw [gup_ne _ _ (by omega)]; exact hd, fun k hk => ?_⟩ t
    unfold gup
    split
    · omega
    · exact hlt k hk
  · rw [if_neg z]
    by_cases q : rg n 0 60 ∧ isP s.g p ∧ rg m 0 300 ∧ s.g 147 ≠ 10
    · rw [if_pos q]
      obtain ⟨q1, q2, q3, q4⟩ := q
      obtain ⟨n', rfl, n1, n2⟩ := rg_nat q1
      obtain ⟨p', rfl, p1⟩ := isP_nat q2
      obtain ⟨m', rfl, m1, m2⟩ := rg_nat q3
      rw [nI_clamp (show n' < 2 ^ 31 by omega), nI_clamp (show p' < 2 ^ 31 by omega), nI_clamp (show m' < 2 ^ 31 by omega)]
      have lo : ∀ j, j < 117 → noG s.g n' p' m' j = s.g j := fun j hj => by unfold noG; rw [gup_ne _ _ (by omega), gup_ne _ _ (by omega), gup_ne _ _ (by omega), gup_ne _ _ (by omega)]
      have t : told s.g (noG s.g n' p' m') := fun j hj => lo j (by omega)
      refine w.now ⟨cell _ _ (cell _ _ (cell _ _ (cell _ _ wg (by omega) (by omega)) (by omega) (by omega)) (by omega) (by omega)) (by omega) (by omega), wt.of t, ⟨?_, fun i hi => ?_⟩, ?_, by rw [lo _ (by omega)]; exact hd, fun k hk => ?_⟩ t
      · show noG s.g n' p' m' 147 ≤ 10
        unfold noG; rw [gup_eq]; omega
      · rw [show noG s.g n' p' m' 147 = s.g 147 + 1 by unfold noG; rw [gup_eq]] at hi
        rw [lo 2 (by omega)]
        unfold noG
        by_cases y : i = s.g 147
        · subst y
          rw [gup_ne (j := 117 + 3 * s.g 147) (k := 147) _ _ (by omega), gup_ne (j := 117 + 3 * s.g 147) (k := 117 + 3 * s.g 147 + 2) _ _ (by omega), gup_ne (j := 117 + 3 * s.g 147) (k := 117 + 3 * s.g 147 + 1) _ _ (by omega), gup_eq, gup_ne (j := 117 + 3 * s.g 147 + 1) (k := 147) _ _ (by omega), gup_ne (j := 117 + 3 * s.g 147 + 1) (k := 117 + 3 * s.g 147 + 2) _ _ (by omega), gup_eq, gup_ne (j := 117 + 3 * s.g 147 + 2) (k := 147) _ _ (by omega), gup_eq]
          exact ⟨n2, p1, m2⟩
        · have hi : i < s.g 147 := by omega
          have o : ∀ j, j = 117 + 3 * i ∨ j = 117 + 3 * i + 1 ∨ j = 117 + 3 * i + 2 → gup (gup (gup (gup s.g (117 + 3 * s.g 147) n') (117 + 3 * s.g 147 + 1) p') (117 + 3 * s.g 147 + 2) m') 147 (s.g 147 + 1) j = s.g j := fun j hj => by rw [gup_ne _ _ (by omega), gup_ne _ _ (by omega), gup_ne _ _ (by omega), gup_ne _ _ (by omega)]
          rw [o _ (Or.inl rfl), o _ (Or.inr (Or.inl rfl)), o _ (Or.inr (Or.inr rfl))]
          exact wn.2 i hi
      · unfold noG
        rw [sm_gup_out (by unfold pc; omega), sm_gup_out (by unfold pc; omega), sm_gup_out (by unfold pc; omega), sm_gup_out (by unfold pc; omega)]; exact hsm
      · unfold noG gup
        split
        · omega
        · split
          · omega
          · split
            · omega
            · split
              · omega
              · exact hlt k hk
    · rw [if_neg q]; exact w
theorem ws_End (w : WS B s) (n : Int32) : WS B (nEnd s n) := by
  unfold nEnd
  by_cases z : rg n 0 s.tl
  · rw [if_pos z]
    obtain ⟨n', rfl, n1, n2⟩ := rg_nat z
    have l4 := w.2.1.1
    rw [nI_clamp (show n' < 2 ^ 31 by omega)]
    exact ⟨w.1, ⟨by show n' ≤ 400; omega, fun i hi => w.2.1.2 i (Nat.lt_of_lt_of_le hi n2)⟩, w.2.2⟩
  · rw [if_neg z]; exact w
theorem mjB_mjB (x : Int32) : mjB (mjB x) = mjB x := by unfold mjB; simp
theorem tb4_ok {tb : Nat → Int32} {tl : Nat} (o : ∀ i, i < tl → mjB (tb i) = tb i) (v : Int32) : ∀ i, i < tl + 4 → mjB (tb4 tb tl v i) = tb4 tb tl v i := by
  intro i hi
  unfold tb4
  by_cases z3 : i = tl + 3
  · rw [if_pos z3]; exact mjB_mjB _
  · rw [if_neg z3]
    by_cases z2 : i = tl + 2
    · rw [if_pos z2]; exact mjB_mjB _
    · rw [if_neg z2]
      by_cases z1 : i = tl + 1
      · rw [if_pos z1]; exact mjB_mjB _
      · rw [if_neg z1]
        by_cases z0 : i = tl
        · rw [if_pos z0]; exact mjB_mjB _
        · rw [if_neg z0]; exact o i (by omega)
theorem ws_Feed (w : WS B s) (a b c d e : Int32) : WS B (nFeed s a b c d e) := by
  unfold nFeed
  by_cases z : s.tl ≤ 380
  · rw [if_pos z]
    exact ⟨w.1, ⟨by show s.tl + 20 ≤ 400; omega, tb4_ok (tb4_ok (tb4_ok (tb4_ok (tb4_ok w.2.1.2 a) b) c) d) e⟩, w.2.2⟩
  · rw [if_neg z]; exact w
theorem ws_Image (w : WS B s) (k : Int32) : WS B (nImage s k) := by
  unfold nImage
  by_cases z : rg k 0 3
  · rw [if_pos z]
    refine ⟨w.1, w.2.1, w.2.2.1, w.2.2.2.1, w.2.2.2.2.1, fun j hj hm => ?_⟩
    have hm : (if j = k.toNatClampNeg then true else s.im j) = true := hm
    show okG B (if j = k.toNatClampNeg then s.g else s.ig j) ∧ (∀ i, (if j = k.toNatClampNeg then (s.fo, s.x) else s.ik j).1 = some i → i < s.nr) ∧ (if j = k.toNatClampNeg then (s.fo, s.x) else s.ik j).2 < 2147483648
    by_cases y : j = k.toNatClampNeg
    · rw [if_pos y, if_pos y]; exact ⟨w.1, w.2.2.2.1.1, w.2.2.2.1.2⟩
    · rw [if_neg y] at hm
      rw [if_neg y, if_neg y]; exact w.2.2.2.2.2 j hj hm
  · rw [if_neg z]; exact w
theorem ws_Back (w : WS B s) (k : Int32) : WS B (nBack s k) := by
  unfold nBack
  by_cases z : rg k 0 3 ∧ s.im k.toNatClampNeg = true
  · rw [if_pos z]
    obtain ⟨n, rfl, n1, n2⟩ := rg_nat z.1
    have cn : (nI n).toNatClampNeg = n := nI_clamp (by omega)
    rw [cn] at z ⊢
    have o := w.2.2.2.2.2 n (by omega) z.2
    exact ⟨o.1, w.2.1, w.2.2.1, o.2, ⟨by show 0 ≤ 20; omega, fun i hi => absurd hi (Nat.not_lt_zero i)⟩, w.2.2.2.2.2⟩
  · rw [if_neg z]; exact w
end WK
