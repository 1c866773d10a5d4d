/-! what a field's text says -/
abbrev FWd (k : Nat) : Prop := k = 128 ∨ k = 136 ∨ k = 135 ∨ k = 129
abbrev badG (G : Nat → Nat) (k : Nat) : Prop := (k = 128 ∧ G 0 ≠ 0) ∨ (k ≠ 128 ∧ (G 0 = 0 ∨ (k = 136 ∧ 5 ≤ G 2) ∨ (k = 135 ∧ 6 ≤ G 3) ∨ (k = 129 ∧ 5 ≤ G 4)))
def bnd2 {α : Type} (r : Nat ⊕ (Nat × List tok)) (K : Nat → List tok → Nat ⊕ α) : Nat ⊕ α := match r with
  | .inl f => .inl f
  | .inr v => K v.1 v.2
/-- one clause of a field -/
def fcF (tl : Nat) (G : Nat → Nat) (ts : List tok) : Nat ⊕ ((Nat → Nat) × List tok) :=
  if FWd (kd ts) then (if badG G (kd ts) then .inl (1 + 8 * pl tl ts + 4)
    else if kd ts = 128 then bnd2 (numF tl 1 9 ts.tail) fun v ts' => .inr (gup (gup G 1 v) 0 1, ts')
    else if kd ts = 136 then bnd2 (numF tl 0 60 ts.tail) fun v ts' => .inr (gup (gup G (106 + G 2) v) 2 (G 2 + 1), ts')
    else if kd ts = 135 then bnd2 (numF tl 0 ((G 2 : Int) - 1) ts.tail) fun v ts' => bnd2 (numF tl 1 9 ts') fun u ts2 => .inr (gup (gup (gup G (111 + G 3) v) (95 + G 3) u) 3 (G 3 + 1), ts2)
    else bnd2 (numF tl 1 60 ts.tail) fun v ts' => .inr (gup (gup G (101 + G 4) v) 4 (G 4 + 1), ts')) else .inl (1 + 8 * pl tl ts + 0)
def fdF (tl : Nat) : Nat → (Nat → Nat) → List tok → Nat ⊕ (Nat → Nat)
  | 0, _, ts => .inl (1 + 8 * pl tl ts + 4)
  | n + 1, G, ts => match fcF tl G ts with
    | .inl f => .inl f
    | .inr v => if kd v.2 = 1 then .inr v.1 else if kd v.2 = 59 then fdF tl n v.1 v.2.tail else .inl (1 + 8 * pl tl v.2 + 0)
/-- what was read of a field so far -/
def okN (G : Nat → Nat) : Prop := Wc G ∧ Wt G ∧ ∀ j, (5 ≤ j ∧ j < 95) ∨ 117 ≤ j → G j = 0
def nG (G : Nat → Nat) : Nat := G 0 + G 2 + G 3 + G 4
theorem okN_lt {G : Nat → Nat} (o : okN G) (k : Nat) : G k < 100 := by
  obtain ⟨⟨⟨w0, w1, w2, w3, w4, w5, w6, w7⟩, c1, c2, c3, c4⟩, wt, wz⟩ := o
  by_cases y : (5 ≤ k ∧ k < 95) ∨ 117 ≤ k
  · rw [wz k y]; omega
  · rcases (show k = 0 ∨ k = 1 ∨ k = 2 ∨ k = 3 ∨ k = 4 ∨ (95 ≤ k ∧ k < 101) ∨ (101 ≤ k ∧ k < 106) ∨ (106 ≤ k ∧ k < 111) ∨ (111 ≤ k ∧ k < 117) by omega) with z | z | z | z | z | z | z | z | z
    · subst z; omega
    · subst z; omega
    · subst z; omega
    · subst z; omega
    · subst z; omega
    · have := c1 (k - 95) (by omega); rw [show 95 + (k - 95) = k by omega] at this; omega
    · have := c2 (k - 101) (by omega); rw [show 101 + (k - 101) = k by omega] at this; omega
    · have := c3 (k - 106) (by omega); rw [show 106 + (k - 106) = k by omega] at this; omega
    · by_cases z2 : k - 111 < G 3
      · have := c4 (k - 111) z2; rw [show 111 + (k - 111) = k by omega] at this; omega
      · have := wt (k - 111) (by omega) (by omega); rw [show 111 + (k - 111) = k by omega] at this; omega
theorem numF_inr {tl lo : Nat} {mo : Int} {ts : List tok} {v : Nat × List tok} (h : numF tl lo mo ts = .inr v) : lo ≤ v.1 ∧ (v.1 : Int) ≤ mo ∧ v.2 = ts.tail ∧ kd ts = 3 := by
  unfold numF at h
  by_cases y : kd ts = 3
  · rw [if_pos y] at h
    cases hv : va ts with
    | none => rw [hv] at h; cases h
    | some w =>
      rw [hv] at h
      have h : (if lo ≤ w ∧ (w : Int) ≤ mo then (.inr (w, ts.tail) : Nat ⊕ (Nat × List tok)) else .inl (1 + 8 * pl tl ts + 1)) = .inr v := h
      by_cases z : lo ≤ w ∧ (w : Int) ≤ mo
      · rw [if_pos z] at h; cases h; exact ⟨z.1, z.2, rfl, y⟩
      · rw [if_neg z] at h; cases h
  · rw [if_neg y] at h; cases h
theorem numF_inl {tl lo : Nat} {mo : Int} {ts : List tok} {f : Nat} (h : numF tl lo mo ts = .inl f) : f = 1 + 8 * pl tl ts + 0 ∨ f = 1 + 8 * pl tl ts + 1 := by
  unfold numF at h
  by_cases y : kd ts = 3
  · rw [if_pos y] at h
    cases hv : va ts with
    | none => rw [hv] at h; cases h; exact Or.inr rfl
    | some w =>
      rw [hv] at h
      have h : (if lo ≤ w ∧ (w : Int) ≤ mo then (.inr (w, ts.tail) : Nat ⊕ (Nat × List tok)) else .inl (1 + 8 * pl tl ts + 1)) = .inl f := h
      by_cases z : lo ≤ w ∧ (w : Int) ≤ mo
      · rw [if_pos z] at h; cases h
      · rw [if_neg z] at h; cases h; exact Or.inr rfl
  · rw [if_neg y] at h; cases h; exact Or.inl rfl
theorem gat (g : Nat → Nat) (k x j : Nat) : gup g k x j = if j = k then x else g j := rfl
theorem okN_far {G : Nat → Nat} (o : okN G) (z : G 0 = 0) {v : Nat} (h1 : 1 ≤ v) (h2 : v ≤ 9) : okN (gup (gup G 1 v) 0 1) := by
  obtain ⟨⟨⟨w0, w1, w2, w3, w4, w5, w6, w7⟩, c1, c2, c3, c4⟩, wt, wz⟩ := o
  have e : ∀ j, 2 ≤ j → gup (gup G 1 v) 0 1 j = G j := fun j hj => by rw [gat, if_neg (by omega), gat, if_neg (by omega)]
  have e0 : gup (gup G 1 v) 0 1 0 = 1 := by rw [gat, if_pos rfl]
  have e1 : gup (gup G 1 v) 0 1 1 = v := by rw [gat, if_neg (by omega), gat, if_pos rfl]
  refine ⟨⟨?_, fun s hs => by rw [e _ (by omega)]; exact c1 s hs, fun s hs => by rw [e _ (by omega)]; exact c2 s hs, fun s hs => by rw [e _ (by omega)]; exact c3 s hs, fun s hs => by rw [e 3 (by omega)] at hs; rw [e _ (by omega), e 2 (by omega)]; exact c4 s hs⟩, fun s hs h3 => by rw [e 3 (by omega)] at h3; rw [e _ (by omega)]; exact wt s hs h3, fun j hj => by rw [e _ (by omega)]; exact wz j hj⟩
  rw [e0, e1, e 2 (by omega), e 3 (by omega), e 4 (by omega)]
  omega
theorem okN_pers {G : Nat → Nat} (o : okN G) (z : G 0 ≠ 0) (hn : G 2 < 5) {v : Nat} (h2 : v ≤ 60) : okN (gup (gup G (106 + G 2) v) 2 (G 2 + 1)) := by
  obtain ⟨⟨⟨w0, w1, w2, w3, w4, w5, w6, w7⟩, c1, c2, c3, c4⟩, wt, wz⟩ := o
  have e : ∀ j, j ≠ 2 → j ≠ 106 + G 2 → gup (gup G (106 + G 2) v) 2 (G 2 + 1) j = G j := fun j h1 h2 => by rw [gat, if_neg h1, gat, if_neg h2]
  have e2 : gup (gup G (106 + G 2) v) 2 (G 2 + 1) 2 = G 2 + 1 := by rw [gat, if_pos rfl]
  have ep : gup (gup G (106 + G 2) v) 2 (G 2 + 1) (106 + G 2) = v := by rw [gat, if_neg (by omega), gat, if_pos rfl]
  refine ⟨⟨?_, fun s hs => by rw [e _ (by omega) (by omega)]; exact c1 s hs, fun s hs => by rw [e _ (by omega) (by omega)]; exact c2 s hs, fun s hs => ?_, fun s hs => ?_⟩, fun s hs h3 => ?_, fun j hj => by rw [e _ (by omega) (by omega)]; exact wz j hj⟩
  · rw [e 0 (by omega) (by omega), e 1 (by omega) (by omega), e2, e 3 (by omega) (by omega), e 4 (by omega) (by omega)]
    omega
  · by_cases y : s = G 2
    · subst y; rw [ep]; exact h2
    · rw [e _ (by omega) (by omega)]; exact c3 s hs
  · rw [e 3 (by omega) (by omega)] at hs
    have := c4 s hs
    rw [e (111 + s) (by omega) (by omega), e2]; omega
  · rw [e 3 (by omega) (by omega)] at h3
    rw [e (111 + s) (by omega) (by omega)]; exact wt s hs h3
theorem okN_spid {G : Nat → Nat} (o : okN G) (z : G 0 ≠ 0) (hn : G 3 < 6) {v u : Nat} (h1 : (v : Int) ≤ (G 2 : Int) - 1) (h2 : u ≤ 9) : okN (gup (gup (gup G (111 + G 3) v) (95 + G 3) u) 3 (G 3 + 1)) := by
  obtain ⟨⟨⟨w0, w1, w2, w3, w4, w5, w6, w7⟩, c1, c2, c3, c4⟩, wt, wz⟩ := o
  have e : ∀ j, j ≠ 3 → j ≠ 111 + G 3 → j ≠ 95 + G 3 → gup (gup (gup G (111 + G 3) v) (95 + G 3) u) 3 (G 3 + 1) j = G j := fun j h1 h2 h3 => by rw [gat, if_neg h1, gat, if_neg h3, gat, if_neg h2]
  have e3 : gup (gup (gup G (111 + G 3) v) (95 + G 3) u) 3 (G 3 + 1) 3 = G 3 + 1 := by rw [gat, if_pos rfl]
  have ev : gup (gup (gup G (111 + G 3) v) (95 + G 3) u) 3 (G 3 + 1) (111 + G 3) = v := by rw [gat, if_neg (by omega), gat, if_neg (by omega), gat, if_pos rfl]
  have eu : gup (gup (gup G (111 + G 3) v) (95 + G 3) u) 3 (G 3 + 1) (95 + G 3) = u := by rw [gat, if_neg (by omega), gat, if_pos rfl]
  refine ⟨⟨?_, fun s hs => ?_, fun s hs => by rw [e _ (by omega) (by omega) (by omega)]; exact c2 s hs, fun s hs => by rw [e _ (by omega) (by omega) (by omega)]; exact c3 s hs, fun s hs => ?_⟩, fun s hs h3 => ?_, fun j hj => by rw [e _ (by omega) (by omega) (by omega)]; exact wz j hj⟩
  · rw [e 0 (by omega) (by omega) (by omega), e 1 (by omega) (by omega) (by omega), e 2 (by omega) (by omega) (by omega), e3, e 4 (by omega) (by omega) (by omega)]
    omega
  · by_cases y : s = G 3
    · subst y; rw [eu]; exact h2
    · rw [e _ (by omega) (by omega) (by omega)]; exact c1 s hs
  · rw [e3] at hs
    rw [e 2 (by omega) (by omega) (by omega)]
    by_cases y : s = G 3
    · subst y; rw [ev]; omega
    · rw [e _ (by omega) (by omega) (by omega)]; exact c4 s (by omega)
  · rw [e3] at h3
    rw [e _ (by omega) (by omega) (by omega)]; exact wt s hs (by omega)
theorem okN_work {G : Nat → Nat} (o : okN G) (z : G 0 ≠ 0) (hn : G 4 < 5) {v : Nat} (h2 : v ≤ 60) : okN (gup (gup G (101 + G 4) v) 4 (G 4 + 1)) := by
  obtain ⟨⟨⟨w0, w1, w2, w3, w4, w5, w6, w7⟩, c1, c2, c3, c4⟩, wt, wz⟩ := o
  have e : ∀ j, j ≠ 4 → j ≠ 101 + G 4 → gup (gup G (101 + G 4) v) 4 (G 4 + 1) j = G j := fun j h1 h2 => by rw [gat, if_neg h1, gat, if_neg h2]
  have e4 : gup (gup G (101 + G 4) v) 4 (G 4 + 1) 4 = G 4 + 1 := by rw [gat, if_pos rfl]
  have ew : gup (gup G (101 + G 4) v) 4 (G 4 + 1) (101 + G 4) = v := by rw [gat, if_neg (by omega), gat, if_pos rfl]
  refine ⟨⟨?_, fun s hs => by rw [e _ (by omega) (by omega)]; exact c1 s hs, fun s hs => ?_, fun s hs => by rw [e _ (by omega) (by omega)]; exact c3 s hs, fun s hs => ?_⟩, fun s hs h3 => ?_, fun j hj => by rw [e _ (by omega) (by omega)]; exact wz j hj⟩
  · rw [e 0 (by omega) (by omega), e 1 (by omega) (by omega), e 2 (by omega) (by omega), e 3 (by omega) (by omega), e4]
    omega
  · by_cases y : s = G 4
    · subst y; rw [ew]; exact h2
    · rw [e _ (by omega) (by omega)]; exact c2 s hs
  · rw [e 3 (by omega) (by omega)] at hs
    rw [e (111 + s) (by omega) (by omega), e 2 (by omega) (by omega)]; exact c4 s hs
  · rw [e 3 (by omega) (by omega)] at h3
    rw [e (111 + s) (by omega) (by omega)]; exact wt s hs h3
theorem bnd2_inr {α : Type} {r : Nat ⊕ (Nat × List tok)} {K : Nat → List tok → Nat ⊕ α} {x : α} (h : bnd2 r K = .inr x) : ∃ v, r = .inr v ∧ K v.1 v.2 = .inr x := by
  cases r with
  | inl f => cases h
  | inr v => exact ⟨v, rfl, h⟩
theorem fcF_ok {tl : Nat} {G : Nat → Nat} {ts : List tok} {w : (Nat → Nat) × List tok} (o : okN G) (ok : okT tl ts) (h : fcF tl G ts = .inr w) : okN w.1 ∧ w.1 0 = 1 ∧ nG w.1 = nG G + 1 ∧ okT tl w.2 := by
  have w01 : G 0 ≤ 1 := o.1.1.1
  unfold fcF at h
  by_cases y : FWd (kd ts)
  · rw [if_pos y] at h
    by_cases b : badG G (kd ts)
    · rw [if_pos b] at h; cases h
    · rw [if_neg b] at h
      by_cases y1 : kd ts = 128
      · rw [if_pos y1] at h
        obtain ⟨v, e, h⟩ := bnd2_inr h
        cases h
        obtain ⟨a1, a2, a3, -⟩ := numF_inr e
        have z : G 0 = 0 := by unfold badG at b; omega
        refine ⟨okN_far o z a1 (by omega), by show gup (gup G 1 v.1) 0 1 0 = 1; rw [gat, if_pos rfl], ?_, by rw [a3]; exact ok.tail.tail⟩
        show gup (gup G 1 v.1) 0 1 0 + gup (gup G 1 v.1) 0 1 2 + gup (gup G 1 v.1) 0 1 3 + gup (gup G 1 v.1) 0 1 4 = G 0 + G 2 + G 3 + G 4 + 1
        have e2 : ∀ j, 2 ≤ j → gup (gup G 1 v.1) 0 1 j = G j := fun j hj => by rw [gat, if_neg (by omega), gat, if_neg (by omega)]
        rw [e2 2 (by omega), e2 3 (by omega), e2 4 (by omega), gat, if_pos rfl]; omega
      · rw [if_neg y1] at h
        have z : G 0 ≠ 0 := by unfold badG at b; omega
        by_cases y2 : kd ts = 136
        · rw [if_pos y2] at h
          obtain ⟨v, e, h⟩ := bnd2_inr h
          cases h
          obtain ⟨a1, a2, a3, -⟩ := numF_inr e
          have hn : G 2 < 5 := by unfold badG at b; omega
          have e2 : ∀ j, j ≠ 2 → j ≠ 106 + G 2 → gup (gup G (106 + G 2) v.1) 2 (G 2 + 1) j = G j := fun j h1 h2 => by rw [gat, if_neg h1, gat, if_neg h2]
          refine ⟨okN_pers o z hn (by omega), ?_, ?_, by rw [a3]; exact ok.tail.tail⟩
          · show gup (gup G (106 + G 2) v.1) 2 (G 2 + 1) 0 = 1
            rw [e2 0 (by omega) (by omega)]; omega
          · show gup (gup G (106 + G 2) v.1) 2 (G 2 + 1) 0 + gup (gup G (106 + G 2) v.1) 2 (G 2 + 1) 2 + gup (gup G (106 + G 2) v.1) 2 (G 2 + 1) 3 + gup (gup G (106 + G 2) v.1) 2 (G 2 + 1) 4 = G 0 + G 2 + G 3 + G 4 + 1
            rw [e2 0 (by omega) (by omega), e2 3 (by omega) (by omega), e2 4 (by omega) (by omega), gat, if_pos rfl]; omega
        · rw [if_neg y2] at h
          by_cases y3 : kd ts = 135
          · rw [if_pos y3] at h
            obtain ⟨v, e, h⟩ := bnd2_inr h
            obtain ⟨u, e', h⟩ := bnd2_inr h
            cases h
            obtain ⟨a1, a2, a3, -⟩ := numF_inr e
            obtain ⟨b1, b2, b3, -⟩ := numF_inr e'
            have hn : G 3 < 6 := by unfold badG at b; omega
            have e2 : ∀ j, j ≠ 3 → j ≠ 111 + G 3 → j ≠ 95 + G 3 → gup (gup (gup G (111 + G 3) v.1) (95 + G 3) u.1) 3 (G 3 + 1) j = G j := fun j h1 h2 h3 => by rw [gat, if_neg h1, gat, if_neg h3, gat, if_neg h2]
            refine ⟨okN_spid o z hn a2 (by omega), ?_, ?_, by rw [b3, a3]; exact ok.tail.tail.tail⟩
            · show gup (gup (gup G (111 + G 3) v.1) (95 + G 3) u.1) 3 (G 3 + 1) 0 = 1
              rw [e2 0 (by omega) (by omega) (by omega)]; omega
            · show gup (gup (gup G (111 + G 3) v.1) (95 + G 3) u.1) 3 (G 3 + 1) 0 + gup (gup (gup G (111 + G 3) v.1) (95 + G 3) u.1) 3 (G 3 + 1) 2 + gup (gup (gup G (111 + G 3) v.1) (95 + G 3) u.1) 3 (G 3 + 1) 3 + gup (gup (gup G (111 + G 3) v.1) (95 + G 3) u.1) 3 (G 3 + 1) 4 = G 0 + G 2 + G 3 + G 4 + 1
              rw [e2 0 (by omega) (by omega) (by omega), e2 2 (by omega) (by omega) (by omega), e2 4 (by omega) (by omega) (by omega), gat, if_pos rfl]; omega
          · rw [if_neg y3] at h
            obtain ⟨v, e, h⟩ := bnd2_inr h
            cases h
            obtain ⟨a1, a2, a3, -⟩ := numF_inr e
            have hn : G 4 < 5 := by unfold badG at b; unfold FWd at y; omega
            have e2 : ∀ j, j ≠ 4 → j ≠ 101 + G 4 → gup (gup G (101 + G 4) v.1) 4 (G 4 + 1) j = G j := fun j h1 h2 => by rw [gat, if_neg h1, gat, if_neg h2]
            refine ⟨okN_work o z hn (by omega), ?_, ?_, by rw [a3]; exact ok.tail.tail⟩
            · show gup (gup G (101 + G 4) v.1) 4 (G 4 + 1) 0 = 1
              rw [e2 0 (by omega) (by omega)]; omega
            · show gup (gup G (101 + G 4) v.1) 4 (G 4 + 1) 0 + gup (gup G (101 + G 4) v.1) 4 (G 4 + 1) 2 + gup (gup G (101 + G 4) v.1) 4 (G 4 + 1) 3 + gup (gup G (101 + G 4) v.1) 4 (G 4 + 1) 4 = G 0 + G 2 + G 3 + G 4 + 1
              rw [e2 0 (by omega) (by omega), e2 2 (by omega) (by omega), e2 3 (by omega) (by omega), gat, if_pos rfl]; omega
  · rw [if_neg y] at h; cases h
theorem okN_n {G : Nat → Nat} (o : okN G) : nG G ≤ 17 := by
  obtain ⟨⟨⟨w0, w1, w2, w3, w4, w5, w6, w7⟩, -⟩, -⟩ := o
  unfold nG; omega
def fieldF (s : gst) : Nat ⊕ (Nat → Nat) := fdF s.tl 40 (fun _ => 0) (tks s.tb s.tl)
def sField (s : gst) (g : Nat → Nat) : gst := (s.1, s.2.1, s.2.2.1, g, (s.A, 0), s.2.2.2.2.2)
def qField (s : gst) : Int32 := match fieldF s with
  | .inl f => -nI 2 - nI f
  | .inr G => nI (G 2)
def nField (s : gst) : gst := match fieldF s with
  | .inl _ => sTape s s.tb 0
  | .inr G => sField (sTape s s.tb 0) (begF G)
theorem okN_0 : okN (fun _ => 0) := by
  exact ⟨⟨⟨Nat.zero_le _, fun _ => ⟨rfl, rfl, rfl⟩, fun z => absurd z (by decide), Nat.zero_le _, Nat.zero_le _, Nat.zero_le _, Nat.zero_le _, fun _ => rfl⟩, fun s _ => Nat.zero_le _, fun s _ => Nat.zero_le _, fun s _ => Nat.zero_le _, fun s hs => absurd hs (Nat.not_lt_zero s)⟩, fun s _ _ => rfl, fun j _ => rfl⟩
theorem fdF_ok {tl : Nat} : ∀ (n : Nat) (G : Nat → Nat) (ts : List tok) (G' : Nat → Nat), okN G → okT tl ts → fdF tl n G ts = .inr G' → okN G' ∧ G' 0 = 1 := by
  intro n
  induction n with
  | zero => intro G ts G' _ _ h; cases h
  | succ n ih =>
    intro G ts G' o ok h
    have h : (match fcF tl G ts with
      | .inl f => (.inl f : Nat ⊕ (Nat → Nat))
      | .inr v => if kd v.2 = 1 then .inr v.1 else if kd v.2 = 59 then fdF tl n v.1 v.2.tail else .inl (1 + 8 * pl tl v.2 + 0)) = .inr G' := h
    cases hc : fcF tl G ts with
    | inl f => rw [hc] at h; cases h
    | inr v =>
      rw [hc] at h
      obtain ⟨a1, a2, a3, a4⟩ := fcF_ok o ok hc
      have h : (if kd v.2 = 1 then (.inr v.1 : Nat ⊕ (Nat → Nat)) else if kd v.2 = 59 then fdF tl n v.1 v.2.tail else .inl (1 + 8 * pl tl v.2 + 0)) = .inr G' := h
      by_cases z : kd v.2 = 1
      · rw [if_pos z] at h; cases h; exact ⟨a1, a2⟩
      · rw [if_neg z] at h
        by_cases z2 : kd v.2 = 59
        · rw [if_pos z2] at h; exact ih _ _ _ a1 a4.tail h
        · rw [if_neg z2] at h; cases h
theorem ws_Field {B : Nat} {s : gst} (w : WS B s) (hB : 300 ≤ B) : WS B (nField s) := by
  unfold nField
  have e0 : WS B (sTape s s.tb 0) := ⟨w.1, ⟨by show 0 ≤ 400; omega, fun i hi => absurd hi (Nat.not_lt_zero i)⟩, w.2.2⟩
  cases hf : fieldF s with
  | inl f => exact e0
  | inr G =>
    obtain ⟨o, g1⟩ := fdF_ok 40 _ _ G okN_0 (tkz_ok s.tb s.tl s.tl 0 (by omega)) hf
    have lt := okN_lt o
    have z147 : begF G 147 = 0 := by rw [begF_told (by omega)]; exact o.2.2 147 (by omega)
    refine ⟨⟨begF_w o.1 o.2.1, fun s hs h3 => ?_, ⟨?_, fun i hi => ?_⟩, Nat.le_trans (begF_sm o.1) hB, ?_, fun k hk => begF_lt (fun k _ => Nat.lt_trans (lt k) (by decide)) hk⟩, e0.2.1, e0.2.2.1, e0.2.2.2.1, ⟨by show 0 ≤ 20; omega, fun i hi => absurd hi (Nat.not_lt_zero i)⟩, e0.2.2.2.2.2⟩
    · have h3 : begF G 3 ≤ s := h3
      show begF G (111 + s) = 0
      rw [begF_told (by omega)] at h3 ⊢
      exact o.2.1 s hs h3
    · show begF G 147 ≤ 10
      rw [z147]; omega
    · have hi : i < begF G 147 := hi
      rw [z147] at hi; omega
    · show begF G 10 ≤ 999
      rw [begF_0 (by omega) (by omega) (by omega)]; omega
theorem ws_Rule {B : Nat} {s : gst} (w : WS B s) : WS B (nRule s) := by
  unfold nRule
  have e0 : WS B (sTape s s.tb 0) := ⟨w.1, ⟨by show 0 ≤ 400; omega, fun i hi => absurd hi (Nat.not_lt_zero i)⟩, w.2.2⟩
  by_cases y : s.nr = 6
  · rw [if_pos y]; exact w
  · rw [if_neg y]
    have n6 := w.2.2.1
    cases hf : ruleF s with
    | inl f => exact e0
    | inr r =>
      refine ⟨e0.1, e0.2.1, by show s.nr + 1 ≤ 6; omega, ⟨fun k hk => ?_, e0.2.2.2.1.2⟩, e0.2.2.2.2.1, fun k hk hm => ?_⟩
      · have := w.2.2.2.1.1 k hk
        show k < s.nr + 1
        omega
      · obtain ⟨o1, o2, o3⟩ := w.2.2.2.2.2 k hk hm
        exact ⟨o1, fun j hj => by have := o2 j hj; show j < s.nr + 1; omega, o3⟩
