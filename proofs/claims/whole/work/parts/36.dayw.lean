/-! A day keeps what holds of a field -/
/-- who is under way has days left -/
def Wl (g : Nat → Nat) : Prop := ∀ s, s < 6 → g (47 + 8 * s) ≠ 0 → 1 ≤ g (47 + 8 * s + 2)
def Wg (g : Nat → Nat) : Prop := Wb g ∧ Wl g
theorem Wl.of {g g' : Nat → Nat} {s : Nat} (w : Wl g) (h : ∀ z, z < 6 → z ≠ s → g' (47 + 8 * z) = g (47 + 8 * z) ∧ g' (47 + 8 * z + 2) = g (47 + 8 * z + 2)) (hs : g' (47 + 8 * s) ≠ 0 → 1 ≤ g' (47 + 8 * s + 2)) : Wl g' := by
  intro z hz hn
  by_cases e : z = s
  · subst e; exact hs hn
  · rw [(h z hz e).1] at hn
    rw [(h z hz e).2]
    exact w z hz hn
theorem gout_at (g : Nat → Nat) (s j : Nat) : gout g s j = if j = 47 + 8 * s + 2 then g 1 else if j = 47 + 8 * s then 1 else g j := rfl
theorem gsp_at (g : Nat → Nat) (s a b c j : Nat) : gsp g s a b c j = if j = 47 + 8 * s + 2 then c else if j = 47 + 8 * s + 1 then b else if j = 47 + 8 * s then a else g j := rfl
theorem dec_at (g : Nat → Nat) (s j : Nat) : dec g s j = if j = 47 + 8 * s + 2 then g (47 + 8 * s + 2) - 1 else g j := rfl
theorem Wb.p {g : Nat → Nat} (w : Wb g) {s : Nat} (hs : s < g 3) : s < 6 ∧ g (47 + 8 * s + 1) < g 2 ∧ g (47 + 8 * s + 1) < 5 ∧ g 2 ≤ 5 ∧ g (47 + 8 * s + 2) ≤ 9 := by
  have h36 : g 3 ≤ 6 := w.1.1.2.2.2.2.2.1
  have h25 : g 2 ≤ 5 := w.1.1.2.2.2.2.1
  have h := w.2.1 s (by omega)
  have := h.2.2.2.1 hs
  exact ⟨by omega, this, by omega, h25, h.2.2.1⟩
theorem Wb.gout {g : Nat → Nat} (w : Wb g) {s : Nat} (hs : s < g 3) : Wb (gout g s) := by
  have hf := w.far (by omega)
  have hp := w.p hs
  refine w.spider hs (fun j _ a b c => by rw [gout_at, if_neg c, if_neg a]) (by rw [gout_at, if_neg (by omega), if_pos rfl]; omega) (by rw [gout_at, if_neg (by omega), if_neg (by omega)]; exact hp.2.1) (by rw [gout_at, if_pos rfl]; exact hf.2.1)
theorem Wb.gsp {g : Nat → Nat} (w : Wb g) {s a b c : Nat} (hs : s < g 3) (ha : a ≤ 2) (hb : b < g 2) (hc : c ≤ 9) : Wb (gsp g s a b c) := by
  refine w.spider hs (fun j _ a b c => by rw [gsp_at, if_neg c, if_neg b, if_neg a]) (by rw [gsp_at, if_neg (by omega), if_neg (by omega), if_pos rfl]; exact ha) (by rw [gsp_at, if_neg (by omega), if_pos rfl]; exact hb) (by rw [gsp_at, if_pos rfl]; exact hc)
theorem Wb.dec {g : Nat → Nat} (w : Wb g) {s : Nat} (hs : s < g 3) : Wb (dec g s) := by
  have hp := w.p hs
  have h := w.2.1 s (by omega)
  refine w.spider hs (fun j _ a b c => by rw [dec_at, if_neg c]) (by rw [dec_at, if_neg (by omega)]; exact h.1) (by rw [dec_at, if_neg (by omega)]; exact hp.2.1) (by rw [dec_at, if_pos rfl]; omega)
/-- no day changes what was told -/
def Kc (g g' : Nat → Nat) : Prop := ∀ j, j < 11 ∨ (95 ≤ j ∧ j < 148) ∨ (37 ≤ j ∧ j < 42) → g' j = g j
theorem Kc.rf {g : Nat → Nat} : Kc g g := fun _ _ => rfl
theorem Kc.tr {g g1 g2 : Nat → Nat} (a : Kc g g1) (b : Kc g1 g2) : Kc g g2 := fun j hj => (b j hj).trans (a j hj)
theorem Kc.mvs {g : Nat → Nat} {n a t : Nat} (ha : bk a) (ht : t = 0 ∨ bk t) : Kc g (mvs n g a t) := fun j hj => mvs_npc n g ha ht (by unfold pc; omega)
theorem Kc.gout {g : Nat → Nat} {s : Nat} (hs : s < 6) : Kc g (gout g s) := fun j hj => by rw [gout_at, if_neg (by omega), if_neg (by omega)]
theorem Kc.gsp {g : Nat → Nat} {s a b c : Nat} (hs : s < 6) : Kc g (gsp g s a b c) := fun j hj => by rw [gsp_at, if_neg (by omega), if_neg (by omega), if_neg (by omega)]
theorem Kc.dec {g : Nat → Nat} {s : Nat} (hs : s < 6) : Kc g (dec g s) := fun j hj => by rw [dec_at, if_neg (by omega)]
theorem Kc.gup {g : Nat → Nat} {k v : Nat} (hk : (11 ≤ k ∧ k < 37) ∨ (42 ≤ k ∧ k < 95)) : Kc g (gup g k v) := fun j hj => gup_ne _ _ (by omega)
theorem bk_p {p : Nat} (h : p < 5) : bk (12 + 5 * p) := by unfold bk; omega
theorem bk_s {s : Nat} (h : s < 6) : bk (47 + 8 * s + 3) := by unfold bk; omega
theorem bk_h : bk 42 := Or.inl (Or.inl rfl)
theorem Wl.mvs {g : Nat → Nat} (w : Wl g) {n a t : Nat} (ha : bk a) (ht : t = 0 ∨ bk t) : Wl (mvs n g a t) := by
  intro s hs hn
  rw [mvs_npc n g ha ht (by unfold pc; omega)] at hn ⊢
  exact w s hs hn
theorem Wl.gout {g : Nat → Nat} (w : Wl g) {s : Nat} (h : 1 ≤ g 1) : Wl (gout g s) := by
  refine w.of (s := s) (fun z hz hn => ⟨by rw [gout_at, if_neg (by omega), if_neg (by omega)], by rw [gout_at, if_neg (by omega), if_neg (by omega)]⟩) (fun _ => by rw [gout_at, if_pos rfl]; exact h)
theorem st_keeps {L : (Nat → Nat) → Nat → Bool} {g : Nat → Nat} (w : Wg g) {s : Nat} (hs : s < g 3) : Wg (stF L g s) ∧ Kc g (stF L g s) := by
  have hp := w.1.p hs
  have hf := w.1.far (by omega)
  unfold stF
  split
  · exact ⟨⟨w.1.gout hs, w.2.gout hf.1⟩, Kc.gout hp.1⟩
  · split
    · exact ⟨w, Kc.rf⟩
    · split
      · have ha := bk_p hp.2.2.1
        have ht := bk_s hp.1
        have k1 : Kc g (mvs (g (95 + s)) g (12 + 5 * g (47 + 8 * s + 1)) (47 + 8 * s + 3)) := Kc.mvs ha (Or.inr ht)
        have w1 := w.1.mvs (g (95 + s)) ha (Or.inr ht) (by omega)
        exact ⟨⟨w1.gout (by rw [k1 3 (by omega)]; exact hs), (w.2.mvs ha (Or.inr ht)).gout (by rw [k1 1 (by omega)]; exact hf.1)⟩, k1.tr (Kc.gout hp.1)⟩
      · exact ⟨w, Kc.rf⟩
theorem th_keeps {g : Nat → Nat} (w : Wb g) {s : Nat} (hl : ∀ z, z < 6 → z ≠ s → g (47 + 8 * z) ≠ 0 → 1 ≤ g (47 + 8 * z + 2)) (hs : s < g 3) : Wg (thF g s) ∧ Kc g (thF g s) := by
  have hp := w.p hs
  have hf := w.far (by omega)
  have ht := bk_s hp.1
  have k1 : Kc g (mvs (five g (47 + 8 * s + 3)) g (47 + 8 * s + 3) 42) := Kc.mvs ht (Or.inr bk_h)
  have w1 := w.mvs (five g (47 + 8 * s + 3)) ht (Or.inr bk_h) (by omega)
  have hl1 : ∀ b, Wl (gsp (mvs (five g (47 + 8 * s + 3)) g (47 + 8 * s + 3) 42) s 2 b (g 1)) := by
    intro b z hz hn
    by_cases e : z = s
    · subst e; rw [gsp_at, if_pos rfl]; exact hf.1
    · rw [gsp_at, if_neg (by omega), if_neg (by omega), if_neg (by omega), mvs_npc _ _ ht (Or.inr bk_h) (by unfold pc; omega)] at hn ⊢
      exact hl z hz e hn
  unfold thF
  split
  · exact ⟨⟨w1.gsp (by rw [k1 3 (by omega)]; exact hs) (by omega) (by rw [k1 2 (by omega)]; exact glds_lt hf.2.2.1) hf.2.1, hl1 _⟩, k1.tr (Kc.gsp hp.1)⟩
  · rename_i hn
    have w2 := w1.gsp (s := s) (a := 2) (b := lier g (g 2) 0) (c := g 1) (by rw [k1 3 (by omega)]; exact hs) (by omega) (by rw [k1 2 (by omega)]; exact lier_lt hp.2.2.2.1 hn) hf.2.1
    exact ⟨⟨w2.mvs _ bk_h (Or.inr ht) (by omega), (hl1 _).mvs bk_h (Or.inr ht)⟩, (k1.tr (Kc.gsp hp.1)).tr (Kc.mvs bk_h (Or.inr ht))⟩
theorem ho_keeps {g : Nat → Nat} (w : Wb g) {s : Nat} (hl : ∀ z, z < 6 → z ≠ s → g (47 + 8 * z) ≠ 0 → 1 ≤ g (47 + 8 * z + 2)) (hs : s < g 3) : Wg (hoF g s) ∧ Kc g (hoF g s) := by
  have hp := w.p hs
  have ha := bk_p hp.2.2.1
  have ht := bk_s hp.1
  have k1 : Kc g (mvs (five g (47 + 8 * s + 3)) g (47 + 8 * s + 3) (12 + 5 * g (47 + 8 * s + 1))) := Kc.mvs ht (Or.inr ha)
  have w1 := w.mvs (five g (47 + 8 * s + 3)) ht (Or.inr ha) (by omega)
  have hp1 := w1.p (s := s) (by rw [k1 3 (by omega)]; exact hs)
  unfold hoF
  refine ⟨⟨w1.spider (s := s) (by rw [k1 3 (by omega)]; exact hs) (fun j _ a _ _ => gup_ne _ _ a) (by rw [gup_eq]; omega) (by rw [gup_ne _ _ (by omega)]; exact hp1.2.1) (by rw [gup_ne _ _ (by omega)]; exact hp1.2.2.2.2), fun z hz hn => ?_⟩, k1.tr (Kc.gup (by omega))⟩
  by_cases e : z = s
  · subst e; rw [gup_eq] at hn; exact absurd rfl hn
  · rw [gup_ne _ _ (by omega), mvs_npc _ _ ht (Or.inr ha) (by unfold pc; omega)] at hn ⊢
    exact hl z hz e hn
theorem ru_keeps {L : (Nat → Nat) → Nat → Bool} {g : Nat → Nat} (w : Wg g) {s : Nat} (hs : s < g 3) : Wg (ruF L g s) ∧ Kc g (ruF L g s) := by
  have hp := w.1.p hs
  unfold ruF
  split
  · exact st_keeps w hs
  · have wd := w.1.dec hs
    have kd : Kc g (dec g s) := Kc.dec hp.1
    have hl : ∀ z, z < 6 → z ≠ s → dec g s (47 + 8 * z) ≠ 0 → 1 ≤ dec g s (47 + 8 * z + 2) := by
      intro z hz e hn
      rw [dec_at, if_neg (by omega)] at hn ⊢
      exact w.2 z hz hn
    have hs' : s < dec g s 3 := by rw [kd 3 (by omega)]; exact hs
    split
    · exact ⟨⟨wd, fun z hz hn => by
        by_cases e : z = s
        · subst e; rw [dec_at, if_pos rfl]; omega
        · exact hl z hz e hn⟩, kd⟩
    · split
      · have := th_keeps wd hl hs'
        exact ⟨this.1, kd.tr this.2⟩
      · have := ho_keeps wd hl hs'
        exact ⟨this.1, kd.tr this.2⟩
theorem runs_keeps {L : (Nat → Nat) → Nat → Bool} : ∀ (n s : Nat) (g : Nat → Nat), Wg g → s + n ≤ g 3 → Wg (runs L n s g) ∧ Kc g (runs L n s g) := by
  intro n
  induction n with
  | zero => intro s g w _; exact ⟨w, Kc.rf⟩
  | succ n ih =>
    intro s g w h
    have h1 := ru_keeps (L := L) w (s := s) (by omega)
    have h2 := ih (s + 1) (ruF L g s) h1.1 (by rw [h1.2 3 (by omega)]; omega)
    exact ⟨h2.1, h1.2.tr h2.2⟩
theorem Wg.cell {g : Nat → Nat} (w : Wg g) {k v : Nat} (hk : ¬ pc k) (h2 : k < 148) (h3 : k = 10 ∨ 117 ≤ k ∨ (k = 11 ∧ v ≤ g 4)) : Wg (gup g k v) := by
  obtain ⟨⟨wc, a, b, c, d⟩, e⟩ := w
  refine ⟨⟨wc.of (fun j hj => gup_ne _ _ (by omega)), fun s hs => ?_, fun p hp => ?_, ?_, ?_⟩, fun s hs => ?_⟩
  · rw [gup_ne _ _ (by omega), gup_ne _ _ (by omega), gup_ne _ _ (by omega), gup_ne _ _ (by omega), gup_ne _ _ (by omega)]; exact a s hs
  · rw [gup_ne _ _ (by omega), gup_ne _ _ (by omega)]; exact b p hp
  · rw [gup_ne (j := 4) _ _ (by omega)]
    unfold gup
    split <;> omega
  · rw [sm_gup_out hk]; exact d
  · rw [gup_ne _ _ (by omega), gup_ne _ _ (by omega)]; exact e s hs
theorem bu_keeps {g : Nat → Nat} (w : Wg g) : Wg (buF g) ∧ Kc g (buF g) := by
  unfold buF
  split
  · rename_i h
    have k1 : Kc g (mvs (g (101 + g 11)) g 42 0) := Kc.mvs bk_h (Or.inl rfl)
    have w1 : Wg (mvs (g (101 + g 11)) g 42 0) := ⟨w.1.mvs _ bk_h (Or.inl rfl) (by omega), w.2.mvs bk_h (Or.inl rfl)⟩
    exact ⟨w1.cell (by decide) (by omega) (Or.inr (Or.inr ⟨rfl, by rw [k1 4 (by omega)]; omega⟩)), k1.tr (Kc.gup (by omega))⟩
  · exact ⟨w, Kc.rf⟩
/-- the same for a whole day -/
def Kd (g g' : Nat → Nat) : Prop := ∀ j, j < 10 ∨ (95 ≤ j ∧ j < 148) ∨ (37 ≤ j ∧ j < 42) → g' j = g j
theorem Kd.rf {g : Nat → Nat} : Kd g g := fun _ _ => rfl
theorem Kd.tr {g g1 g2 : Nat → Nat} (a : Kd g g1) (b : Kd g1 g2) : Kd g g2 := fun j hj => (b j hj).trans (a j hj)
theorem day_keeps {L : (Nat → Nat) → Nat → Bool} {g : Nat → Nat} (w : Wg g) : Wg (dayF L g) ∧ Kd g (dayF L g) ∧ dayF L g 10 = g 10 + 1 := by
  have h1 := runs_keeps (L := L) (g 3) 0 g w (by omega)
  have h2 := bu_keeps h1.1
  have h3 := h1.2.tr h2.2
  exact ⟨h2.1.cell (by decide) (by omega) (Or.inl rfl), fun j hj => (gup_ne _ _ (by omega)).trans (h3 j (by omega)), by unfold dayF; rw [gup_eq, h3 10 (by omega)]⟩
