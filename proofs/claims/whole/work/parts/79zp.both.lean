/-! as both begin; one call of both -/
def s00 : gst := ((fun _ => 0, 0), (fun _ => [], 0), (none, 0), (fun _ => 0), (fun _ _ => 0, 0), (fun _ => false), (fun _ => (none, 0)), fun _ _ => 0)
theorem begF_00 : begF (fun _ => 0) = fun _ => 0 := by
  funext j
  unfold begF
  repeat' split
  all_goals rfl
theorem ws_00 : WS 300 s00 := by
  have w := begF_w okN_0.1 okN_0.2.1
  have m := begF_sm okN_0.1
  rw [begF_00] at w m
  refine ⟨⟨w, fun s _ _ => rfl, ⟨Nat.zero_le _, fun i hi => absurd hi (Nat.not_lt_zero i)⟩, m, Nat.zero_le _, fun k _ => by show 0 < 1048576; omega⟩, ⟨Nat.zero_le _, fun i hi => absurd hi (Nat.not_lt_zero i)⟩, Nat.zero_le _, ⟨fun k hk => (by cases hk), by show 0 < 2147483648; omega⟩, ⟨Nat.zero_le _, fun i hi => absurd hi (Nat.not_lt_zero i)⟩, fun k _ hm => by cases hm⟩
theorem ws_mono {B B' : Nat} {s : gst} (hB : B ≤ B') (w : WS B s) : WS B' s := by
  obtain ⟨⟨a1, a2, a3, a4, a5, a6⟩, b, c, d, ⟨e1, e2⟩, f⟩ := w
  refine ⟨⟨a1, a2, a3, Nat.le_trans a4 hB, a5, a6⟩, b, c, d, ⟨e1, fun i hi => ?_⟩, fun k hk hm => ?_⟩
  · obtain ⟨⟨u1, u2, u3, u4⟩, u5⟩ := e2 i hi
    exact ⟨⟨u1, Nat.le_trans u2 hB, u3, u4⟩, u5⟩
  · obtain ⟨⟨v1, v2, v3, v4, v5, v6⟩, v7⟩ := f k hk hm
    exact ⟨⟨v1, v2, v3, Nat.le_trans v4 hB, v5, v6⟩, v7⟩
theorem ci_00 {H h2 h : mjS} (g : Gm H h2) (o : Old h2 h) (x : 264 ≤ mX h) : CI h s00 := by
  obtain ⟨⟨x2, z2⟩, zr, i5, ⟨t, u, sh, zh, ns⟩, ⟨fs, qs, r19⟩, -⟩ := g
  have K : ∀ a, a < 243 → mK h a = mK h2 a := fun a ha => (o a (by omega)).1
  have N : ∀ a, a < 243 → mN h a = mN h2 a := fun a ha => (o a (by omega)).2.1
  have I : ∀ a k, a < 243 → mI h a k = mI h2 a k := fun a k ha => ((o a (by omega)).2.2 k).1
  have R : ∀ a k, a < 243 → mR h a k = mR h2 a k := fun a k ha => ((o a (by omega)).2.2 k).2.2
  have gq : Gq (fun _ => False) h2 h := ⟨by omega, fun a ha => ⟨(o a ha).1, (o a ha).2.1, fun _ k => ((o a ha).2.2 k).2.2⟩⟩
  have Z : ∀ a k, 4 ≤ a → a < 243 → ¬ (a = 4 ∧ k = 5) → mI h a k = nI 0 := fun a k h1 h2 h3 => by rw [I a k h2]; exact zr a k h1 h2 h3
  refine CI.of (s := s00) (f := 14) (nx := 0) (fi := fun _ => 14) ⟨?_, ⟨fun i hi => ⟨by rw [R _ _ (by omega)]; exact (u.1 i hi).1, gq.qs (by omega) not_false (u.1 i hi).2⟩, fun k hk => ⟨by rw [R _ _ (by omega)]; exact (u.2 k hk).1, by rw [K _ (by omega)]; exact (u.2 k hk).2.1, by rw [R _ _ (by omega)]; exact (u.2 k hk).2.2.1, by rw [R _ _ (by omega)]; exact (u.2 k hk).2.2.2.1, gq.ns (by omega) not_false (u.2 k hk).2.2.2.2.1, gq.qs (by omega) not_false (u.2 k hk).2.2.2.2.2⟩⟩, ?_, ?_, gq.ns (by omega) not_false ns, x⟩ ⟨⟨⟨gq.qs (by omega) not_false qs, gq.fs (by omega) not_false fs, by rw [R _ _ (by omega)]; exact r19, by omega⟩, ⟨⟨Z _ _ (by omega) (by omega) (by omega), Z _ _ (by omega) (by omega) (by omega), Z _ _ (by omega) (by omega) (by omega), Z _ _ (by omega) (by omega) (by omega)⟩, fun p hp => Z _ _ (by omega) (by omega) (by omega), fun p hp => Z _ _ (by omega) (by omega) (by omega), fun p hp => Z _ _ (by omega) (by omega) (by omega), fun p hp => Z _ _ (by omega) (by omega) (by omega)⟩, ⟨fun o' i j tb => Z _ _ (by omega) (by unfold Tb at tb; omega) (by omega), fun s hs => Z _ _ (by omega) (by omega) (by omega), Z _ _ (by omega) (by omega) (by omega), fun k _ => by show 0 < 1048576; omega⟩⟩, ⟨Or.inl rfl, by omega⟩, Z _ _ (by omega) (by omega) (by omega), fun i hi => absurd hi (Nat.not_lt_zero i)⟩ ⟨Z _ _ (by omega) (by omega) (by omega), fun i hi => absurd hi (Nat.not_lt_zero i)⟩ ⟨Z _ _ (by omega) (by omega) (by omega), fun i hi => absurd hi (Nat.not_lt_zero i)⟩ ⟨by rw [I _ _ (by omega)]; exact i5, Z _ _ (by omega) (by omega) (by omega)⟩ ⟨Z _ _ (by omega) (by omega) (by omega), Z _ _ (by omega) (by omega) (by omega), by omega, fun i hi => absurd hi (Nat.not_lt_zero i)⟩ (fun k hk => ⟨Z _ _ (by omega) (by omega) (by omega), fun hm => by cases hm⟩)
  · unfold tSh at *
    simp (disch := omega) only [K, N, R]
    exact t
  · have q := gq.qs (q := 226) (by omega) not_false sh.2.2
    refine ⟨?_, ?_, q⟩
    · simp (disch := omega) only [K, N, R]; exact sh.1
    · simp (disch := omega) only [K, N, R]; exact sh.2.1
  · have q := gq.qs (q := 236) (by omega) not_false zh.2.2.1
    refine ⟨?_, ?_, q, ?_⟩
    · simp (disch := omega) only [K, N, R]; exact zh.1
    · simp (disch := omega) only [K, N, R]; exact zh.2.1
    · simp (disch := omega) only [K, N, R]; exact zh.2.2.2
theorem ri_00 {h : mjS} (hs : rSh h) (zr : ∀ a k, 243 ≤ a → a < 264 → ¬ (a = 243 ∧ k = 21) → mI h a k = 0) (i21 : mI h 243 21 = -nI 1) : RI h s00 := by
  have Z : ∀ a k, 243 ≤ a → a < 264 → ¬ (a = 243 ∧ k = 21) → mI h a k = nI 0 := zr
  exact RI.of (s := s00) hs (fun k _ => ⟨Z _ _ (by omega) (by omega) (by omega), by show 0 < 1048576; omega⟩) ⟨Z _ _ (by omega) (by omega) (by omega), fun i hi => absurd hi (Nat.not_lt_zero i)⟩ ⟨Z _ _ (by omega) (by omega) (by omega), Nat.zero_le _, fun i hi => absurd hi (Nat.not_lt_zero i)⟩ ⟨i21, Z _ _ (by omega) (by omega) (by omega)⟩ ⟨Z _ _ (by omega) (by omega) (by omega), fun i hi => absurd hi (Nat.not_lt_zero i)⟩ (fun k _ => ⟨Z _ _ (by omega) (by omega) (by omega), fun hm => by cases hm⟩)
/-- both, and the script -/
def JT (L B : Nat) (h : mjS) (s : gst) : Prop := CI h s ∧ RI h s ∧ WS B s ∧ mK h 1 = 30 ∧ mN h 1 = L
/-- a call of the class, then one of the reference, answer alike -/
def PR (ev : mjT) (lv L B cC cR : Nat) (as : List Value) (h : mjS) : Prop := ∃ h1 h2 q s', mjCall ev cC lv (.ref 4 :: as) h = some (.int q, h1) ∧ mjCall ev cR lv (.ref 243 :: as) h1 = some (.int q, h2) ∧ (mK h1 1 = 30 ∧ mN h1 1 = L ∧ (∀ k, mI h1 1 k = mI h 1 k) ∧ mK h1 243 = 13) ∧ JT L (B + 9) h2 s' ∧ mX h2 ≤ mX h + 5 ∧ mZ h2 ≤ mZ h + 500
section PQ
variable {ev : mjT} {lv L B : Nat} {h : mjS} {s : gst}
theorem sm1.rf' {h h' : mjS} (a : sm1 isRg h h') : sm1 isRf h h' := fun x hx => a x (Or.inr hx)
theorem PR.act (j : JT L B h s) {cC cR : Nat} {as : List Value} {q : Int32} {s' : gst} (a : ∃ h', mjCall ev cC lv (.ref 4 :: as) h = some (.int q, h') ∧ CI h' s' ∧ Cg h h') (b : ∀ h1, RI h1 s → ∃ h', mjCall ev cR lv (.ref 243 :: as) h1 = some (.int q, h') ∧ RI h' s' ∧ Fr FM h1 h') (w : WS (B + 9) s') : PR ev lv L B cC cR as h := by
  obtain ⟨c, r, w0, k1, n1⟩ := j
  obtain ⟨h1, e1, c1, g⟩ := a
  obtain ⟨g1, g2, g3, g4⟩ := g
  obtain ⟨h2, e2, r2, f2⟩ := b h1 (r.sm g1.rf')
  have o := g1 1 (Or.inl rfl)
  have r1 := r.sm g1.rf'
  refine ⟨h1, h2, q, s', e1, e2, ⟨o.1.trans k1, o.2.1.trans n1, fun k => (o.2.2 k).1, r1.1.k⟩, ⟨c1.rf f2 (fun x k hx => by unfold FM at hx; exact hx), r2, w, by rw [f2.K]; exact o.1.trans k1, by rw [f2.N]; exact o.2.1.trans n1⟩, by rw [f2.X]; exact g3, by rw [f2.Z]; exact g4⟩
theorem PR.ask (j : JT L B h s) {cC cR : Nat} {as : List Value} {q : Int32} (a : ∃ h', mjCall ev cC lv (.ref 4 :: as) h = some (.int q, h') ∧ Ft (FX h) h h') (b : ∀ h1, RI h1 s → ∃ h', mjCall ev cR lv (.ref 243 :: as) h1 = some (.int q, h') ∧ Fr FE2 h1 h' ∧ V h' s.g ∧ mI h' 243 21 = mI h1 243 21) : PR ev lv L B cC cR as h := by
  obtain ⟨c, r, w0, k1, n1⟩ := j
  obtain ⟨h1, e1, f1⟩ := a
  have r1 : RI h1 s := r.sm (f1.sm1 (fun x k hx => by unfold isRf at hx; unfold FX; omega))
  have c1 : CI h1 s := c.fx f1
  obtain ⟨h2, e2, f2, v2, i2⟩ := b h1 r1
  refine ⟨h1, h2, q, s, e1, e2, ⟨by rw [f1.K]; exact k1, by rw [f1.N]; exact n1, fun k => f1.I (by unfold FX; omega), r1.1.k⟩, ⟨c1.rf f2 (fun x k hx => by unfold FE2 FE at hx; omega), r1.fe f2 v2 i2, ws_mono (by omega) w0, by rw [f2.K, f1.K]; exact k1, by rw [f2.N, f1.N]; exact n1⟩, by rw [f2.X, f1.X]; omega, by rw [f2.Z, f1.Z]; omega⟩
theorem PR.look (j : JT L B h s) {cC cR : Nat} {as : List Value} {q : Int32} (a : mjCall ev cC lv (.ref 4 :: as) h = some (.int q, h)) (b : mjCall ev cR lv (.ref 243 :: as) h = some (.int q, h)) : PR ev lv L B cC cR as h := by
  obtain ⟨c, r, w0, k1, n1⟩ := j
  exact ⟨h, h, q, s, a, b, ⟨k1, n1, fun _ => rfl, r.1.k⟩, ⟨c, r, ws_mono (by omega) w0, k1, n1⟩, by omega, by omega⟩
end PQ
