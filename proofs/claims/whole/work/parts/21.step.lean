section STEPS
variable {l : Launch} {D : va_G} {B b L : Nat} {xs : Nat → Int32} {k0 k1 : Nat} {O : State → Prop}
theorem mjCode_big {c : Nat} (h : 264 ≤ c) (pc : Nat) : mjCode c pc = none := by
  have hb : ∀ k, k ≤ 264 → Nat.blt c k = false := fun k hk => by
    cases hx : Nat.blt c k with
    | false => rfl
    | true => exact absurd (Nat.le_of_ble_eq_true hx) (by omega)
  have he : Nat.beq c 263 = false := by
    cases hx : Nat.beq c 263 with
    | false => rfl
    | true => exact absurd (Nat.eq_of_beq_eq_true hx) (by omega)
  have hm : mjMeta c = (0, 0, 0) := by
    unfold mjMeta
    rw [hb 132 (by omega), cond_false, hb 198 (by omega), cond_false, hb 231 (by omega), cond_false, hb 247 (by omega), cond_false, hb 255 (by omega), cond_false, hb 259 (by omega), cond_false, hb 261 (by omega), cond_false, hb 262 (by omega), cond_false, hb 263 (by omega), cond_false, he, cond_false]
  unfold mjCode
  rw [hm]
  rfl
theorem mjRc_0 {x : Option FieldType} (h : mjRc x = 0) : x = none := by
  cases x with
  | none => rfl
  | some t => cases t <;> simp [mjRc] at h
theorem mjRc_n {x : Option FieldType} {r : Nat} (h : mjRc x = r) (hr : r ≠ 0) : ∃ t, x = some t := by
  cases x with
  | none => exact absurd h.symm hr
  | some t => exact ⟨t, rfl⟩
theorem mj_beq {a b : Nat} (h : a ≠ b) : Nat.beq a b = false := by
  cases hx : Nat.beq a b with
  | false => rfl
  | true => exact absurd (Nat.eq_of_beq_eq_true hx) h
/-- a call's step -/
theorem mjInvS {c lv pc r1 r2 r3 idx ht kd : Nat} {ls as st' : List Value} {h : mjS} {v : Value} {h' : mjS} {g : mjT} (env : mjEnv l B b L xs k0 k1 O) (hYall : ∀ c, c < 263 → c < 258 ∨ 260 < c → mjChY c = true) (IH : ∀ c lv pc ls st h v h', g c lv pc ls st h = some (v, h') → mjSnd l D B b L xs k0 k1 O c lv pc ls st h v h')
    (hr : mjInv g g c lv (pc + 3) ls h r1 r3 as st' = some (v, h')) (hn : as.length = r2) (hk : mjChI c (mjY c).cls kd idx r1 r2 r3 ht = true) (hkd : (kd = 0 ∧ decode (mjBy c) pc = .ok (.invokevirtual idx, 3)) ∨ (kd = 1 ∧ decode (mjBy c) pc = .ok (.invokestatic idx, 3)) ∨ (kd = 2 ∧ decode (mjBy c) pc = .ok (.invokespecial idx, 3)))
    (hrc : kd ≠ 1 → r3 ≤ 10 → ∃ a as', as = .ref a :: as' ∧ mK h a = mjCk r1) : mjSnd l D B b L xs k0 k1 O c lv pc ls (as.reverse ++ st') h v h' := by
  unfold mjInv at hr
  obtain ⟨hcat, hr⟩ := mjBif_some hr
  have hcat := Nat.le_of_ble_eq_true hcat
  have main : r3 ≤ 10 → ((∀ w, mjRv r1 w = none) ∨ r3 ≠ 0 ∧ r3 ≠ 10) ∧ ((∀ w, mjRv r1 w = some w) ∨ r3 = 0 ∨ r3 = 10) ∧ ∀ (lv1 : Nat) (w : Value) (h1 : mjS), mjCall g r1 lv1 as h = some (w, h1) → g c lv (pc + 3) ls ((mjRv r1 w).toList ++ st') h1 = some (v, h') → (lv1 = lv ∧ r3 ≠ 10 ∨ lv1 + 1 = lv ∧ r3 = 10) → mjSnd l D B b L xs k0 k1 O c lv pc ls (as.reverse ++ st') h v h' := by
    intro h10
    unfold mjChI at hk
    rw [mj_beq (show r3 ≠ 20 by omega), mj_beq (show r3 ≠ 21 by omega), mj_beq (show r3 ≠ 22 by omega), mj_beq (show r3 ≠ 23 by omega), mj_beq (show r3 ≠ 24 by omega), mj_beq (show r3 ≠ 25 by omega), mj_beq (show r3 ≠ 26 by omega), mj_beq (show r3 ≠ 27 by omega), mj_beq (show r3 ≠ 99 by omega)] at hk
    simp only [cond_false, Bool.and_eq_true, Bool.or_eq_true, decide_eq_true_eq] at hk
    obtain ⟨⟨⟨⟨⟨⟨⟨⟨⟨⟨hlk, hpar⟩, hr2⟩, hr1, hr1m⟩, hrk⟩, hret⟩, hnm, hini⟩, hrk12⟩, hck⟩, hkw⟩, hsel⟩ := hk
    refine ⟨?_, ?_, ?_⟩
    · by_cases h0 : r3 = 0 ∨ r3 = 10
      · left
        intro w
        have : mjRt r1 = none := by
          rcases hret with hret | ⟨-, hret⟩
          · rcases h0 with h0 | h0
            · exact mjRc_0 (hret.trans h0)
            · rw [h0] at hret
              cases hx : mjRt r1 with
              | none => rfl
              | some t => rw [hx] at hret; cases t <;> simp [mjRc] at hret
          · exact hret
        unfold mjRv
        rw [this]
      · right; omega
    · by_cases h0 : r3 = 0 ∨ r3 = 10
      · right; exact h0
      · left
        intro w
        obtain ⟨t, ht⟩ : ∃ t, mjRt r1 = some t := by
          rcases hret with hret | ⟨hret, -⟩
          · exact mjRc_n hret (by omega)
          · exact absurd (Nat.eq_of_beq_eq_true hret) (by omega)
        unfold mjRv
        rw [ht]
    · intro lv1 w h1 hcall hnext hlv
      unfold mjCall at hcall
      obtain ⟨hl, hcall⟩ := mjBif_some hcall
      refine mjCallS env (IH _ _ _ _ _ _ _ _ hcall) (Nat.le_of_ble_eq_true hl) (IH _ _ _ _ _ _ _ _ hnext) hcat (by omega) hrk12 hr1 (hYall r1 hr1 hr1m) hlk hpar ?_
      rcases hkd with ⟨rfl, hd⟩ | ⟨rfl, hd⟩ | ⟨rfl, hd⟩
      · obtain ⟨a, as', rfl, hka⟩ := hrc (by decide) h10
        refine Or.inl ⟨hd, ⟨_, hkw⟩, ?_, ⟨a, as', rfl, ?_, hka⟩, ?_⟩
        · rcases hsel with hsel | hsel
          · rcases hsel with hsel | hsel <;> exact absurd hsel (by decide)
          · exact ⟨_, hsel⟩
        · rw [List.length_cons] at hn
          show as'.length = r2 - 1
          omega
        · rcases hck with hck | hck
          · exact absurd hck (by decide)
          · exact hck
      · exact Or.inr (Or.inl ⟨hd, ⟨_, hkw⟩, hn⟩)
      · obtain ⟨a, as', rfl, hka⟩ := hrc (by decide) h10
        have hck : (mjCl[mjCk r1 - 1]?).map (fun q => q.1) = some (mjY r1).cls ∧ 1 ≤ mjCk r1 ∧ mjCk r1 ≤ 13 := by
          rcases hck with hck | hck
          · exact absurd hck (by decide)
          · exact hck
        refine Or.inr (Or.inr ⟨hd, ⟨_, hkw⟩, hnm.mpr rfl, hini rfl, a, as', rfl, ?_, by rw [hka]; omega⟩)
        rw [List.length_cons] at hn
        show as'.length = r2 - 1
        omega
  split at hr
  · obtain ⟨w, h1, hc, hr⟩ := rV_some hr
    obtain ⟨m1, m2, m3⟩ := main (by omega)
    have m1 : ∀ w, mjRv r1 w = none := m1.resolve_right (by omega)
    exact m3 lv w h1 hc (by rw [m1]; exact hr) (Or.inl ⟨rfl, by omega⟩)
  · obtain ⟨x, h1, hc, hr⟩ := rI_some hr
    obtain ⟨m1, m2, m3⟩ := main (by omega)
    have m2 : ∀ w, mjRv r1 w = some w := m2.resolve_right (by omega)
    exact m3 lv _ h1 hc (by rw [m2]; exact hr) (Or.inl ⟨rfl, by omega⟩)
  · obtain ⟨x, h1, hc, hr⟩ := rL_some hr
    obtain ⟨m1, m2, m3⟩ := main (by omega)
    have m2 : ∀ w, mjRv r1 w = some w := m2.resolve_right (by omega)
    exact m3 lv _ h1 hc (by rw [m2]; exact hr) (Or.inl ⟨rfl, by omega⟩)
  · obtain ⟨x, h1, hc, hr⟩ := rA_some hr
    obtain ⟨m1, m2, m3⟩ := main (by omega)
    have m2 : ∀ w, mjRv r1 w = some w := m2.resolve_right (by omega)
    exact m3 lv _ h1 hc (by rw [m2]; exact hr) (Or.inl ⟨rfl, by omega⟩)
  · cases lv with
    | zero => cases hr
    | succ k =>
      obtain ⟨w, h1, hc, hr⟩ := rV_some hr
      obtain ⟨m1, m2, m3⟩ := main (by omega)
      have m1 : ∀ w, mjRv r1 w = none := m1.resolve_right (by omega)
      exact m3 k w h1 hc (by rw [m1]; exact hr) (Or.inr ⟨rfl, rfl⟩)
  · split at hr
    · obtain ⟨ha, hr⟩ := mjIfn_some hr
      simp only [mjChI, Nat.beq_refl, cond_true, Bool.and_eq_true, decide_eq_true_eq] at hk
      obtain ⟨⟨hk1, hk2⟩, hlk⟩ := hk
      have hk1 := Nat.eq_of_beq_eq_true hk1
      rcases hkd with ⟨h0, hd⟩ | ⟨h0, hd⟩ | ⟨h0, hd⟩
      · omega
      · omega
      · exact mjObj (IH _ _ _ _ _ _ _ _ hr) ha hcat hlk hd
    · cases hr
  · split at hr
    · obtain ⟨q1, hr⟩ := mjIf_some hr
      obtain ⟨q2, hr⟩ := mjIf_some hr
      simp only [mjChI, show Nat.beq 21 20 = false from rfl, Nat.beq_refl, cond_true, cond_false, Bool.and_eq_true, decide_eq_true_eq] at hk
      obtain ⟨⟨hk1, hk2⟩, hlk⟩ := hk
      have hk1 := Nat.eq_of_beq_eq_true hk1
      rcases hkd with ⟨h0, hd⟩ | ⟨h0, hd⟩ | ⟨h0, hd⟩
      · omega
      · exact mjCpy (IH _ _ _ _ _ _ _ _ hr) q1 q2 hcat hlk hd
      · omega
    · cases hr
  · split at hr
    · obtain ⟨q1, hr⟩ := mjIf_some hr
      simp only [mjChI, show Nat.beq 22 20 = false from rfl, show Nat.beq 22 21 = false from rfl, Nat.beq_refl, cond_true, cond_false, Bool.and_eq_true, decide_eq_true_eq] at hk
      obtain ⟨⟨hk1, hk2⟩, hlk⟩ := hk
      have hk1 := Nat.eq_of_beq_eq_true hk1
      rcases hkd with ⟨h0, hd⟩ | ⟨h0, hd⟩ | ⟨h0, hd⟩
      · refine mjPrim (IH _ _ _ _ _ _ _ _ hr) (fun f h2 h3 => ?_) hcat hlk hd
        rcases q1 with rfl | rfl
        · rw [List.map_cons, mjTr_ref f (by decide), h2]; exact env.2.2.2.2.2.2.1 2 k0 (Or.inl ⟨rfl, rfl⟩)
        · rw [List.map_cons, mjTr_ref f (by decide), h3]; exact env.2.2.2.2.2.2.1 3 k1 (Or.inr ⟨rfl, rfl⟩)
      · omega
      · omega
    · cases hr
  · split at hr
    · obtain ⟨⟨q1, q2⟩, hr⟩ := mjIf_some hr
      simp only [mjChI, show Nat.beq 23 20 = false from rfl, show Nat.beq 23 21 = false from rfl, show Nat.beq 23 22 = false from rfl, Nat.beq_refl, cond_true, cond_false, Bool.and_eq_true, decide_eq_true_eq] at hk
      obtain ⟨⟨hk1, hk2⟩, hlk⟩ := hk
      have hk1 := Nat.eq_of_beq_eq_true hk1
      rcases hkd with ⟨h0, hd⟩ | ⟨h0, hd⟩ | ⟨h0, hd⟩
      · refine mjPrim (IH _ _ _ _ _ _ _ _ hr) (fun f h2 h3 => ?_) hcat hlk hd
        rcases q1 with rfl | rfl
        · rw [List.map_cons, mjTr_ref f (by decide), h2]; exact env.2.2.2.2.2.2.2.1 2 k0 (Or.inl ⟨rfl, rfl⟩) _ q2
        · rw [List.map_cons, mjTr_ref f (by decide), h3]; exact env.2.2.2.2.2.2.2.1 3 k1 (Or.inr ⟨rfl, rfl⟩) _ q2
      · omega
      · omega
    · cases hr
  · split at hr
    · obtain ⟨q1, hr⟩ := mjIf_some hr
      simp only [mjChI, show Nat.beq 24 20 = false from rfl, show Nat.beq 24 21 = false from rfl, show Nat.beq 24 22 = false from rfl, show Nat.beq 24 23 = false from rfl, Nat.beq_refl, cond_true, cond_false, Bool.and_eq_true, decide_eq_true_eq] at hk
      obtain ⟨⟨hk1, hk2⟩, hlk⟩ := hk
      have hk1 := Nat.eq_of_beq_eq_true hk1
      rcases hkd with ⟨h0, hd⟩ | ⟨h0, hd⟩ | ⟨h0, hd⟩
      · refine mjPrim (IH _ _ _ _ _ _ _ _ hr) (fun f h2 h3 => ?_) hcat hlk hd
        rcases q1 with rfl | rfl
        · rw [List.map_cons, mjTr_ref f (by decide), h2]; exact env.2.2.2.2.2.2.2.2 2 k0 (Or.inl ⟨rfl, rfl⟩) _
        · rw [List.map_cons, mjTr_ref f (by decide), h3]; exact env.2.2.2.2.2.2.2.2 3 k1 (Or.inr ⟨rfl, rfl⟩) _
      · omega
      · omega
    · cases hr
  · split at hr
    · simp only [mjChI, show Nat.beq 25 20 = false from rfl, show Nat.beq 25 21 = false from rfl, show Nat.beq 25 22 = false from rfl, show Nat.beq 25 23 = false from rfl, show Nat.beq 25 24 = false from rfl, Nat.beq_refl, cond_true, cond_false, Bool.and_eq_true, decide_eq_true_eq] at hk
      obtain ⟨⟨hk1, hk2⟩, hlk⟩ := hk
      have hk1 := Nat.eq_of_beq_eq_true hk1
      rcases hkd with ⟨h0, hd⟩ | ⟨h0, hd⟩ | ⟨h0, hd⟩
      · omega
      · exact mjM_max (IH _ _ _ _ _ _ _ _ hr) hcat hlk hd
      · omega
    · cases hr
  · split at hr
    · simp only [mjChI, show Nat.beq 26 20 = false from rfl, show Nat.beq 26 21 = false from rfl, show Nat.beq 26 22 = false from rfl, show Nat.beq 26 23 = false from rfl, show Nat.beq 26 24 = false from rfl, show Nat.beq 26 25 = false from rfl, Nat.beq_refl, cond_true, cond_false, Bool.and_eq_true, decide_eq_true_eq] at hk
      obtain ⟨⟨hk1, hk2⟩, hlk⟩ := hk
      have hk1 := Nat.eq_of_beq_eq_true hk1
      rcases hkd with ⟨h0, hd⟩ | ⟨h0, hd⟩ | ⟨h0, hd⟩
      · omega
      · exact mjM_min (IH _ _ _ _ _ _ _ _ hr) hcat hlk hd
      · omega
    · cases hr
  · split at hr
    · simp only [mjChI, show Nat.beq 27 20 = false from rfl, show Nat.beq 27 21 = false from rfl, show Nat.beq 27 22 = false from rfl, show Nat.beq 27 23 = false from rfl, show Nat.beq 27 24 = false from rfl, show Nat.beq 27 25 = false from rfl, show Nat.beq 27 26 = false from rfl, Nat.beq_refl, cond_true, cond_false, Bool.and_eq_true, decide_eq_true_eq] at hk
      obtain ⟨⟨hk1, hk2⟩, hlk⟩ := hk
      have hk1 := Nat.eq_of_beq_eq_true hk1
      rcases hkd with ⟨h0, hd⟩ | ⟨h0, hd⟩ | ⟨h0, hd⟩
      · omega
      · exact mjM_abs (IH _ _ _ _ _ _ _ _ hr) hcat hlk hd
      · omega
    · cases hr
  · cases hr
end STEPS
