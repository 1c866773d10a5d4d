/-! the small machine answers 1 on every script -/
theorem mj_goal (L : Nat) (xs : Nat → Int32) (hL : L ≤ 3072) : ∃ h' : mjS, mjEv 263 12 0 (mjEnt 263 [.ref 1]) [] (mjH0 L xs) = some (.int 1, h') ∧ mX h' ≤ 600004 ∧ mZ h' ≤ 7302250 := by
  have E := mjEv_fix
  obtain ⟨H, eH⟩ : ∃ y, y = mjH0 L xs := ⟨_, rfl⟩
  have xH : mX H = 4 := by rw [eH]; rfl
  have zH : mZ H = 0 := by rw [eH]; rfl
  have kH : mK H 1 = 30 := by rw [eH]; rfl
  have nH : mN H 1 = L := by rw [eH]; rfl
  obtain ⟨h2, e2, g2⟩ := nw_G (ev := mjEv) (lv := 12) E H xH
  have x2 := g2.1.1
  have z2 := g2.1.2
  obtain ⟨h4, e4, b4⟩ := nw_M (ev := mjEv) (lv := 12) E h2 (by omega)
  have x4 : mX h4 = 264 := by rw [b4.1.1, x2]; rfl
  have z4 : mZ h4 = mZ h2 + 35 + 6951 := by rw [b4.1.2]; rfl
  have old := b4.2.2.2.2.2
  have hs : rSh h4 := Bm.sh x2 b4
  have c : CI h4 s00 := ci_00 g2 old (by omega)
  have zr := b4.2.2.2.1
  have i21 := b4.2.2.2.2.1
  rw [x2] at zr i21 e4
  have r : RI h4 s00 := ri_00 hs (fun a k h1 h2 h3 => zr a k h1 (by omega) h3) i21
  have o1 := old 1 (by omega)
  have p1 := g2.2.2.2.2.2 1 (by omega)
  have j : JT L 300 h4 s00 := ⟨c, r, ws_00, o1.1.trans (p1.1.trans kH), o1.2.1.trans (p1.2.1.trans nH)⟩
  obtain ⟨h', e', x', z'⟩ := lw_loop (lv := 12) E (by omega) hL 512 0 300 h4 s00 (by omega) (by omega) j (by omega) (by omega)
  refine ⟨h', ?_, by omega, by omega⟩
  rw [← eH]
  have ent : mjEnt 263 [.ref 1] = [.ref 1, mjD, mjD, mjD] := rfl
  rw [ent, e_263_0 E]
  have k4 : mK (pN H 12 0 13) 4 = 12 := by rw [mK_pN, if_pos (by omega)]
  have k243 : mK (pN h2 13 0 35) 243 = 13 := by rw [mK_pN, if_pos (by omega)]
  dsimp only [mjLet]
  rw [xH]
  refine ifT k4 (stV e2 ?_)
  rw [x2]
  exact ifT k243 (stV e4 e')
