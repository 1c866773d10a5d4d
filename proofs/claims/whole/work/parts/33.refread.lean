/-! the reference's methods that read 'said' alone -/
theorem i32_lt0 {x : Int32} : x < 0 ↔ x.toInt < 0 := by
  rw [Int32.lt_iff_toInt_lt]; rfl
theorem i32_ltn {x : Int32} {n : Nat} (hn : n < 2 ^ 31) : x < nI n ↔ x.toInt < n := by
  rw [Int32.lt_iff_toInt_lt, nI_toInt hn]
section RR
variable {ev : mjT} {lv : Nat} {h : mjS} {g : Nat → Nat}
theorem sp_piecesAt (E : mjFix ev) (hs : rSh h) (v : V h g) {a : Nat} (ha : a + 5 ≤ 148) : mjCall ev 187 lv [.ref 243, .int (nI a)] h = some (.int (nI (five g a)), h) := by
  show ev 187 lv 0 [.ref 243, .int (nI a), mjD, mjD] [] h = _
  rw [e_187_0 E]
  have step : ∀ (n k : Nat), k < 5 → ev 187 lv 4 [.ref 243, .int (nI a), .int (nI n), .int (nI k)] [] h = ev 187 lv 4 [.ref 243, .int (nI a), .int (nI (n + g (a + k))), .int (nI (k + 1))] [] h := by
    intro n k hk
    rw [e_187_4 E]
    simp (disch := omega) only [hs.k, hs.r_said, hs.k_said, hs.n_said, v.at, i_lit, nI_ltI, nI_add, mjIn_nI, nI_clamp, if_pos, if_true, if_false]
  have e0 : ev 187 lv 4 [.ref 243, .int (nI a), .int 0, .int 0] [] h = ev 187 lv 4 [.ref 243, .int (nI a), .int (nI 0), .int (nI 0)] [] h := rfl
  rw [e0, step 0 0 (by omega), step _ 1 (by omega), step _ 2 (by omega), step _ 3 (by omega), step _ 4 (by omega), e_187_4 E]
  simp (disch := omega) only [i_lit, nI_ltI, if_neg, Nat.zero_add, Nat.add_zero, five]
theorem sp_gladOf (E : mjFix ev) (hs : rSh h) (v : V h g) {p : Nat} (hp : p < 5) : mjCall ev 188 lv [.ref 243, .int (nI p)] h = some (.int (nI (five g (12 + 5 * p))), h) := by
  show ev 188 lv 0 [.ref 243, .int (nI p)] [] h = _
  rw [e_188_0 E, if_pos hs.k, show (12 + 5 * nI p : Int32) = nI (12 + 5 * p) by simp only [i_lit, nI_mul, nI_add], sp_piecesAt E hs v (by omega)]
  rfl
theorem sp_ownOf (E : mjFix ev) (hs : rSh h) (v : V h g) {p : Nat} (hp : p < 5) : mjCall ev 189 lv [.ref 243, .int (nI p)] h = some (.int (nI (g (12 + 5 * p + p))), h) := by
  show ev 189 lv 0 [.ref 243, .int (nI p)] [] h = _
  rw [e_189_0 E]
  simp (disch := omega) only [hs.k, hs.r_said, hs.k_said, hs.n_said, v.at, i_lit, nI_add, nI_mul, mjIn_nI, nI_clamp, if_pos, if_true, if_false]
theorem sp_lies (E : mjFix ev) (hs : rSh h) (v : V h g) {p : Nat} (hp : p < 5) : mjCall ev 191 lv [.ref 243, .int (nI p)] h = some (.int (if g (37 + p) = 1 then 1 else 0), h) := by
  have hb := v.lt (k := 37 + p) (by omega)
  show ev 191 lv 0 [.ref 243, .int (nI p)] [] h = _
  rw [e_191_0 E]
  simp (disch := omega) only [hs.k, hs.r_said, hs.k_said, hs.n_said, v.at, i_lit, nI_add, nI_eq, mjIn_nI, nI_clamp, if_pos, if_true, if_false]
  by_cases q : g (37 + p) = 1
  · rw [if_pos q, if_pos q]
  · rw [if_neg q, if_neg q]
theorem sp_isPerson (E : mjFix ev) (hs : rSh h) (v : V h g) (p : Int32) : mjCall ev 185 lv [.ref 243, .int p] h = some (.int (if 0 ≤ p.toInt ∧ p.toInt < g 2 then 1 else 0), h) := by
  have hb := v.lt (k := 2) (by omega)
  show ev 185 lv 0 [.ref 243, .int p] [] h = _
  rw [e_185_0 E]
  simp (disch := omega) only [hs.k, hs.r_said, hs.k_said, hs.n_said, mjIn_nI, nI_clamp, show (2 : Int32) = nI 2 from rfl, v.at, if_pos, i32_lt0, i32_ltn, if_true, if_false]
  by_cases q : p.toInt < 0
  · rw [if_pos q, if_neg (by omega)]
  · rw [if_neg q]
    by_cases q2 : p.toInt < g 2
    · rw [if_pos q2, if_pos ⟨by omega, q2⟩]
    · rw [if_neg q2, if_neg (by omega)]
theorem sp_isSpider (E : mjFix ev) (hs : rSh h) (v : V h g) (p : Int32) : mjCall ev 186 lv [.ref 243, .int p] h = some (.int (if 0 ≤ p.toInt ∧ p.toInt < g 3 then 1 else 0), h) := by
  have hb := v.lt (k := 3) (by omega)
  show ev 186 lv 0 [.ref 243, .int p] [] h = _
  rw [e_186_0 E]
  simp (disch := omega) only [hs.k, hs.r_said, hs.k_said, hs.n_said, mjIn_nI, nI_clamp, show (3 : Int32) = nI 3 from rfl, v.at, if_pos, i32_lt0, i32_ltn, if_true, if_false]
  by_cases q : p.toInt < 0
  · rw [if_pos q, if_neg (by omega)]
  · rw [if_neg q]
    by_cases q2 : p.toInt < g 3
    · rw [if_pos q2, if_pos ⟨by omega, q2⟩]
    · rw [if_neg q2, if_neg (by omega)]
theorem sp_statusOf (E : mjFix ev) (hs : rSh h) (v : V h g) {s : Nat} (hp : s < 6) : mjCall ev 193 lv [.ref 243, .int (nI s)] h = some (.int (nI (g (47 + 8 * s))), h) := by
  show ev 193 lv 0 [.ref 243, .int (nI s)] [] h = _
  rw [e_193_0 E]
  simp (disch := omega) only [hs.k, hs.r_said, hs.k_said, hs.n_said, v.at, i_lit, nI_add, nI_mul, mjIn_nI, nI_clamp, if_pos, if_true, if_false]
theorem sp_personOf (E : mjFix ev) (hs : rSh h) (v : V h g) {s : Nat} (hp : s < 6) : mjCall ev 194 lv [.ref 243, .int (nI s)] h = some (.int (nI (g (47 + 8 * s + 1))), h) := by
  show ev 194 lv 0 [.ref 243, .int (nI s)] [] h = _
  rw [e_194_0 E]
  simp (disch := omega) only [hs.k, hs.r_said, hs.k_said, hs.n_said, v.at, i_lit, nI_add, nI_mul, mjIn_nI, nI_clamp, if_pos, if_true, if_false]
theorem sp_isField (E : mjFix ev) (hs : rSh h) (v : V h g) : mjCall ev 184 lv [.ref 243] h = some (.int (if g 0 = 1 then 1 else 0), h) := by
  have hb := v.lt (k := 0) (by omega)
  show ev 184 lv 0 [.ref 243] [] h = _
  rw [e_184_0 E]
  simp (disch := omega) only [hs.k, hs.r_said, hs.k_said, hs.n_said, i_lit, nI_clamp, mjIn_nI, v.at, nI_eq, if_pos, if_true, if_false]
  by_cases q : g 0 = 1
  · rw [if_pos q, if_pos q]
  · rw [if_neg q, if_neg q]
/-- a spider's number, when there is one such -/
theorem sp_isOn (E : mjFix ev) (hs : rSh h) (v : V h g) {s : Nat} (hp : s < 6) : mjCall ev 195 lv [.ref 243, .int (nI s)] h = some (.int (if s < g 3 ∧ g (47 + 8 * s) = 0 then 1 else 0), h) := by
  have hb := v.lt (k := 3) (by omega)
  have hb2 := v.lt (k := 47 + 8 * s) (by omega)
  show ev 195 lv 0 [.ref 243, .int (nI s)] [] h = _
  have e1 : (0 ≤ (nI s).toInt ∧ (nI s).toInt < g 3) ↔ s < g 3 := by rw [nI_toInt (by omega)]; omega
  rw [e_195_0 E]
  by_cases q : s < g 3 <;> by_cases q2 : g (47 + 8 * s) = 0 <;> simp (disch := omega) only [hs.k, sp_isSpider E hs v, sp_statusOf E hs v, e1, q, q2, rI_int, i_lit, nI_eq, if_pos, if_neg, if_true, if_false, true_and, false_and, and_true, and_false]
end RR
