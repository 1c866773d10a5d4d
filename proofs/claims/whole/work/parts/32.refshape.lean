/-! the reference's object: cell 243, its rows 244 to 263; what does not change of a store -/
def rF : List (Nat × Nat × Nat) := [(0, 21, 400), (3, 20, 2400), (4, 20, 7), (5, 20, 288), (6, 20, 6), (7, 20, 117), (15, 20, 400), (17, 23, 64), (19, 23, 11), (20, 20, 148), (23, 20, 1700), (25, 20, 85), (26, 20, 8), (27, 20, 671), (28, 22, 7), (29, 20, 35), (31, 20, 592), (32, 20, 4), (33, 20, 4), (34, 22, 4)]
def rSh (h : mjS) : Prop := mK h 243 = 13 ∧ ∀ i, i < 20 → mR h 243 (rF.getD i (0, 0, 0)).1 = 244 + i ∧ mK h (244 + i) = (rF.getD i (0, 0, 0)).2.1 ∧ mN h (244 + i) = (rF.getD i (0, 0, 0)).2.2
theorem rSh.k {h : mjS} (hs : rSh h) : mK h 243 = 13 := hs.1
theorem rSh.r_tape {h : mjS} (hs : rSh h) : mR h 243 0 = 244 := (hs.2 0 (by decide)).1
theorem rSh.k_tape {h : mjS} (hs : rSh h) : mK h 244 = 21 := (hs.2 0 (by decide)).2.1
theorem rSh.n_tape {h : mjS} (hs : rSh h) : mN h 244 = 400 := (hs.2 0 (by decide)).2.2
theorem rSh.r_sign {h : mjS} (hs : rSh h) : mR h 243 3 = 245 := (hs.2 1 (by decide)).1
theorem rSh.k_sign {h : mjS} (hs : rSh h) : mK h 245 = 20 := (hs.2 1 (by decide)).2.1
theorem rSh.n_sign {h : mjS} (hs : rSh h) : mN h 245 = 2400 := (hs.2 1 (by decide)).2.2
theorem rSh.r_length {h : mjS} (hs : rSh h) : mR h 243 4 = 246 := (hs.2 2 (by decide)).1
theorem rSh.k_length {h : mjS} (hs : rSh h) : mK h 246 = 20 := (hs.2 2 (by decide)).2.1
theorem rSh.n_length {h : mjS} (hs : rSh h) : mN h 246 = 7 := (hs.2 2 (by decide)).2.2
theorem rSh.r_clause {h : mjS} (hs : rSh h) : mR h 243 5 = 247 := (hs.2 3 (by decide)).1
theorem rSh.k_clause {h : mjS} (hs : rSh h) : mK h 247 = 20 := (hs.2 3 (by decide)).2.1
theorem rSh.n_clause {h : mjS} (hs : rSh h) : mN h 247 = 288 := (hs.2 3 (by decide)).2.2
theorem rSh.r_clauses {h : mjS} (hs : rSh h) : mR h 243 6 = 248 := (hs.2 4 (by decide)).1
theorem rSh.k_clauses {h : mjS} (hs : rSh h) : mK h 248 = 20 := (hs.2 4 (by decide)).2.1
theorem rSh.n_clauses {h : mjS} (hs : rSh h) : mN h 248 = 6 := (hs.2 4 (by decide)).2.2
theorem rSh.r_read {h : mjS} (hs : rSh h) : mR h 243 7 = 249 := (hs.2 5 (by decide)).1
theorem rSh.k_read {h : mjS} (hs : rSh h) : mK h 249 = 20 := (hs.2 5 (by decide)).2.1
theorem rSh.n_read {h : mjS} (hs : rSh h) : mN h 249 = 117 := (hs.2 5 (by decide)).2.2
theorem rSh.r_open {h : mjS} (hs : rSh h) : mR h 243 15 = 250 := (hs.2 6 (by decide)).1
theorem rSh.k_open {h : mjS} (hs : rSh h) : mK h 250 = 20 := (hs.2 6 (by decide)).2.1
theorem rSh.n_open {h : mjS} (hs : rSh h) : mN h 250 = 400 := (hs.2 6 (by decide)).2.2
theorem rSh.r_stack {h : mjS} (hs : rSh h) : mR h 243 17 = 251 := (hs.2 7 (by decide)).1
theorem rSh.k_stack {h : mjS} (hs : rSh h) : mK h 251 = 23 := (hs.2 7 (by decide)).2.1
theorem rSh.n_stack {h : mjS} (hs : rSh h) : mN h 251 = 64 := (hs.2 7 (by decide)).2.2
theorem rSh.r_word {h : mjS} (hs : rSh h) : mR h 243 19 = 252 := (hs.2 8 (by decide)).1
theorem rSh.k_word {h : mjS} (hs : rSh h) : mK h 252 = 23 := (hs.2 8 (by decide)).2.1
theorem rSh.n_word {h : mjS} (hs : rSh h) : mN h 252 = 11 := (hs.2 8 (by decide)).2.2
theorem rSh.r_said {h : mjS} (hs : rSh h) : mR h 243 20 = 253 := (hs.2 9 (by decide)).1
theorem rSh.k_said {h : mjS} (hs : rSh h) : mK h 253 = 20 := (hs.2 9 (by decide)).2.1
theorem rSh.n_said {h : mjS} (hs : rSh h) : mN h 253 = 148 := (hs.2 9 (by decide)).2.2
theorem rSh.r_wasSaid {h : mjS} (hs : rSh h) : mR h 243 23 = 254 := (hs.2 10 (by decide)).1
theorem rSh.k_wasSaid {h : mjS} (hs : rSh h) : mK h 254 = 20 := (hs.2 10 (by decide)).2.1
theorem rSh.n_wasSaid {h : mjS} (hs : rSh h) : mN h 254 = 1700 := (hs.2 10 (by decide)).2.2
theorem rSh.r_kept {h : mjS} (hs : rSh h) : mR h 243 25 = 255 := (hs.2 11 (by decide)).1
theorem rSh.k_kept {h : mjS} (hs : rSh h) : mK h 255 = 20 := (hs.2 11 (by decide)).2.1
theorem rSh.n_kept {h : mjS} (hs : rSh h) : mN h 255 = 85 := (hs.2 11 (by decide)).2.2
theorem rSh.r_hasBy {h : mjS} (hs : rSh h) : mR h 243 26 = 256 := (hs.2 12 (by decide)).1
theorem rSh.k_hasBy {h : mjS} (hs : rSh h) : mK h 256 = 20 := (hs.2 12 (by decide)).2.1
theorem rSh.n_hasBy {h : mjS} (hs : rSh h) : mN h 256 = 8 := (hs.2 12 (by decide)).2.2
theorem rSh.r_standsThen {h : mjS} (hs : rSh h) : mR h 243 27 = 257 := (hs.2 13 (by decide)).1
theorem rSh.k_standsThen {h : mjS} (hs : rSh h) : mK h 257 = 20 := (hs.2 13 (by decide)).2.1
theorem rSh.n_standsThen {h : mjS} (hs : rSh h) : mN h 257 = 671 := (hs.2 13 (by decide)).2.2
theorem rSh.r_isFit {h : mjS} (hs : rSh h) : mR h 243 28 = 258 := (hs.2 14 (by decide)).1
theorem rSh.k_isFit {h : mjS} (hs : rSh h) : mK h 258 = 22 := (hs.2 14 (by decide)).2.1
theorem rSh.n_isFit {h : mjS} (hs : rSh h) : mN h 258 = 7 := (hs.2 14 (by decide)).2.2
theorem rSh.r_gladThen {h : mjS} (hs : rSh h) : mR h 243 29 = 259 := (hs.2 15 (by decide)).1
theorem rSh.k_gladThen {h : mjS} (hs : rSh h) : mK h 259 = 20 := (hs.2 15 (by decide)).2.1
theorem rSh.n_gladThen {h : mjS} (hs : rSh h) : mN h 259 = 35 := (hs.2 15 (by decide)).2.2
theorem rSh.r_images {h : mjS} (hs : rSh h) : mR h 243 31 = 260 := (hs.2 16 (by decide)).1
theorem rSh.k_images {h : mjS} (hs : rSh h) : mK h 260 = 20 := (hs.2 16 (by decide)).2.1
theorem rSh.n_images {h : mjS} (hs : rSh h) : mN h 260 = 592 := (hs.2 16 (by decide)).2.2
theorem rSh.r_imageForce {h : mjS} (hs : rSh h) : mR h 243 32 = 261 := (hs.2 17 (by decide)).1
theorem rSh.k_imageForce {h : mjS} (hs : rSh h) : mK h 261 = 20 := (hs.2 17 (by decide)).2.1
theorem rSh.n_imageForce {h : mjS} (hs : rSh h) : mN h 261 = 4 := (hs.2 17 (by decide)).2.2
theorem rSh.r_imageX {h : mjS} (hs : rSh h) : mR h 243 33 = 262 := (hs.2 18 (by decide)).1
theorem rSh.k_imageX {h : mjS} (hs : rSh h) : mK h 262 = 20 := (hs.2 18 (by decide)).2.1
theorem rSh.n_imageX {h : mjS} (hs : rSh h) : mN h 262 = 4 := (hs.2 18 (by decide)).2.2
theorem rSh.r_isMade {h : mjS} (hs : rSh h) : mR h 243 34 = 263 := (hs.2 19 (by decide)).1
theorem rSh.k_isMade {h : mjS} (hs : rSh h) : mK h 263 = 22 := (hs.2 19 (by decide)).2.1
theorem rSh.n_isMade {h : mjS} (hs : rSh h) : mN h 263 = 4 := (hs.2 19 (by decide)).2.2
/-- ints and longs of the places of F alone are other ones -/
def Fr (F : Nat → Nat → Prop) (h h' : mjS) : Prop := h'.2.2 = h.2.2 ∧ ∀ a k, ¬ F a k → mI h' a k = mI h a k ∧ mL h' a k = mL h a k
theorem Fr.rf {F : Nat → Nat → Prop} {h : mjS} : Fr F h h := ⟨rfl, fun _ _ _ => ⟨rfl, rfl⟩⟩
theorem Fr.tr {F : Nat → Nat → Prop} {h h1 h2 : mjS} (a : Fr F h h1) (b : Fr F h1 h2) : Fr F h h2 := ⟨b.1.trans a.1, fun x k hx => ⟨(b.2 x k hx).1.trans (a.2 x k hx).1, (b.2 x k hx).2.trans (a.2 x k hx).2⟩⟩
theorem Fr.mono {F G : Nat → Nat → Prop} {h h1 : mjS} (a : Fr F h h1) (hFG : ∀ x k, F x k → G x k) : Fr G h h1 := ⟨a.1, fun x k hx => a.2 x k (fun z => hx (hFG x k z))⟩
theorem mI_pI (h : mjS) (a k : Nat) (v : Int32) (b j : Nat) : mI (pI h a k v) b j = if b = a ∧ j = k then v else mI h b j := rfl
theorem mL_pL (h : mjS) (a k : Nat) (v : Int64) (b j : Nat) : mL (pL h a k v) b j = if b = a ∧ j = k then v else mL h b j := rfl
theorem Fr.pI {F : Nat → Nat → Prop} {h : mjS} {a k : Nat} {v : Int32} (ha : F a k) : Fr F h (pI h a k v) := ⟨rfl, fun x j hx => ⟨by rw [mI_pI, if_neg (fun e => hx (by rw [e.1, e.2]; exact ha))], rfl⟩⟩
theorem Fr.pL {F : Nat → Nat → Prop} {h : mjS} {a k : Nat} {v : Int64} (ha : F a k) : Fr F h (pL h a k v) := ⟨rfl, fun x j hx => ⟨rfl, by rw [mL_pL, if_neg (fun e => hx (by rw [e.1, e.2]; exact ha))]⟩⟩
theorem Fr.I {F : Nat → Nat → Prop} {h h' : mjS} (a : Fr F h h') {x k : Nat} (hx : ¬ F x k) : mI h' x k = mI h x k := (a.2 x k hx).1
theorem Fr.L {F : Nat → Nat → Prop} {h h' : mjS} (a : Fr F h h') {x k : Nat} (hx : ¬ F x k) : mL h' x k = mL h x k := (a.2 x k hx).2
theorem Fr.K {F : Nat → Nat → Prop} {h h' : mjS} (a : Fr F h h') (x : Nat) : mK h' x = mK h x := by unfold mK; rw [a.1]
theorem Fr.N {F : Nat → Nat → Prop} {h h' : mjS} (a : Fr F h h') (x : Nat) : mN h' x = mN h x := by unfold mN; rw [a.1]
theorem Fr.R {F : Nat → Nat → Prop} {h h' : mjS} (a : Fr F h h') (x k : Nat) : mR h' x k = mR h x k := by unfold mR; rw [a.1]
theorem Fr.X {F : Nat → Nat → Prop} {h h' : mjS} (a : Fr F h h') : mX h' = mX h := by unfold mX; rw [a.1]
theorem Fr.Z {F : Nat → Nat → Prop} {h h' : mjS} (a : Fr F h h') : mZ h' = mZ h := by unfold mZ; rw [a.1]
theorem Fr.rSh {F : Nat → Nat → Prop} {h h' : mjS} (a : Fr F h h') (hs : rSh h) : rSh h' := ⟨(a.K _).trans hs.1, fun i hi => ⟨(a.R _ _).trans (hs.2 i hi).1, (a.K _).trans (hs.2 i hi).2.1, (a.N _).trans (hs.2 i hi).2.2⟩⟩
/-- the row 'said' holds small numbers -/
def V (h : mjS) (g : Nat → Nat) : Prop := ∀ k, k < 148 → mI h 253 k = nI (g k) ∧ g k < 1048576
theorem V.at {h : mjS} {g : Nat → Nat} (v : V h g) (k : Nat) (hk : k < 148) : mI h 253 k = nI (g k) := (v k hk).1
theorem V.lt {h : mjS} {g : Nat → Nat} (v : V h g) {k : Nat} (hk : k < 148) : g k < 1048576 := (v k hk).2
theorem V.five_lt {h : mjS} {g : Nat → Nat} (v : V h g) {a : Nat} (hk : a + 5 ≤ 148) : five g a < 5242880 := by
  have h0 := v.lt (k := a) (by omega)
  have h1 := v.lt (k := a + 1) (by omega)
  have h2 := v.lt (k := a + 2) (by omega)
  have h3 := v.lt (k := a + 3) (by omega)
  have h4 := v.lt (k := a + 4) (by omega)
  unfold five; omega
theorem V.fr {F : Nat → Nat → Prop} {h h' : mjS} {g : Nat → Nat} (a : Fr F h h') (hF : ∀ k, ¬ F 253 k) (v : V h g) : V h' g := fun k hk => by rw [a.I (hF k)]; exact v k hk
theorem V.up {h : mjS} {g : Nat → Nat} (v : V h g) {k x : Nat} (hx : x < 1048576) : V (pI h 253 k (nI x)) (gup g k x) := by
  intro j hj
  rw [mI_pI]
  unfold gup
  by_cases e : j = k
  · rw [if_pos ⟨rfl, e⟩, if_pos e]; exact ⟨rfl, hx⟩
  · rw [if_neg (fun z => e z.2), if_neg e]; exact v j hj
theorem rI_int (x : Int32) (h : mjS) (k : Int32 → mjS → mjO) : rI (some (.int x, h)) k = k x h := rfl
theorem rL_long (x : Int64) (h : mjS) (k : Int64 → mjS → mjO) : rL (some (.long x, h)) k = k x h := rfl
theorem rA_ref (x : Nat) (h : mjS) (k : Nat → mjS → mjO) : rA (some (.ref x, h)) k = k x h := rfl
theorem rV_any (x : Value) (h : mjS) (k : mjS → mjO) : rV (some (x, h)) k = k h := rfl
