/-! one step behind the other: what a condition or a call gives -/
theorem ifT {c : Prop} [Decidable c] {a b r : mjO} (hc : c) (h : a = r) : (if c then a else b) = r := by rw [if_pos hc]; exact h
theorem ifF {c : Prop} [Decidable c] {a b r : mjO} (hc : ¬ c) (h : b = r) : (if c then a else b) = r := by rw [if_neg hc]; exact h
theorem stI {r : mjO} {k : Int32 → mjS → mjO} {x : Int32} {h' : mjS} {res : mjO} (e : r = some (.int x, h')) (h : k x h' = res) : rI r k = res := by rw [e]; exact h
theorem stL {r : mjO} {k : Int64 → mjS → mjO} {x : Int64} {h' : mjS} {res : mjO} (e : r = some (.long x, h')) (h : k x h' = res) : rL r k = res := by rw [e]; exact h
theorem stA {r : mjO} {k : Nat → mjS → mjO} {x : Nat} {h' : mjS} {res : mjO} (e : r = some (.ref x, h')) (h : k x h' = res) : rA r k = res := by rw [e]; exact h
theorem stV {r : mjO} {k : mjS → mjO} {x : Value} {h' : mjS} {res : mjO} (e : r = some (x, h')) (h : k h' = res) : rV r k = res := by rw [e]; exact h
theorem neg1_lt0 : ((-nI 1) < nI 0) = True := by decide
theorem mK_pI (h : mjS) (a k : Nat) (v : Int32) (x : Nat) : mK (pI h a k v) x = mK h x := rfl
theorem mN_pI (h : mjS) (a k : Nat) (v : Int32) (x : Nat) : mN (pI h a k v) x = mN h x := rfl
theorem mR_pI (h : mjS) (a k : Nat) (v : Int32) (x y : Nat) : mR (pI h a k v) x y = mR h x y := rfl
theorem neg1i {n : Nat} (h : n < 2 ^ 31) : (nI n = -nI 1) = False := by
  apply eq_false
  intro e
  have := congrArg Int32.toInt e
  rw [nI_toInt h, show (-nI 1 : Int32).toInt = -1 from by decide] at this
  omega
