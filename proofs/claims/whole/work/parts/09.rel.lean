/-! THE STORE AND THE HEAP: what changes in the one as in the other -/
theorem mjFs_get (f : Nat → Nat) (h : mjS) (a : Nat) : ∀ (l : List Nat) (i j : Nat), (mjFs f h a l i)[j]? = (l[j]?).map (fun t => mjFv f h a t (i + j)) := by
  intro l
  induction l with
  | nil => intro i j; simp [mjFs]
  | cons t l ih =>
    intro i j
    cases j with
    | zero => simp [mjFs]
    | succ j =>
      show (mjFs f h a l (i + 1))[j]? = _
      rw [ih (i + 1) j]
      show _ = (l[j]?).map _
      congr 1
      funext t
      rw [show i + 1 + j = i + (j + 1) by omega]
theorem mjFs_len (f : Nat → Nat) (h : mjS) (a : Nat) : ∀ (l : List Nat) (i : Nat), (mjFs f h a l i).length = l.length := by
  intro l
  induction l with
  | nil => intro i; rfl
  | cons t l ih => intro i; simp [mjFs, ih]
theorem mjFv_congr {f : Nat → Nat} {h h' : mjS} {a t k : Nat} (h1 : mI h' a k = mI h a k) (h2 : mL h' a k = mL h a k) (h3 : mR h' a k = mR h a k) : mjFv f h' a t k = mjFv f h a t k := by
  unfold mjFv
  rw [h1, h2, h3]
theorem mjFs_set {f : Nat → Nat} {h h' : mjS} {a : Nat} (l : List Nat) {k t : Nat} (ht : l[k]? = some t) (ho : ∀ y, y ≠ k → mI h' a y = mI h a y ∧ mL h' a y = mL h a y ∧ mR h' a y = mR h a y) : (mjFs f h a l 0).set k (mjFv f h' a t k) = mjFs f h' a l 0 := by
  apply List.ext_getElem?
  intro j
  by_cases hj : j = k
  · subst hj
    have hl : j < (mjFs f h a l 0).length := by rw [mjFs_len]; exact (List.getElem?_eq_some_iff.mp ht).1
    rw [List.getElem?_set_self hl, mjFs_get, ht, Nat.zero_add]; rfl
  · rw [List.getElem?_set_ne (fun q => hj q.symm), mjFs_get, mjFs_get, Nat.zero_add]
    congr 1
    funext t
    exact (mjFv_congr (ho j hj).1 (ho j hj).2.1 (ho j hj).2.2).symm
theorem mjE_congr {f : Nat → Nat} {cA : Nat → ClassId} {h h' : mjS} {b : Nat} (hK : mK h' b = mK h b) (hN : mN h' b = mN h b) (h1 : mI h' b = mI h b) (h2 : mL h' b = mL h b) (h3 : mR h' b = mR h b) : mjE f cA h' b = mjE f cA h b := by
  have hf : ∀ l, mjFs f h' b l 0 = mjFs f h b l 0 := by
    intro l
    apply List.ext_getElem?
    intro j
    rw [mjFs_get, mjFs_get]
    congr 1
    funext t
    exact mjFv_congr (by rw [h1]) (by rw [h2]) (by rw [h3])
  unfold mjE
  rw [hK, hN, h1, h2, h3, hf]
theorem mI_pI_ne {h : mjS} {a k : Nat} {v : Int32} {b : Nat} (hb : b ≠ a) : mI (pI h a k v) b = mI h b := by
  funext y
  show (if b = a ∧ y = k then v else _) = _
  rw [if_neg (fun q => hb q.1)]; rfl
theorem mI_pI_up {h : mjS} {a k : Nat} {v : Int32} : mI (pI h a k v) a = upd (mI h a) k v := by
  funext y
  show (if a = a ∧ y = k then v else _) = if y = k then v else _
  by_cases hy : y = k
  · rw [if_pos ⟨rfl, hy⟩, if_pos hy]
  · rw [if_neg (fun q => hy q.2), if_neg hy]; rfl
theorem mL_pL_ne {h : mjS} {a k : Nat} {v : Int64} {b : Nat} (hb : b ≠ a) : mL (pL h a k v) b = mL h b := by
  funext y
  show (if b = a ∧ y = k then v else _) = _
  rw [if_neg (fun q => hb q.1)]; rfl
theorem mL_pL_up {h : mjS} {a k : Nat} {v : Int64} : mL (pL h a k v) a = vp_updL (mL h a) k v := by
  funext y
  show (if a = a ∧ y = k then v else _) = if y = k then v else _
  by_cases hy : y = k
  · rw [if_pos ⟨rfl, hy⟩, if_pos hy]
  · rw [if_neg (fun q => hy q.2), if_neg hy]; rfl
theorem mR_pR_ne {h : mjS} {a k : Nat} {v : Nat} {b : Nat} (hb : b ≠ a) : mR (pR h a k v) b = mR h b := by
  funext y
  show (if b = a ∧ y = k then v else _) = _
  rw [if_neg (fun q => hb q.1)]; rfl
theorem mR_pR {h : mjS} {a k : Nat} {v : Nat} (b y : Nat) : mR (pR h a k v) b y = if b = a ∧ y = k then v else mR h b y := rfl
/-- what holds of store and places at all times -/
def mjOk (B b L : Nat) (xs : Nat → Int32) (k0 k1 : Nat) (f : Nat → Nat) (cA : Nat → ClassId) (tys : List (ClassId × FieldType)) (h : mjS) : Prop :=
  4 ≤ mX h ∧ (∀ a, mK h a ≠ 0 → (a = 1 ∧ mK h a = 30) ∨ (4 ≤ a ∧ a < mX h ∧ mK h a ≠ 30)) ∧ (∀ a, 4 ≤ a → a < mX h → 20 ≤ mK h a → (cA a, mjAty (mK h a)) ∈ tys) ∧ (∀ a, 4 ≤ a → a < mX h → B ≤ f a) ∧ (∀ a k, mR h a k < mX h) ∧
  f 1 = b ∧ f 2 = k0 ∧ f 3 = k1 ∧ mN h 1 = L ∧ ∀ k, mI h 1 k = xs k
def mjRel (D : va_G) (B b L : Nat) (xs : Nat → Int32) (k0 k1 : Nat) (f : Nat → Nat) (cA : Nat → ClassId) (tys : List (ClassId × FieldType)) (h : mjS) (s : State) (A : Nat → Prop) (H : Heap) (locs : List Loc) : Prop :=
  va_K D mjCl tys s ∧ va_P D mjCl (mjWs f cA h) H ∧ va_D A (mjWs f cA h) ∧ va_S A s.heap H locs ∧ mjOk B b L xs k0 k1 f cA tys h
theorem mjOk.cell {B b L : Nat} {xs : Nat → Int32} {k0 k1 : Nat} {f : Nat → Nat} {cA : Nat → ClassId} {tys : List (ClassId × FieldType)} {h : mjS} (o : mjOk B b L xs k0 k1 f cA tys h) {a r : Nat} (hk : mK h a = r) (h0 : r ≠ 0) (h30 : r ≠ 30) : 4 ≤ a ∧ a < mX h := by
  rcases o.2.1 a (by rw [hk]; exact h0) with ⟨-, h1⟩ | ⟨h1, h2, -⟩
  · exact absurd (hk.symm.trans h1) h30
  · exact ⟨h1, h2⟩
theorem mjOk.script {B b L : Nat} {xs : Nat → Int32} {k0 k1 : Nat} {f : Nat → Nat} {cA : Nat → ClassId} {tys : List (ClassId × FieldType)} {h : mjS} (o : mjOk B b L xs k0 k1 f cA tys h) {a : Nat} (hk : mK h a = 30) : a = 1 := by
  rcases o.2.1 a (by rw [hk]; decide) with ⟨h1, -⟩ | ⟨-, -, h2⟩
  · exact h1
  · exact absurd hk h2
theorem mjOk.pI {B b L : Nat} {xs : Nat → Int32} {k0 k1 : Nat} {f : Nat → Nat} {cA : Nat → ClassId} {tys : List (ClassId × FieldType)} {h : mjS} (o : mjOk B b L xs k0 k1 f cA tys h) {a k : Nat} {v : Int32} (h4 : 4 ≤ a) : mjOk B b L xs k0 k1 f cA tys (pI h a k v) := by
  obtain ⟨o1, o2, o3, o4, o5, o6, o7, o8, o9, o10⟩ := o
  exact ⟨o1, o2, o3, o4, o5, o6, o7, o8, o9, fun y => by rw [mI_pI_ne (by omega)]; exact o10 y⟩
theorem mjOk.pL {B b L : Nat} {xs : Nat → Int32} {k0 k1 : Nat} {f : Nat → Nat} {cA : Nat → ClassId} {tys : List (ClassId × FieldType)} {h : mjS} (o : mjOk B b L xs k0 k1 f cA tys h) {a k : Nat} {v : Int64} : mjOk B b L xs k0 k1 f cA tys (pL h a k v) := o
theorem mjOk.pR {B b L : Nat} {xs : Nat → Int32} {k0 k1 : Nat} {f : Nat → Nat} {cA : Nat → ClassId} {tys : List (ClassId × FieldType)} {h : mjS} (o : mjOk B b L xs k0 k1 f cA tys h) {a k v : Nat} (hv : v < mX h) : mjOk B b L xs k0 k1 f cA tys (pR h a k v) := by
  obtain ⟨o1, o2, o3, o4, o5, o6, o7, o8, o9, o10⟩ := o
  refine ⟨o1, o2, o3, o4, fun x y => ?_, o6, o7, o8, o9, o10⟩
  rw [mR_pR]
  show _ < mX h
  split
  · exact hv
  · exact o5 x y
theorem mjWs_I {f : Nat → Nat} {cA : Nat → ClassId} {h : mjS} {a k : Nat} {v : Int32} (h4 : 4 ≤ a) (hk : mK h a = 20 ∨ mK h a = 21 ∨ mK h a = 22) : (mjWs f cA h).set (a - 4) (f a, .inl (cA a, mN h a, .inl (upd (mI h a) k v))) = mjWs f cA (pI h a k v) := by
  refine mjWs_set h4 rfl ?_ (fun b hb => mjE_congr rfl rfl (mI_pI_ne hb) rfl rfl)
  unfold mjE
  rw [if_pos (show mK (pI h a k v) a = 20 ∨ mK (pI h a k v) a = 21 ∨ mK (pI h a k v) a = 22 from hk), mI_pI_up]; rfl
theorem mjWs_L {f : Nat → Nat} {cA : Nat → ClassId} {h : mjS} {a k : Nat} {v : Int64} (h4 : 4 ≤ a) (hk : mK h a = 23) : (mjWs f cA h).set (a - 4) (f a, .inl (cA a, mN h a, .inr (.inl (vp_updL (mL h a) k v)))) = mjWs f cA (pL h a k v) := by
  refine mjWs_set h4 rfl ?_ (fun b hb => mjE_congr rfl rfl rfl (mL_pL_ne hb) rfl)
  unfold mjE
  rw [if_neg (show ¬ (mK (pL h a k v) a = 20 ∨ mK (pL h a k v) a = 21 ∨ mK (pL h a k v) a = 22) by show ¬ (mK h a = 20 ∨ mK h a = 21 ∨ mK h a = 22); omega), if_pos (show mK (pL h a k v) a = 23 from hk), mL_pL_up]; rfl
theorem mjWs_R {f : Nat → Nat} {cA : Nat → ClassId} {h : mjS} {a k v : Nat} (h4 : 4 ≤ a) (hk : mK h a = 24 ∨ mK h a = 25 ∨ mK h a = 26) (hv : v ≠ 0) : (mjWs f cA h).set (a - 4) (f a, .inl (cA a, mN h a, .inr (.inr (.inr (.inr (va_up (fun y => mjOp f (mR h a y)) k (some (f v)))))))) = mjWs f cA (pR h a k v) := by
  refine mjWs_set h4 rfl ?_ (fun b hb => mjE_congr rfl rfl rfl rfl (mR_pR_ne hb))
  unfold mjE
  rw [if_neg (show ¬ (mK (pR h a k v) a = 20 ∨ mK (pR h a k v) a = 21 ∨ mK (pR h a k v) a = 22) by show ¬ (mK h a = 20 ∨ mK h a = 21 ∨ mK h a = 22); omega), if_neg (show ¬ mK (pR h a k v) a = 23 by show ¬ mK h a = 23; omega), if_pos (show mK (pR h a k v) a = 24 ∨ mK (pR h a k v) a = 25 ∨ mK (pR h a k v) a = 26 from hk)]
  have hfun : (fun y => mjOp f (mR (pR h a k v) a y)) = va_up (fun y => mjOp f (mR h a y)) k (some (f v)) := by
    funext y
    rw [mR_pR]
    by_cases hy : y = k
    · rw [if_pos ⟨rfl, hy⟩]
      simp [va_up, hy, mjOp, hv]
    · rw [if_neg (fun q => hy q.2)]
      simp [va_up, hy]
  rw [hfun]; rfl
/-- a field of an object is changed -/
theorem mjWs_F {f : Nat → Nat} {cA : Nat → ClassId} {h h' : mjS} {a k t r : Nat} {w : Value} (h4 : 4 ≤ a) (hX : mX h' = mX h) (hr : mK h a = r) (hr1 : r < 20) (hK : mK h' = mK h) (hN : mN h' = mN h) (ht : (mjFt r)[k]? = some t)
    (ho : ∀ b, b ≠ a → mI h' b = mI h b ∧ mL h' b = mL h b ∧ mR h' b = mR h b) (hy : ∀ y, y ≠ k → mI h' a y = mI h a y ∧ mL h' a y = mL h a y ∧ mR h' a y = mR h a y) (hw : mjFv f h' a t k = w) :
    (mjWs f cA h).set (a - 4) (f a, .inr (r - 1, (mjFs f h a (mjFt r) 0).set k w)) = mjWs f cA h' := by
  refine mjWs_set h4 hX ?_ (fun b hb => mjE_congr (by rw [hK]) (by rw [hN]) (ho b hb).1 (ho b hb).2.1 (ho b hb).2.2)
  unfold mjE
  rw [hK, hr, if_neg (by omega), if_neg (by omega), if_neg (by omega), ← hw, mjFs_set (mjFt r) ht hy]
theorem mjE_obj {f : Nat → Nat} {cA : Nat → ClassId} {h : mjS} {a r : Nat} (hr : mK h a = r) (hr1 : r < 20) : mjE f cA h a = .inr (r - 1, mjFs f h a (mjFt r) 0) := by
  unfold mjE
  rw [hr, if_neg (by omega), if_neg (by omega), if_neg (by omega)]
theorem mjE_int {f : Nat → Nat} {cA : Nat → ClassId} {h : mjS} {a : Nat} (hr : mK h a = 20 ∨ mK h a = 21 ∨ mK h a = 22) : mjE f cA h a = .inl (cA a, mN h a, .inl (mI h a)) := by
  unfold mjE
  rw [if_pos hr]
theorem mjE_long {f : Nat → Nat} {cA : Nat → ClassId} {h : mjS} {a : Nat} (hr : mK h a = 23) : mjE f cA h a = .inl (cA a, mN h a, .inr (.inl (mL h a))) := by
  unfold mjE
  rw [if_neg (by omega), if_pos hr]
theorem mjE_ref {f : Nat → Nat} {cA : Nat → ClassId} {h : mjS} {a : Nat} (hr : mK h a = 24 ∨ mK h a = 25 ∨ mK h a = 26) : mjE f cA h a = .inl (cA a, mN h a, .inr (.inr (.inr (.inr fun k => mjOp f (mR h a k))))) := by
  unfold mjE
  rw [if_neg (by omega), if_neg (by omega), if_pos hr]
/-! a new cell -/
theorem mjOp_up {f : Nat → Nat} {n q r : Nat} (hr : r < n) : mjOp (va_up f n q) r = mjOp f r := by
  unfold mjOp va_up
  split
  · rfl
  · rw [if_neg (by omega)]
theorem mjTr_up {f : Nat → Nat} {n q : Nat} {v : Value} (hv : mjV n v) : mjTr (va_up f n q) v = mjTr f v := by
  cases v <;> first | rfl | exact congrArg va_rf (mjOp_up hv)
theorem mjTrs_up {f : Nat → Nat} {n q : Nat} {l : List Value} (hv : mjVs n l) : l.map (mjTr (va_up f n q)) = l.map (mjTr f) := List.map_congr_left fun v h => mjTr_up (hv v h)
theorem mjE_new {f : Nat → Nat} {cA : Nat → ClassId} {h : mjS} {kd n w q : Nat} {c0 : ClassId} (hR : ∀ a k, mR h a k < mX h) {b : Nat} (hb : b < mX h) : mjE (va_up f (mX h) q) (va_up cA (mX h) c0) (pN h kd n w) b = mjE f cA h b := by
  have hne : b ≠ mX h := by omega
  have e1 : mI (pN h kd n w) b = mI h b := by funext y; show (if b = mX h then _ else _) = _; rw [if_neg hne]; rfl
  have e2 : mL (pN h kd n w) b = mL h b := by funext y; show (if b = mX h then _ else _) = _; rw [if_neg hne]; rfl
  have e3 : mR (pN h kd n w) b = mR h b := by funext y; show (if b = mX h then _ else _) = _; rw [if_neg hne]; rfl
  have e4 : mK (pN h kd n w) b = mK h b := by show (if b = mX h then _ else _) = _; rw [if_neg hne]
  have e5 : mN (pN h kd n w) b = mN h b := by show (if b = mX h then _ else _) = _; rw [if_neg hne]
  rw [← mjE_congr (f := f) (cA := cA) e4 e5 e1 e2 e3]
  have hf : ∀ l, mjFs (va_up f (mX h) q) (pN h kd n w) b l 0 = mjFs f (pN h kd n w) b l 0 := by
    intro l
    apply List.ext_getElem?
    intro j
    rw [mjFs_get, mjFs_get]
    congr 1
    funext t
    unfold mjFv
    rw [mjOp_up (by rw [e3]; exact hR b _)]
  have hc : va_up cA (mX h) c0 b = cA b := by unfold va_up; rw [if_neg hne]
  have hg : (fun k => mjOp (va_up f (mX h) q) (mR (pN h kd n w) b k)) = fun k => mjOp f (mR (pN h kd n w) b k) := by
    funext k
    exact mjOp_up (by rw [e3]; exact hR b k)
  unfold mjE
  rw [hf, hc, hg]
theorem mjWs_new {f : Nat → Nat} {cA : Nat → ClassId} {h : mjS} {kd n w q : Nat} {c0 : ClassId} {e : va_E} (h4 : 4 ≤ mX h) (hR : ∀ a k, mR h a k < mX h) (he : mjE (va_up f (mX h) q) (va_up cA (mX h) c0) (pN h kd n w) (mX h) = e) :
    mjWs f cA h ++ [(q, e)] = mjWs (va_up f (mX h) q) (va_up cA (mX h) c0) (pN h kd n w) := by
  have hl : (mjWs f cA h).length = mX h - 4 := by simp [mjWs]
  apply List.ext_getElem?
  intro k
  by_cases hk : k < mX h - 4
  · rw [List.getElem?_append_left (by omega)]
    have a1 := mjWs_at f cA h (a := k + 4) (by omega) (by omega)
    have a2 := mjWs_at (va_up f (mX h) q) (va_up cA (mX h) c0) (pN h kd n w) (a := k + 4) (by omega) (by show k + 4 < mX h + 1; omega)
    rw [Nat.add_sub_cancel] at a1 a2
    rw [a1, a2, mjE_new hR (by omega)]
    congr 2
    unfold va_up
    rw [if_neg (by omega)]
  · rw [List.getElem?_append_right (by omega), hl]
    by_cases hk2 : k = mX h - 4
    · subst hk2
      have a2 := mjWs_at (va_up f (mX h) q) (va_up cA (mX h) c0) (pN h kd n w) (a := mX h) h4 (Nat.lt_succ_self _)
      rw [a2, Nat.sub_self, he]
      show some (q, e) = _
      congr 2
      unfold va_up
      rw [if_pos rfl]
    · rw [List.getElem?_eq_none (by simp; omega), List.getElem?_eq_none (by simp [mjWs]; show mX h + 1 ≤ k + 4; omega)]
theorem mjOk.new {B b L : Nat} {xs : Nat → Int32} {k0 k1 : Nat} {f : Nat → Nat} {cA : Nat → ClassId} {tys tys' : List (ClassId × FieldType)} {h : mjS} (o : mjOk B b L xs k0 k1 f cA tys h) {kd n w q : Nat} {c0 : ClassId} (ht : ∀ x ∈ tys, x ∈ tys') (hq : B ≤ q) (hk : kd ≠ 30) (hA : 20 ≤ kd → (c0, mjAty kd) ∈ tys') : mjOk B b L xs k0 k1 (va_up f (mX h) q) (va_up cA (mX h) c0) tys' (pN h kd n w) := by
  obtain ⟨o1, o2, o3, o4, o5, o6, o7, o8, o9, o10⟩ := o
  have eK : ∀ a, mK (pN h kd n w) a = if a = mX h then kd else mK h a := fun a => rfl
  refine ⟨Nat.le_succ_of_le o1, fun a ha => ?_, fun a h4 hx hk => ?_, fun a h4 hx => ?_, fun a k => ?_, ?_, ?_, ?_, ?_, fun k => ?_⟩
  · rw [eK] at ha ⊢
    by_cases hm : a = mX h
    · rw [if_pos hm] at ha ⊢
      exact Or.inr ⟨by omega, by show a < mX h + 1; omega, hk⟩
    · rw [if_neg hm] at ha ⊢
      rcases o2 a ha with h1 | ⟨h1, h2, h3⟩
      · exact Or.inl h1
      · exact Or.inr ⟨h1, by show a < mX h + 1; omega, h3⟩
  · rw [eK] at hk ⊢
    have hx : a < mX h + 1 := hx
    unfold va_up
    by_cases hm : a = mX h
    · rw [if_pos hm] at hk ⊢
      rw [if_pos hm]
      exact hA hk
    · rw [if_neg hm] at hk ⊢
      rw [if_neg hm]
      exact ht _ (o3 a h4 (by omega) hk)
  · have hx : a < mX h + 1 := hx
    unfold va_up
    by_cases hm : a = mX h
    · rw [if_pos hm]; exact hq
    · rw [if_neg hm]; exact o4 a h4 (by omega)
  · show (if a = mX h then 0 else mR h a k) < mX h + 1
    split
    · omega
    · have := o5 a k; omega
  · unfold va_up; rw [if_neg (by omega)]; exact o6
  · unfold va_up; rw [if_neg (by omega)]; exact o7
  · unfold va_up; rw [if_neg (by omega)]; exact o8
  · show (if 1 = mX h then n else mN h 1) = L
    rw [if_neg (by omega)]; exact o9
  · show (if 1 = mX h then 0 else mI h 1 k) = xs k
    rw [if_neg (by omega)]; exact o10 k
