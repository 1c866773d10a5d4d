/-! THE MACHINE'S OWN FUNCTION: the least one that the step's equation has -/
def mjLe (a b : mjO) : Prop := a = none ∨ a = b
theorem mjLe_none {b : mjO} : mjLe none b := Or.inl rfl
theorem mjLe_rfl {a : mjO} : mjLe a a := Or.inr rfl
theorem kLi_mono {l : List Value} {i : Nat} {k k' : Int32 → mjO} (h : ∀ x, mjLe (k x) (k' x)) : mjLe (kLi l i k) (kLi l i k') := by
  unfold kLi; split
  · exact h _
  · exact mjLe_none
theorem kLl_mono {l : List Value} {i : Nat} {k k' : Int64 → mjO} (h : ∀ x, mjLe (k x) (k' x)) : mjLe (kLl l i k) (kLl l i k') := by
  unfold kLl; split
  · exact h _
  · exact mjLe_none
theorem kLa_mono {l : List Value} {i : Nat} {k k' : Nat → mjO} (h : ∀ x, mjLe (k x) (k' x)) : mjLe (kLa l i k) (kLa l i k') := by
  unfold kLa; split
  · exact h _
  · exact mjLe_none
theorem k1i_mono {l : List Value} {k k' : Int32 → List Value → mjO} (h : ∀ x r, mjLe (k x r) (k' x r)) : mjLe (k1i l k) (k1i l k') := by
  unfold k1i; split
  · exact h _ _
  · exact mjLe_none
theorem k1l_mono {l : List Value} {k k' : Int64 → List Value → mjO} (h : ∀ x r, mjLe (k x r) (k' x r)) : mjLe (k1l l k) (k1l l k') := by
  unfold k1l; split
  · exact h _ _
  · exact mjLe_none
theorem k1a_mono {l : List Value} {k k' : Nat → List Value → mjO} (h : ∀ x r, mjLe (k x r) (k' x r)) : mjLe (k1a l k) (k1a l k') := by
  unfold k1a; split
  · exact h _ _
  · exact mjLe_none
theorem mjPop_mono {k k' : List Value → List Value → mjO} (h : ∀ x r, mjLe (k x r) (k' x r)) : ∀ (n : Nat) (acc st : List Value), mjLe (mjPop n acc st k) (mjPop n acc st k') := by
  intro n
  induction n with
  | zero => intro acc st; exact h _ _
  | succ n ih => intro acc st; cases st with
    | nil => exact mjLe_none
    | cons v st => exact ih _ _
theorem mjSw_mono {k k' : Nat → mjO} (h : ∀ t, mjLe (k t) (k' t)) (d : Nat) (x : Int32) : ∀ (l : List (Int32 × Nat)), mjLe (mjSw l d x k) (mjSw l d x k') := by
  intro l
  induction l with
  | nil => exact h _
  | cons q l ih =>
    obtain ⟨y, t⟩ := q
    show mjLe (if x = y then k t else mjSw l d x k) (if x = y then k' t else mjSw l d x k')
    split
    · exact h _
    · exact ih
theorem rI_mono {r r' : mjO} {k k' : Int32 → mjS → mjO} (hr : mjLe r r') (h : ∀ x s, mjLe (k x s) (k' x s)) : mjLe (rI r k) (rI r' k') := by
  rcases hr with rfl | rfl
  · exact mjLe_none
  · unfold rI; split
    · exact h _ _
    · exact mjLe_none
theorem rL_mono {r r' : mjO} {k k' : Int64 → mjS → mjO} (hr : mjLe r r') (h : ∀ x s, mjLe (k x s) (k' x s)) : mjLe (rL r k) (rL r' k') := by
  rcases hr with rfl | rfl
  · exact mjLe_none
  · unfold rL; split
    · exact h _ _
    · exact mjLe_none
theorem rA_mono {r r' : mjO} {k k' : Nat → mjS → mjO} (hr : mjLe r r') (h : ∀ x s, mjLe (k x s) (k' x s)) : mjLe (rA r k) (rA r' k') := by
  rcases hr with rfl | rfl
  · exact mjLe_none
  · unfold rA; split
    · exact h _ _
    · exact mjLe_none
theorem rV_mono {r r' : mjO} {k k' : mjS → mjO} (hr : mjLe r r') (h : ∀ s, mjLe (k s) (k' s)) : mjLe (rV r k) (rV r' k') := by
  rcases hr with rfl | rfl
  · exact mjLe_none
  · unfold rV; split
    · exact h _
    · exact mjLe_none
theorem mjCmp_mono {q : ClassFile.Cond} {x y : Int32} {a b a' b' : mjO} (h1 : mjLe a a') (h2 : mjLe b b') : mjLe (mjCmp q x y a b) (mjCmp q x y a' b') := by
  unfold mjCmp
  cases q <;> dsimp only <;> split <;> assumption
theorem ite_mono {c : Prop} [Decidable c] {a b a' b' : mjO} (h1 : mjLe a a') (h2 : mjLe b b') : mjLe (if c then a else b) (if c then a' else b') := by
  split <;> assumption
theorem cond_mono {c : Bool} {a b a' b' : mjO} (h1 : mjLe a a') (h2 : mjLe b b') : mjLe (bif c then a else b) (bif c then a' else b') := by
  cases c <;> assumption
theorem mjRcv_mono {h : mjS} {r1 r3 : Nat} {as : List Value} {k k' : mjO} (hk : mjLe k k') : mjLe (mjRcv h r1 r3 as k) (mjRcv h r1 r3 as k') := by
  unfold mjRcv
  refine cond_mono ?_ hk
  split
  · exact ite_mono hk mjLe_none
  · exact mjLe_none
section MONO
variable {g g' : mjT} (hg : ∀ c lv pc ls st h, mjLe (g c lv pc ls st h) (g' c lv pc ls st h))
theorem mjCall_mono (hg : ∀ c lv pc ls st h, mjLe (g c lv pc ls st h) (g' c lv pc ls st h)) {c lv : Nat} {as : List Value} {h : mjS} : mjLe (mjCall g c lv as h) (mjCall g' c lv as h) := cond_mono (hg _ _ _ _ _ _) mjLe_none
theorem mjInv_mono (hg : ∀ c lv pc ls st h, mjLe (g c lv pc ls st h) (g' c lv pc ls st h)) {c lv nx : Nat} {ls : List Value} {h : mjS} {r1 r3 : Nat} {as st : List Value} : mjLe (mjInv g g c lv nx ls h r1 r3 as st) (mjInv g' g' c lv nx ls h r1 r3 as st) := by
  unfold mjInv
  refine cond_mono ?_ mjLe_none
  split
  · exact rV_mono (mjCall_mono hg) fun _ => hg _ _ _ _ _ _
  · exact rI_mono (mjCall_mono hg) fun _ _ => hg _ _ _ _ _ _
  · exact rL_mono (mjCall_mono hg) fun _ _ => hg _ _ _ _ _ _
  · exact rA_mono (mjCall_mono hg) fun _ _ => hg _ _ _ _ _ _
  · split
    · exact mjLe_none
    · exact rV_mono (mjCall_mono hg) fun _ => hg _ _ _ _ _ _
  · split
    · exact ite_mono mjLe_none (hg _ _ _ _ _ _)
    · exact mjLe_none
  · split
    · exact ite_mono (ite_mono (hg _ _ _ _ _ _) mjLe_none) mjLe_none
    · exact mjLe_none
  · split
    · exact ite_mono (hg _ _ _ _ _ _) mjLe_none
    · exact mjLe_none
  · split
    · exact ite_mono (hg _ _ _ _ _ _) mjLe_none
    · exact mjLe_none
  · split
    · exact ite_mono (hg _ _ _ _ _ _) mjLe_none
    · exact mjLe_none
  · split
    · exact hg _ _ _ _ _ _
    · exact mjLe_none
  · split
    · exact hg _ _ _ _ _ _
    · exact mjLe_none
  · split
    · exact hg _ _ _ _ _ _
    · exact mjLe_none
  · exact mjLe_none
set_option maxHeartbeats 4000000 in
theorem mjF_mono (hg : ∀ c lv pc ls st h, mjLe (g c lv pc ls st h) (g' c lv pc ls st h)) (c lv pc : Nat) (ls st : List Value) (h : mjS) : mjLe (mjF g g c lv pc ls st h) (mjF g' g' c lv pc ls st h) := by
  unfold mjF
  cases mjCode c pc with
  | none => exact mjLe_none
  | some q =>
    obtain ⟨ins, nx, r1, r2, r3, ki, kl, ht⟩ := q
    cases ins <;> dsimp only <;> first
      | exact mjLe_none
      | exact hg _ _ _ _ _ _
      | (repeat' first
          | exact mjLe_none
          | exact mjLe_rfl
          | exact hg _ _ _ _ _ _
          | (refine kLi_mono fun _ => ?_)
          | (refine kLl_mono fun _ => ?_)
          | (refine kLa_mono fun _ => ?_)
          | (refine k1i_mono fun _ _ => ?_)
          | (refine k1l_mono fun _ _ => ?_)
          | (refine k1a_mono fun _ _ => ?_)
          | (refine mjCmp_mono ?_ ?_)
          | (refine mjSw_mono (fun _ => ?_) _ _ _)
          | (refine mjPop_mono (fun _ _ => ?_) _ _ _)
          | (refine mjRcv_mono ?_)
          | exact mjInv_mono hg
          | (refine cond_mono ?_ ?_)
          | (refine ite_mono ?_ ?_)
          | split)
end MONO
theorem mjLe_rel {a b : mjO} (h : mjLe a b) : Lean.Order.PartialOrder.rel a b := by
  rcases h with rfl | rfl
  · exact Lean.Order.FlatOrder.rel.bot
  · exact Lean.Order.PartialOrder.rel_refl
theorem mjLe_of {a b : mjO} (h : Lean.Order.PartialOrder.rel a b) : mjLe a b := by
  cases (show Lean.Order.FlatOrder.rel (b := (none : mjO)) a b from h) with
  | bot => exact Or.inl rfl
  | refl => exact Or.inr rfl
theorem mjMono : Lean.Order.monotone (fun g : mjT => fun c lv pc ls st h => mjF g g c lv pc ls st h) := by
  intro g g' hg c lv pc ls st h
  exact mjLe_rel (mjF_mono (fun c lv pc ls st h => mjLe_of (hg c lv pc ls st h)) c lv pc ls st h)
noncomputable def mjEv : mjT := Lean.Order.fix (fun g : mjT => fun c lv pc ls st h => mjF g g c lv pc ls st h) mjMono
theorem mjEv_fix : mjFix mjEv := fun c lv pc ls st h => congrFun (congrFun (congrFun (congrFun (congrFun (congrFun (Lean.Order.fix_eq mjMono) c) lv) pc) ls) st) h
/-- what each step keeps holds of all that it answers -/
theorem mjEv_ind (P : Nat → Nat → Nat → List Value → List Value → mjS → Value → mjS → Prop) (hP : ∀ g : mjT, (∀ c lv pc ls st h v h', g c lv pc ls st h = some (v, h') → P c lv pc ls st h v h') → ∀ c lv pc ls st h v h', mjF g g c lv pc ls st h = some (v, h') → P c lv pc ls st h v h') :
    ∀ c lv pc ls st h v h', mjEv c lv pc ls st h = some (v, h') → P c lv pc ls st h v h' := by
  refine Lean.Order.fix_induct mjMono (fun g => ∀ c lv pc ls st h v h', g c lv pc ls st h = some (v, h') → P c lv pc ls st h v h') ?_ hP
  refine Lean.Order.admissible_pi_apply (P := fun c (g : Nat → Nat → List Value → List Value → mjS → mjO) => ∀ lv pc ls st h v h', g lv pc ls st h = some (v, h') → P c lv pc ls st h v h') fun c => ?_
  refine Lean.Order.admissible_pi_apply (P := fun lv (g : Nat → List Value → List Value → mjS → mjO) => ∀ pc ls st h v h', g pc ls st h = some (v, h') → P c lv pc ls st h v h') fun lv => ?_
  refine Lean.Order.admissible_pi_apply (P := fun pc (g : List Value → List Value → mjS → mjO) => ∀ ls st h v h', g ls st h = some (v, h') → P c lv pc ls st h v h') fun pc => ?_
  refine Lean.Order.admissible_pi_apply (P := fun ls (g : List Value → mjS → mjO) => ∀ st h v h', g st h = some (v, h') → P c lv pc ls st h v h') fun ls => ?_
  refine Lean.Order.admissible_pi_apply (P := fun st (g : mjS → mjO) => ∀ h v h', g h = some (v, h') → P c lv pc ls st h v h') fun st => ?_
  refine Lean.Order.admissible_pi_apply (P := fun h (g : mjO) => ∀ v h', g = some (v, h') → P c lv pc ls st h v h') fun h => ?_
  refine Lean.Order.admissible_flatOrder (b := (none : mjO)) _ ?_
  intro v h' hq
  cases hq
