/-! taking a step's equation apart -/
theorem kLi_some {l : List Value} {i : Nat} {k : Int32 → mjO} {r : Value × mjS} (h : kLi l i k = some r) : ∃ x, mjAt l i = some (.int x) ∧ k x = some r := by
  unfold kLi at h; split at h
  · rename_i x e; exact ⟨x, e, h⟩
  · cases h
theorem kLl_some {l : List Value} {i : Nat} {k : Int64 → mjO} {r : Value × mjS} (h : kLl l i k = some r) : ∃ x, mjAt l i = some (.long x) ∧ k x = some r := by
  unfold kLl at h; split at h
  · rename_i x e; exact ⟨x, e, h⟩
  · cases h
theorem kLa_some {l : List Value} {i : Nat} {k : Nat → mjO} {r : Value × mjS} (h : kLa l i k = some r) : ∃ x, mjAt l i = some (.ref x) ∧ k x = some r := by
  unfold kLa at h; split at h
  · rename_i x e; exact ⟨x, e, h⟩
  · cases h
theorem k1i_some {l : List Value} {k : Int32 → List Value → mjO} {r : Value × mjS} (h : k1i l k = some r) : ∃ x t, l = .int x :: t ∧ k x t = some r := by
  unfold k1i at h; split at h
  · exact ⟨_, _, rfl, h⟩
  · cases h
theorem k1l_some {l : List Value} {k : Int64 → List Value → mjO} {r : Value × mjS} (h : k1l l k = some r) : ∃ x t, l = .long x :: t ∧ k x t = some r := by
  unfold k1l at h; split at h
  · exact ⟨_, _, rfl, h⟩
  · cases h
theorem k1a_some {l : List Value} {k : Nat → List Value → mjO} {r : Value × mjS} (h : k1a l k = some r) : ∃ x t, l = .ref x :: t ∧ k x t = some r := by
  unfold k1a at h; split at h
  · exact ⟨_, _, rfl, h⟩
  · cases h
theorem mjIf_some {c : Prop} [Decidable c] {a : mjO} {r : Value × mjS} (h : (if c then a else none) = some r) : c ∧ a = some r := by
  split at h
  · rename_i hc; exact ⟨hc, h⟩
  · cases h
theorem mjIfn_some {c : Prop} [Decidable c] {a : mjO} {r : Value × mjS} (h : (if c then none else a) = some r) : ¬ c ∧ a = some r := by
  split at h
  · cases h
  · rename_i hc; exact ⟨hc, h⟩
theorem mjBif_some {c : Bool} {a : mjO} {r : Value × mjS} (h : (bif c then a else none) = some r) : c = true ∧ a = some r := by
  cases c
  · cases h
  · exact ⟨rfl, h⟩
theorem mjNil_some {st : List Value} {k : mjO} {r : Value × mjS} (h : mjNil st k = some r) : st = [] ∧ k = some r := by
  unfold mjNil at h; split at h
  · exact ⟨rfl, h⟩
  · cases h
theorem mjPop_some {k : List Value → List Value → mjO} {r : Value × mjS} : ∀ (n : Nat) (acc st : List Value), mjPop n acc st k = some r → ∃ as t, as.length = n ∧ st = as.reverse ++ t ∧ k (as ++ acc) t = some r := by
  intro n
  induction n with
  | zero => intro acc st h; exact ⟨[], st, rfl, rfl, h⟩
  | succ n ih =>
    intro acc st h
    cases st with
    | nil => cases h
    | cons v st =>
      obtain ⟨as, t, h1, h2, h3⟩ := ih (v :: acc) st h
      exact ⟨as ++ [v], t, by simp [h1], by simp [h2], by simpa using h3⟩
theorem rI_some {x : mjO} {k : Int32 → mjS → mjO} {r : Value × mjS} (h : rI x k = some r) : ∃ v s, x = some (.int v, s) ∧ k v s = some r := by
  unfold rI at h; split at h
  · exact ⟨_, _, rfl, h⟩
  · cases h
theorem rL_some {x : mjO} {k : Int64 → mjS → mjO} {r : Value × mjS} (h : rL x k = some r) : ∃ v s, x = some (.long v, s) ∧ k v s = some r := by
  unfold rL at h; split at h
  · exact ⟨_, _, rfl, h⟩
  · cases h
theorem rA_some {x : mjO} {k : Nat → mjS → mjO} {r : Value × mjS} (h : rA x k = some r) : ∃ v s, x = some (.ref v, s) ∧ k v s = some r := by
  unfold rA at h; split at h
  · exact ⟨_, _, rfl, h⟩
  · cases h
theorem rV_some {x : mjO} {k : mjS → mjO} {r : Value × mjS} (h : rV x k = some r) : ∃ v s, x = some (v, s) ∧ k s = some r := by
  unfold rV at h; split at h
  · exact ⟨_, _, rfl, h⟩
  · cases h
theorem mjCat_eq (f : Nat → Nat) : ∀ st : List Value, ((st.map (mjTr f)).map fun v => v.category).sum = mjCat st := by
  intro st
  induction st with
  | nil => rfl
  | cons v st ih =>
    show ((mjTr f v).category :: ((st.map (mjTr f)).map fun v => v.category)).sum = _
    rw [List.sum_cons, ih, mjTr_cat]; rfl
/-! the locals with which a method begins -/
theorem mjX_cons {n : Nat} {a : Value} (ha : mjV n a) (as : List Value) : (∃ x, a = .long x) ∨ (mjX (a :: as) = a :: mjX as ∧ ¬ a.category = 2) := by
  cases a with
  | long x => exact Or.inl ⟨x, rfl⟩
  | double b => exact absurd ha id
  | _ => exact Or.inr ⟨rfl, by simp [Value.category]⟩
theorem mjX_at (f : Nat → Nat) {n : Nat} : ∀ (as : List Value) (i j : Nat) (v : Value), mjVs n as → mjAt (mjX as) j = some v → mjNF v → (i + j, mjTr f v) ∈ lv_args i (as.map (mjTr f)) := by
  intro as
  induction as with
  | nil => intro i j v _ h; cases h
  | cons a as ih =>
    intro i j v hs h hn
    rcases mjX_cons hs.head as with ⟨x, rfl⟩ | ⟨hx, hd⟩
    · show _ ∈ (i, mjTr f (.long x)) :: lv_args (if (mjTr f (.long x)).category = 2 then i + 2 else i + 1) (as.map (mjTr f))
      rw [if_pos (show (mjTr f (Value.long x)).category = 2 from rfl)]
      match j, h with
      | 0, h =>
        obtain rfl : Value.long x = v := Option.some.inj h
        exact List.mem_cons_self
      | 1, h =>
        obtain rfl : mjD = v := Option.some.inj h
        exact absurd hn id
      | j + 2, h =>
        have := ih (i + 2) j v hs.tail h hn
        rw [show i + 2 + j = i + (j + 2) by omega] at this
        exact List.mem_cons_of_mem _ this
    · rw [hx] at h
      show _ ∈ (i, mjTr f a) :: lv_args (if (mjTr f a).category = 2 then i + 2 else i + 1) (as.map (mjTr f))
      rw [if_neg (by rw [mjTr_cat]; exact hd)]
      match j, h with
      | 0, h =>
        obtain rfl : a = v := Option.some.inj h
        exact List.mem_cons_self
      | j + 1, h =>
        have := ih (i + 1) j v hs.tail h hn
        rw [show i + 1 + j = i + (j + 1) by omega] at this
        exact List.mem_cons_of_mem _ this
theorem mjX_len (f : Nat → Nat) {n : Nat} : ∀ (as : List Value), mjVs n as → (lg_sl (as.map (mjTr f))).length = (mjX as).length := by
  intro as
  induction as with
  | nil => intro _; rfl
  | cons a as ih =>
    intro hs
    show ((if (mjTr f a).category = 2 then [Slot.val (mjTr f a), .second] else [.val (mjTr f a)]) ++ lg_sl (as.map (mjTr f))).length = _
    rw [List.length_append, ih hs.tail, mjTr_cat]
    rcases mjX_cons hs.head as with ⟨x, rfl⟩ | ⟨hx, hd⟩
    · show 2 + _ = (mjX as).length + 1 + 1
      omega
    · rw [hx, if_neg hd]
      show 1 + _ = (mjX as).length + 1
      omega
theorem mjPad_at : ∀ (n : Nat) (l : List Value) (j : Nat) (v : Value), mjAt (mjPad n l) j = some v → mjNF v → mjAt l j = some v := by
  intro n
  induction n with
  | zero => intro l j v h; cases h
  | succ n ih =>
    intro l j v h hn
    cases l with
    | nil =>
      cases j with
      | zero =>
        obtain rfl : mjD = v := Option.some.inj h
        exact absurd hn id
      | succ j => exact absurd (ih [] j v h hn) (by simp [mjAt])
    | cons a l =>
      cases j with
      | zero => exact h
      | succ j => exact ih l j v h hn
theorem mjPad_len : ∀ (n : Nat) (l : List Value), (mjPad n l).length = n := by
  intro n
  induction n with
  | zero => intro l; rfl
  | succ n ih => intro l; cases l <;> simp [mjPad, ih]
theorem mjPad_mem : ∀ (n : Nat) (l : List Value) (v : Value), v ∈ mjPad n l → v = mjD ∨ v ∈ l := by
  intro n
  induction n with
  | zero => intro l v h; cases h
  | succ n ih =>
    intro l v h
    cases l with
    | nil =>
      rcases List.mem_cons.mp h with h | h
      · exact Or.inl h
      · exact ih [] v h
    | cons a l =>
      rcases List.mem_cons.mp h with h | h
      · exact Or.inr (by rw [h]; exact List.mem_cons_self)
      · rcases ih l v h with h | h
        · exact Or.inl h
        · exact Or.inr (List.mem_cons_of_mem _ h)
theorem mjX_mem {n : Nat} : ∀ (as : List Value) (v : Value), mjVs n as → v ∈ mjX as → v = mjD ∨ v ∈ as := by
  intro as
  induction as with
  | nil => intro v _ h; cases h
  | cons a as ih =>
    intro v hs h
    rcases mjX_cons hs.head as with ⟨x, rfl⟩ | ⟨hx, hd⟩
    · have h : v ∈ Value.long x :: mjD :: mjX as := h
      rcases List.mem_cons.mp h with h | h
      · exact Or.inr (by rw [h]; exact List.mem_cons_self)
      · rcases List.mem_cons.mp h with h | h
        · exact Or.inl h
        · rcases ih v hs.tail h with h | h
          · exact Or.inl h
          · exact Or.inr (List.mem_cons_of_mem _ h)
    · rw [hx] at h
      rcases List.mem_cons.mp h with h | h
      · exact Or.inr (by rw [h]; exact List.mem_cons_self)
      · rcases ih v hs.tail h with h | h
        · exact Or.inl h
        · exact Or.inr (List.mem_cons_of_mem _ h)
theorem mjEnt_vs {n c : Nat} {as : List Value} (h : mjVs n as) : mjVs n (mjEnt c as) := by
  intro v hv
  rcases mjPad_mem _ _ v hv with rfl | hv
  · trivial
  · rcases mjX_mem as v h hv with rfl | hv
    · trivial
    · exact h v hv
theorem mjEnt_ls (f : Nat → Nat) {n c : Nat} {as : List Value} (h : mjVs n as) (hl : (mjX as).length ≤ (mjMeta c).1) : mjLs f (mjEnt c as) ((lg_sl (as.map (mjTr f)) ++ List.replicate ((mjMeta c).1 - (lg_sl (as.map (mjTr f))).length) Slot.unset).toArray) (mjMeta c).1 := by
  have h0 := lv_entry (as.map (mjTr f)) (n := (mjMeta c).1) (by rw [mjX_len f as h]; exact hl)
  refine ⟨mjPad_len _ _, h0.1, h0.2.1, fun q hq => h0.2.2 q ?_⟩
  obtain ⟨j, v, h1, h2, h3⟩ := mjLv_mem f _ _ _ hq
  have h4 := mjX_at f as 0 j v h (mjPad_at _ _ j v h1 h2) h2
  rw [h3]; exact h4
