/-! the steps over fields, and new cells -/
section FIELDS
variable {l : Launch} {D : va_G} {B b L : Nat} {xs : Nat → Int32} {k0 k1 : Nat} {O : State → Prop}
theorem mjCtx.mem {c lv : Nat} {p : Program} {R : Room} {s : State} {m : MethodId} {args : Array Value} {meth : Method} {cd : Code} (C : mjCtx c lv p R s m args meth cd) {w : Cond} (h : w ∈ lw_tbl) (hg : goodWord w = true) : w.before args s = true :=
  C.2.2.2.2.2.1 w (List.mem_filter.mpr ⟨h, hg⟩)
theorem mj_lay_good {C : String} {T : u_T} {k : Nat} : goodWord (u_lay C T k) = true := by
  unfold u_lay
  split <;> rfl
theorem mj_lays {C : String} {T : u_T} {M : Nat} (h : ∀ w ∈ u_ws C T M, w ∈ lw_tbl) : ∀ w ∈ u_ws C T M, w ∈ mjTb := fun w hw => by
  obtain ⟨k, -, rfl⟩ := List.mem_map.mp hw
  exact List.mem_filter.mpr ⟨h _ hw, mj_lay_good⟩
theorem mjGetF {c lv pc a r1 r2 r3 idx ht : Nat} {ls r : List Value} {h : mjS} {v w : Value} {h' : mjS} (env : mjEnv l B b L xs k0 k1 O) (hw : mjSnd l D B b L xs k0 k1 O c lv (pc + 3) ls (w :: r) h v h') (hwv : ∀ f, mjTr f w = mjFv f h a r3 r2) (hwk : ∀ n, (∀ a k, mR h a k < n) → mjV n w) (hk : mK h a = r1) (hch : mjChF (mjY c).cls idx r1 r2 r3 ht = true) (hd : decode (mjBy c) pc = .ok (.getfield idx, 3)) : mjSnd l D B b L xs k0 k1 O c lv pc ls (.ref a :: r) h v h' := by
  refine ⟨hw.1, fun p e R s m args below meth cd f cA tys A H locs cells slots ls0 C o hAB hA hrel hls hvl hvs hc hz => ?_⟩
  have K := hw.2 p e R s m args below meth cd f cA tys A H locs cells slots ls0 C o hAB hA hrel hls hvl (mjVs.cons (hwk _ hrel.2.2.2.2.2.2.2.2.1) hvs.tail) hc hz
  obtain ⟨hK, hP, hD, hS, ok⟩ := hrel
  unfold mjChF at hch
  cases hcl : mjCl[r1 - 1]? with
  | none => rw [hcl] at hch; cases hch
  | some q =>
    obtain ⟨CC, T, M⟩ := q
    rw [hcl] at hch
    simp only [Bool.and_eq_true, Bool.or_eq_true, decide_eq_true_eq] at hch
    obtain ⟨⟨⟨q1, q2, q3⟩, hft⟩, hlk⟩ := hch
    obtain ⟨h4, hx⟩ := ok.cell hk (by omega) (by omega)
    have he := mjWs_at f cA h h4 hx
    rw [mjE_obj hk (by omega)] at he
    have hv : (mjFs f h a (mjFt r1) 0)[r2]? = some (mjTr f w) := by rw [mjFs_get, hft, Nat.zero_add, hwv]; rfl
    obtain ⟨k1', -, -, -, -, -⟩ := mj_cls _ _ _ _ hcl
    show W _ _ _ _ _ _ _ _ _ _ _ _ _ _ _ (F0 m pc ls0 (mjTr f (.ref a) :: r.map (mjTr f)))
    rw [mjTr_ref f (by omega)]
    rcases hlk with hlk | hlk
    · exact va_get C.1 C.2.1 C.2.2.2.2.2.1 (mj_lays k1') C.2.2.2.2.1 hK hP (a - 4) he hcl r2 q3 (C.word hlk rfl) (fun _ h9 => h9) hv hd K
    · exact va_getN C.1 C.2.1 C.2.2.2.2.2.1 (mj_lays k1') C.2.2.2.2.1 hK hP (a - 4) he hcl r2 q3 (va_Nw.use rfl (env.2.1 s o _ (List.mem_of_getElem? hlk) rfl)) (fun _ h9 => h9) hv hd K
theorem mj_fits {ty : FieldType} {t : Nat} (ht : mjTag ty = t) {f : Nat → Nat} {w : Value} (hw : (t = 0 ∧ ∃ x, w = .int x) ∨ (t = 1 ∧ (w = .int 0 ∨ w = .int 1)) ∨ (t = 2 ∧ ∃ x, w = .long x) ∨ (t = 3 ∧ ∃ a, w = .ref a)) : narrow ty (mjTr f w) = mjTr f w ∧ fits ty (mjTr f w) = true := by
  subst ht
  have hr : ∀ a, mjTr f (.ref a) = .null ∨ ∃ x, mjTr f (.ref a) = .ref x := fun a => va_rf_or (mjOp f a)
  rcases hw with ⟨ht, x, rfl⟩ | ⟨ht, hw⟩ | ⟨ht, x, rfl⟩ | ⟨ht, a, rfl⟩
  · cases ty <;> first | exact ⟨rfl, rfl⟩ | exact absurd ht (by simp [mjTag])
  · cases ty <;> first | (rcases hw with rfl | rfl; exact ⟨(show narrow .boolean (.int 0) = .int 0 by decide), rfl⟩; exact ⟨(show narrow .boolean (.int 1) = .int 1 by decide), rfl⟩) | exact absurd ht (by simp [mjTag])
  · cases ty <;> first | exact ⟨rfl, rfl⟩ | exact absurd ht (by simp [mjTag])
  · rcases hr a with h | ⟨x, h⟩ <;> rw [h] <;> cases ty <;> first | exact ⟨rfl, rfl⟩ | exact absurd ht (by simp [mjTag])
theorem mjPutF {c lv pc a r1 r2 r3 idx ht : Nat} {ls r : List Value} {h h1 : mjS} {v w : Value} {h' : mjS} (env : mjEnv l B b L xs k0 k1 O) (hw : mjSnd l D B b L xs k0 k1 O c lv (pc + 3) ls r h1 v h') (hX : mX h1 = mX h) (hZ : mZ h1 = mZ h)
    (hok : ∀ f cA tys, 4 ≤ a → mjV (mX h) w → mjOk B b L xs k0 k1 f cA tys h → mjOk B b L xs k0 k1 f cA tys h1)
    (hset : ∀ f cA, 4 ≤ a → mK h a = r1 → r1 < 20 → (mjFt r1)[r2]? = some r3 → (mjWs f cA h).set (a - 4) (f a, .inr (r1 - 1, (mjFs f h a (mjFt r1) 0).set r2 (mjTr f w))) = mjWs f cA h1)
    (hfit : (r3 = 0 ∧ ∃ x, w = .int x) ∨ (r3 = 1 ∧ (w = .int 0 ∨ w = .int 1)) ∨ (r3 = 2 ∧ ∃ x, w = .long x) ∨ (r3 = 3 ∧ ∃ a, w = .ref a))
    (hk : mK h a = r1) (hch : mjChF (mjY c).cls idx r1 r2 r3 ht = true) (hcp : mjChP c (mjY c).cls idx r1 r2 ht = true) (hd : decode (mjBy c) pc = .ok (.putfield idx, 3)) : mjSnd l D B b L xs k0 k1 O c lv pc ls (w :: .ref a :: r) h v h' := by
  refine ⟨by rw [← hX, ← hZ]; exact hw.1, fun p e R s m args below meth cd f cA tys A H locs cells slots ls0 C o hAB hA hrel hls hvl hvs hc hz => ?_⟩
  obtain ⟨hK, hP, hD, hS, ok⟩ := hrel
  unfold mjChF at hch
  unfold mjChP at hcp
  cases hcl : mjCl[r1 - 1]? with
  | none => rw [hcl] at hch; cases hch
  | some q =>
    obtain ⟨CC, T, M⟩ := q
    rw [hcl] at hch hcp
    dsimp only at hcp
    simp only [Bool.and_eq_true, Bool.or_eq_true, decide_eq_true_eq] at hch
    obtain ⟨⟨⟨q1, q2, q3⟩, hft⟩, hlk⟩ := hch
    obtain ⟨h4, hx⟩ := ok.cell hk (by omega) (by omega)
    have he := mjWs_at f cA h h4 hx
    rw [mjE_obj hk (by omega)] at he
    obtain ⟨k1', ⟨ty0, hty, htag⟩, hnm, hlen, -, -⟩ := mj_cls _ _ _ _ hcl
    rw [Nat.sub_add_cancel q1] at htag hlen
    have htg : mjTag (ty0 r2) = r3 := by
      have := (htag r2 q3).1
      rw [hft] at this
      exact (Option.some.inj this).symm
    obtain ⟨hn, hf⟩ := mj_fits htg (f := f) hfit
    have hl : r2 < (mjFs f h a (mjFt r1) 0).length := by rw [mjFs_len, hlen]; exact q3
    have kk : ∀ (H1 : Heap) (locs1 : List Loc), va_P D mjCl ((mjWs f cA h).set (a - 4) (f a, .inr (r1 - 1, (mjFs f h a (mjFt r1) 0).set r2 (mjTr f w)))) H1 → va_D A ((mjWs f cA h).set (a - 4) (f a, .inr (r1 - 1, (mjFs f h a (mjFt r1) 0).set r2 (mjTr f w)))) → va_S A s.heap H1 locs1 →
        W p l e R s m args below meth cd H1 locs1 cells slots (MQ below (mjQ D B b L xs k0 k1 f (mX h) v h' c A) args s (cells + (mX h' - mX h)) (slots + (mZ h' - mZ h)) A) (F0 m (pc + 3) ls0 (r.map (mjTr f))) := by
      intro H1 locs1 hP1 hD1 hS1
      rw [hset f cA h4 hk (by omega) hft] at hP1 hD1
      have K := hw.2 p e R s m args below meth cd f cA tys A H1 locs1 cells slots ls0 C o hAB hA ⟨hK, hP1, hD1, hS1, hok f cA tys h4 hvs.head ok⟩ hls (by rw [hX]; exact hvl) (by rw [hX]; exact hvs.tail.tail) (by rw [hX]; exact hc) (by rw [hZ]; exact hz)
      rw [hX, hZ] at K
      exact K
    show W _ _ _ _ _ _ _ _ _ _ _ _ _ _ _ (F0 m pc ls0 (mjTr f w :: mjTr f (.ref a) :: r.map (mjTr f)))
    rw [mjTr_ref f (by omega)]
    cases hfin : (T r2).2.2.2 with
    | true =>
      rw [hfin] at hcp
      simp only [cond_true, Bool.and_eq_true, decide_eq_true_eq] at hcp
      exact va_putF C.1 C.2.1 C.2.2.2.2.2.1 (mj_lays k1') ty0 hty hnm C.2.2.2.2.1 hK hP hD hS (a - 4) he hcl r2 q3 (C.word hcp.2 rfl) (fun _ h9 => h9) hfin (C.2.2.2.2.2.2.1.trans hcp.1.1) hcp.1.2 (hty r2 q3) hn hf hl hd kk
    | false =>
      rcases hlk with hlk | hlk
      · exact va_put C.1 C.2.1 C.2.2.2.2.2.1 (mj_lays k1') ty0 hty hnm C.2.2.2.2.1 hK hP hD hS (a - 4) he hcl r2 q3 (C.word hlk rfl) (fun _ h9 => h9) hfin (hty r2 q3) hn hf hl hd kk
      · exact va_putN C.1 C.2.1 C.2.2.2.2.2.1 (mj_lays k1') ty0 hty hnm C.2.2.2.2.1 hK hP hD hS (a - 4) he hcl r2 q3 (va_Nw.use rfl (env.2.1 s o _ (List.mem_of_getElem? hlk) rfl)) (fun _ h9 => h9) hfin (hty r2 q3) hn hf hl hd kk
theorem W_mono {p : Program} {e : Env} {R : Room} {s : State} {m : MethodId} {args : Array Value} {below : List Frame} {meth : Method} {cd : Code} {H : Heap} {locs : List Loc} {cells slots : Nat} {Q Q' : State → Prop} {g : JFrame} (hq : ∀ t, Q t → Q' t) (k : W p l e R s m args below meth cd H locs cells slots Q g) : W p l e R s m args below meth cd H locs cells slots Q' g := by
  intro T hT X
  obtain ⟨t, a1, b1⟩ := k T hT X
  exact ⟨t, a1, hq t b1⟩
theorem mjQ_mono {f f1 : Nat → Nat} {n n1 : Nat} {v : Value} {h' : mjS} {c : Nat} {A : Nat → Prop} (hn : n ≤ n1) (hf : ∀ a, a < n → f1 a = f a) {a : Array Value} {st : State} {o : Outcome} {t : State} (h : mjQ D B b L xs k0 k1 f1 n1 v h' c A a st o t) : mjQ D B b L xs k0 k1 f n v h' c A a st o t := by
  obtain ⟨⟨f', cA', tys', e1, e2⟩, e3⟩ := h
  exact ⟨⟨f', cA', tys', fun a ha => (e1 a (Nat.lt_of_lt_of_le ha hn)).trans (hf a ha), e2⟩, e3⟩
theorem mjMQ_mono {f f1 : Nat → Nat} {n n1 : Nat} {v : Value} {h' : mjS} {c : Nat} {A : Nat → Prop} (hn : n ≤ n1) (hf : ∀ a, a < n → f1 a = f a) {below : List Frame} {args : Array Value} {s : State} {mc ms mc' ms' : Nat} (h1 : mc' = mc) (h2 : ms' = ms) {t : State} (h : MQ below (mjQ D B b L xs k0 k1 f1 n1 v h' c A) args s mc' ms' A t) : MQ below (mjQ D B b L xs k0 k1 f n v h' c A) args s mc ms A t := by
  subst h1; subst h2
  obtain ⟨o, a1, a2, a3, a4⟩ := h
  exact ⟨o, a1, a2, mjQ_mono hn hf a3, a4⟩
theorem mjLv_up {f : Nat → Nat} {n q : Nat} : ∀ (ls : List Value) (i : Nat), mjVs n ls → mjLv (va_up f n q) ls i = mjLv f ls i := by
  intro ls
  induction ls with
  | nil => intro i _; rfl
  | cons a ls ih =>
    intro i hv
    by_cases ha : mjNF a
    · rw [mjLv_cons _ ha, mjLv_cons _ ha, ih _ hv.tail, mjTr_up hv.head]
    · cases a <;> first | exact ih _ hv.tail | exact absurd trivial ha
/-- behind a new cell -/
theorem mjNew {c lv pc nx kd n w : Nat} {ls st st' : List Value} {h : mjS} {v : Value} {h' : mjS} (hw : mjSnd l D B b L xs k0 k1 O c lv nx ls (.ref (mX h) :: st') (pN h kd n w) v h') (hv : ∀ n, mjVs n st → mjVs n st') (hk30 : kd ≠ 30)
    (rule : ∀ {p : Program} {e : Env} {R : Room} {s : State} {m : MethodId} {args : Array Value} {below : List Frame} {meth : Method} {cd : Code} {f : Nat → Nat} {cA : Nat → ClassId} {tys : List (ClassId × FieldType)} {A : Nat → Prop} {H : Heap} {locs : List Loc} {cells slots : Nat} {Q : State → Prop} {ls0 : Array Slot}, mjCtx c lv p R s m args meth cd → O s → (∀ q, s.heap.size ≤ q → A q) → mjRel D B b L xs k0 k1 f cA tys h s A H locs → cells + 1 ≤ R.cells → slots + w ≤ R.slots →
      (∀ (q : Nat) (c0 : ClassId) (tys' : List (ClassId × FieldType)) (H1 : Heap), va_K D mjCl tys' s → (∀ x ∈ tys, x ∈ tys') → (20 ≤ kd → (c0, mjAty kd) ∈ tys') → va_P D mjCl (mjWs f cA h ++ [(q, mjE (va_up f (mX h) q) (va_up cA (mX h) c0) (pN h kd n w) (mX h))]) H1 → va_D A (mjWs f cA h ++ [(q, mjE (va_up f (mX h) q) (va_up cA (mX h) c0) (pN h kd n w) (mX h))]) → va_S A s.heap H1 locs →
        W p l e R s m args below meth cd H1 locs (cells + 1) (slots + w) Q (F0 m nx ls0 (.ref q :: st'.map (mjTr f)))) → W p l e R s m args below meth cd H locs cells slots Q (F0 m pc ls0 (st.map (mjTr f)))) : mjSnd l D B b L xs k0 k1 O c lv pc ls st h v h' := by
  have m1 : mX h + 1 ≤ mX h' := hw.1.1
  have m2 : mZ h + w ≤ mZ h' := hw.1.2
  refine ⟨⟨by omega, by omega⟩, fun p e R s m args below meth cd f cA tys A H locs cells slots ls0 C o hAB hA hrel hls hvl hvs hc hz => ?_⟩
  refine rule C o hA hrel (by omega) (by omega) (fun q c0 tys' H1 hK1 htys hty hP1 hD1 hS1 => ?_)
  obtain ⟨hK, hP, hD, hS, ok⟩ := hrel
  have hR := ok.2.2.2.2.1
  have e4 := ok.1
  have hq : B ≤ q := hAB q (by
    have := hD1.2 (mjWs f cA h).length (q, mjE (va_up f (mX h) q) (va_up cA (mX h) c0) (pN h kd n w) (mX h)) (by rw [List.getElem?_append_right (Nat.le_refl _), Nat.sub_self]; rfl)
    exact this)
  rw [mjWs_new e4 hR rfl] at hP1 hD1
  have K := hw.2 p e R s m args below meth cd (va_up f (mX h) q) (va_up cA (mX h) c0) tys' A H1 locs (cells + 1) (slots + w) ls0 C o hAB hA ⟨hK1, hP1, hD1, hS1, ok.new htys hq hk30 hty⟩ ⟨hls.1, by rw [mjLv_up ls 0 hvl]; exact hls.2⟩ (hvl.up (Nat.le_succ _)) (mjVs.cons (Nat.lt_succ_self _) ((hv _ hvs).up (Nat.le_succ _))) (by show cells + 1 + (mX h' - (mX h + 1)) ≤ R.cells; omega) (by show slots + w + (mZ h' - (mZ h + w)) ≤ R.slots; omega)
  have es : (Value.ref (mX h) :: st').map (mjTr (va_up f (mX h) q)) = .ref q :: st'.map (mjTr f) := by
    rw [List.map_cons, mjTrs_up (hv _ hvs), mjTr_ref _ (by omega)]
    congr 2
    unfold va_up
    rw [if_pos rfl]
  rw [es] at K
  refine W_mono (fun t ht => mjMQ_mono (Nat.le_succ _) (fun a ha => ?_) ?_ ?_ ht) K
  · unfold va_up
    rw [if_neg (by omega)]
  · show cells + 1 + (mX h' - (mX h + 1)) = _
    omega
  · show slots + w + (mZ h' - (mZ h + w)) = _
    omega
end FIELDS
