/-! WHAT THE SMALL MACHINE ANSWERS, THE MACHINE ANSWERS -/
def mjTb : List Cond := lw_tbl.filter goodWord
def mjNs : Cond → Bool
  | .fieldLinkNest .. => true
  | .methodLinkNest .. => true
  | _ => false
def mjCtx (c lv : Nat) (p : Program) (R : Room) (s : State) (m : MethodId) (args : Array Value) (meth : Method) (cd : Code) : Prop :=
  p.tables.exec = Jvm.exec ∧ cd.code = mjBy c ∧ meth.sig.returnType = mjRt c ∧ cd.maxLocals = (mjMeta c).1 ∧ s.vm.findClass (mjY c).cls = some m.cls ∧ (∀ w ∈ mjTb, w.before args s = true) ∧ meth.name = (mjY c).name ∧ meth.locks = false ∧ c < 264 ∧ mjRk c + 2 * lv ≤ R.frames ∧ 64 * (mjRk c + 2 * lv) ≤ R.locals ∧ 12 ≤ mjRk c
theorem mjCtx.word {c lv : Nat} {p : Program} {R : Room} {s : State} {m : MethodId} {args : Array Value} {meth : Method} {cd : Code} (C : mjCtx c lv p R s m args meth cd) {i : Nat} {w : Cond} (h : lw_tbl[i]? = some w) (hg : goodWord w = true) : w.before args s = true :=
  C.2.2.2.2.2.1 w (List.mem_filter.mpr ⟨List.mem_of_getElem? h, hg⟩)
/-- a method of the texts' class, answered at once -/
def mjP (l : Launch) (O : State → Prop) (B : Nat) (y : MethodName) (as : List Value) (r : Int32) : Prop :=
  ∀ (p : Program) (e : Env) (R : Room) (s : State) (m : MethodId) (args : Array Value) (below : List Frame) (meth : Method) (c : Code) (H : Heap) (locs : List Loc) (cells slots : Nat) (Q : State → Prop) (cc : ByteArray) (pc idx : Nat) (ls : Array Slot) (rest : List Value) (A : Nat → Prop) (own : String),
    O s → p.tables.exec = Jvm.exec → c.code = cc → c.maxLocals = ls.size → s.vm.findClass own = some m.cls → (∀ w ∈ mjTb, w.before args s = true) → va_S A s.heap H locs → (∀ q, A q → B ≤ q) → 12 ≤ R.frames → 768 ≤ R.locals → (Cond.methodLink own idx y).before args s = true → (rest.map fun v => v.category).sum ≤ 8 → decode cc pc = .ok (.invokevirtual idx, 3) → cells ≤ R.cells → slots ≤ R.slots →
    W p l e R s m args below meth c H locs cells slots Q (F0 m (pc + 3) ls (.int r :: rest)) → W p l e R s m args below meth c H locs cells slots Q (F0 m pc ls (as.reverse ++ rest))
/-- what is known of the place: the script, the texts, the words that don't keep by themselves -/
def mjEnv (l : Launch) (B b L : Nat) (xs : Nat → Int32) (k0 k1 : Nat) (O : State → Prop) : Prop :=
  (∀ s, O s → va_X b L xs s s.heap ∧ b < B ∧ B ≤ s.heap.size) ∧
  (∀ s, O s → ∀ w ∈ lw_tbl, mjNs w = true → w.before #[] s = true) ∧
  (∀ s, O s → va_AO RX6 s ∧ va_AO RX4 s ∧ va_AO RX9 s) ∧
  (∀ s, O s → vk_R "GladSpider$Tape" 70 "field work take if or and not spider person carries glad own hedge built need with lying day" k0 s ∧ vk_R "GladSpider$Tape" 63 ";[]+-*/%<=>" k1 s) ∧
  (∀ s U A locs, O s → va_S A s.heap U.heap locs → (∀ q, A q → B ≤ q) → s.WarmedH U.vm → O U) ∧
  (∀ U g mk a, O U → O (U.calling g mk a)) ∧
  (∀ i a, (i = 2 ∧ a = k0) ∨ (i = 3 ∧ a = k1) → mjP l O B ⟨"java/lang/String", "length", "()I"⟩ [.ref a] (Int32.ofNat (mjTx i).length)) ∧
  (∀ i a, (i = 2 ∧ a = k0) ∨ (i = 3 ∧ a = k1) → ∀ x, mjIn x (mjTx i).length → mjP l O B ⟨"java/lang/String", "charAt", "(I)C"⟩ [.ref a, .int x] (mjGet (mjTx i) x.toNatClampNeg)) ∧
  (∀ i a, (i = 2 ∧ a = k0) ∨ (i = 3 ∧ a = k1) → ∀ x, mjP l O B ⟨"java/lang/String", "indexOf", "(I)I"⟩ [.ref a, .int x] (mjFind (mjTx i) x 0))
def mjRv (c : Nat) (w : Value) : Option Value := match mjRt c with
  | none => none
  | some _ => some w
def mjQ (D : va_G) (B b L : Nat) (xs : Nat → Int32) (k0 k1 : Nat) (f : Nat → Nat) (n : Nat) (v : Value) (h' : mjS) (c : Nat) (A : Nat → Prop) : Array Value → State → Outcome → State → Prop := fun _ st o t =>
  (∃ (f' : Nat → Nat) (cA' : Nat → ClassId) (tys' : List (ClassId × FieldType)), (∀ a, a < n → f' a = f a) ∧ o = .returned (mjRv c (mjTr f' v)) ∧ va_P D mjCl (mjWs f' cA' h') t.heap ∧ va_K D mjCl tys' t ∧ va_D A (mjWs f' cA' h') ∧ mjOk B b L xs k0 k1 f' cA' tys' h' ∧ mjV (mX h') v) ∧ va_F A st t
def mjSnd (l : Launch) (D : va_G) (B b L : Nat) (xs : Nat → Int32) (k0 k1 : Nat) (O : State → Prop) (c lv pc : Nat) (ls st : List Value) (h : mjS) (v : Value) (h' : mjS) : Prop :=
  (mX h ≤ mX h' ∧ mZ h ≤ mZ h') ∧ ∀ (p : Program) (e : Env) (R : Room) (s : State) (m : MethodId) (args : Array Value) (below : List Frame) (meth : Method) (cd : Code) (f : Nat → Nat) (cA : Nat → ClassId) (tys : List (ClassId × FieldType)) (A : Nat → Prop) (H : Heap) (locs : List Loc) (cells slots : Nat) (ls0 : Array Slot),
    mjCtx c lv p R s m args meth cd → O s → (∀ q, A q → B ≤ q) → (∀ q, s.heap.size ≤ q → A q) → mjRel D B b L xs k0 k1 f cA tys h s A H locs → mjLs f ls ls0 (mjMeta c).1 → mjVs (mX h) ls → mjVs (mX h) st → cells + (mX h' - mX h) ≤ R.cells → slots + (mZ h' - mZ h) ≤ R.slots →
    W p l e R s m args below meth cd H locs cells slots (MQ below (mjQ D B b L xs k0 k1 f (mX h) v h' c A) args s (cells + (mX h' - mX h)) (slots + (mZ h' - mZ h)) A) (F0 m pc ls0 (st.map (mjTr f)))
section SND
variable {l : Launch} {D : va_G} {B b L : Nat} {xs : Nat → Int32} {k0 k1 : Nat} {O : State → Prop}
theorem mjPure {c lv pc nx : Nat} {ls st st' : List Value} {h : mjS} {v : Value} {h' : mjS} (hw : mjSnd l D B b L xs k0 k1 O c lv nx ls st' h v h') (hv : ∀ n, 4 ≤ n → mjVs n ls → mjVs n st → mjVs n st')
    (rule : ∀ {p : Program} {e : Env} {R : Room} {s : State} {m : MethodId} {args : Array Value} {below : List Frame} {meth : Method} {cd : Code} {f : Nat → Nat} {H : Heap} {locs : List Loc} {cells slots : Nat} {Q : State → Prop} {ls0 : Array Slot}, mjCtx c lv p R s m args meth cd → mjLs f ls ls0 (mjMeta c).1 →
      W p l e R s m args below meth cd H locs cells slots Q (F0 m nx ls0 (st'.map (mjTr f))) → W p l e R s m args below meth cd H locs cells slots Q (F0 m pc ls0 (st.map (mjTr f)))) : mjSnd l D B b L xs k0 k1 O c lv pc ls st h v h' :=
  ⟨hw.1, fun p e R s m args below meth cd f cA tys A H locs cells slots ls0 C o hAB hA hrel hls hvl hvs hc hz =>
    rule C hls (hw.2 p e R s m args below meth cd f cA tys A H locs cells slots ls0 C o hAB hA hrel hls hvl (hv _ hrel.2.2.2.2.1 hvl hvs) hc hz)⟩
theorem mjStore {c lv pc nx i : Nat} {ls st st' : List Value} {h : mjS} {v v0 : Value} {h' : mjS} (hw : mjSnd l D B b L xs k0 k1 O c lv nx (mjSt1 ls i v0) st' h v h') (hv : ∀ n, mjVs n ls → mjVs n st → mjVs n st') (hv0 : ∀ n, mjVs n ls → mjVs n st → mjV n v0)
    (rule : ∀ {p : Program} {e : Env} {R : Room} {s : State} {m : MethodId} {args : Array Value} {below : List Frame} {meth : Method} {cd : Code} {f : Nat → Nat} {H : Heap} {locs : List Loc} {cells slots : Nat} {Q : State → Prop} {ls0 : Array Slot}, mjCtx c lv p R s m args meth cd → lv_has ls0 (mjMeta c).1 (mjLv f ls 0) → mjLs f ls ls0 (mjMeta c).1 →
      (∀ ls' : Array Slot, lv_has ls' (mjMeta c).1 ((i, mjTr f v0) :: (mjLv f ls 0).filter (fun q => !(q.1 == i) && !(q.1 + 1 == i && q.2.category == 2))) → W p l e R s m args below meth cd H locs cells slots Q (F0 m nx ls' (st'.map (mjTr f)))) → W p l e R s m args below meth cd H locs cells slots Q (F0 m pc ls0 (st.map (mjTr f)))) : mjSnd l D B b L xs k0 k1 O c lv pc ls st h v h' :=
  ⟨hw.1, fun p e R s m args below meth cd f cA tys A H locs cells slots ls0 C o hAB hA hrel hls hvl hvs hc hz =>
    rule C hls.2 hls (fun ls' hl' => hw.2 p e R s m args below meth cd f cA tys A H locs cells slots ls' C o hAB hA hrel (hls.st1 hvl.nd hl') (mjVs.st1 (hv0 _ hvl hvs) _ _ hvl) (hv _ hvl hvs) hc hz)⟩
theorem mjStore2 {c lv pc nx i : Nat} {ls st st' : List Value} {h : mjS} {v : Value} {x : Int64} {h' : mjS} (hw : mjSnd l D B b L xs k0 k1 O c lv nx (mjSt2 ls i (.long x)) st' h v h') (hv : ∀ n, mjVs n ls → mjVs n st → mjVs n st')
    (rule : ∀ {p : Program} {e : Env} {R : Room} {s : State} {m : MethodId} {args : Array Value} {below : List Frame} {meth : Method} {cd : Code} {f : Nat → Nat} {H : Heap} {locs : List Loc} {cells slots : Nat} {Q : State → Prop} {ls0 : Array Slot}, mjCtx c lv p R s m args meth cd → lv_has ls0 (mjMeta c).1 (mjLv f ls 0) →
      (∀ ls' : Array Slot, lv_has ls' (mjMeta c).1 ((i, Value.long x) :: (mjLv f ls 0).filter (fun q => !(q.1 == i) && (!(q.1 == i + 1) && !(q.1 + 1 == i && q.2.category == 2)))) → W p l e R s m args below meth cd H locs cells slots Q (F0 m nx ls' (st'.map (mjTr f)))) → W p l e R s m args below meth cd H locs cells slots Q (F0 m pc ls0 (st.map (mjTr f)))) : mjSnd l D B b L xs k0 k1 O c lv pc ls st h v h' :=
  ⟨hw.1, fun p e R s m args below meth cd f cA tys A H locs cells slots ls0 C o hAB hA hrel hls hvl hvs hc hz =>
    rule C hls.2 (fun ls' hl' => hw.2 p e R s m args below meth cd f cA tys A H locs cells slots ls' C o hAB hA hrel (hls.st2 (v := .long x) hvl.nd hl') (mjVs.st2 (v := .long x) trivial hvl) (hv _ hvl hvs) hc hz)⟩
/-- either of two ways -/
theorem mjTwo {c lv pc n1 n2 : Nat} {ls st st' : List Value} {h : mjS} {v : Value} {h' : mjS} {P : Prop} [Decidable P] {X Y : mjO} (hr : (if P then X else Y) = some (v, h')) (h1 : X = some (v, h') → mjSnd l D B b L xs k0 k1 O c lv n1 ls st' h v h') (h2 : Y = some (v, h') → mjSnd l D B b L xs k0 k1 O c lv n2 ls st' h v h') (hv : ∀ n, mjVs n ls → mjVs n st → mjVs n st')
    (rule : ∀ {p : Program} {e : Env} {R : Room} {s : State} {m : MethodId} {args : Array Value} {below : List Frame} {meth : Method} {cd : Code} {f : Nat → Nat} {H : Heap} {locs : List Loc} {cells slots : Nat} {Q : State → Prop} {ls0 : Array Slot}, mjCtx c lv p R s m args meth cd →
      (P → W p l e R s m args below meth cd H locs cells slots Q (F0 m n1 ls0 (st'.map (mjTr f)))) → (¬ P → W p l e R s m args below meth cd H locs cells slots Q (F0 m n2 ls0 (st'.map (mjTr f)))) → W p l e R s m args below meth cd H locs cells slots Q (F0 m pc ls0 (st.map (mjTr f)))) : mjSnd l D B b L xs k0 k1 O c lv pc ls st h v h' := by
  by_cases hP : P
  · rw [if_pos hP] at hr
    have hw := h1 hr
    exact mjPure hw (fun n _ => hv n) (fun C _ k => rule C (fun _ => k) (fun hn => absurd hP hn))
  · rw [if_neg hP] at hr
    have hw := h2 hr
    exact mjPure hw (fun n _ => hv n) (fun C _ k => rule C (fun hp => absurd hp hP) (fun _ => k))
end SND
