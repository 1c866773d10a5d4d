/-! switches and calls -/
section CALLS
variable {l : Launch} {D : va_G} {B b L : Nat} {xs : Nat → Int32} {k0 k1 : Nat} {O : State → Prop}
theorem mjSw_table (pc : Int) (d : Nat) (x : Int32) (k : Nat → mjO) (r : Value × mjS) : ∀ (offs : List Int) (lo : Int), 0 ≤ lo → lo + offs.length ≤ 3000 → mjSw (mjOffs pc lo offs) d x k = some r →
    ((x.toInt < lo ∨ lo + offs.length ≤ x.toInt) ∧ k d = some r) ∨ ∃ (j : Nat) (off : Int), offs[j]? = some off ∧ x.toInt = lo + j ∧ k (pc + off).toNat = some r := by
  intro offs
  induction offs with
  | nil =>
    intro lo _ _ h
    refine Or.inl ⟨?_, h⟩
    simp
    omega
  | cons o offs ih =>
    intro lo h0 hl h
    have h : (if x = Int32.ofInt lo then k (pc + o).toNat else mjSw (mjOffs pc (lo + 1) offs) d x k) = some r := h
    have hlen : ((o :: offs).length : Int) = offs.length + 1 := by simp
    rw [hlen] at hl ⊢
    have he : (Int32.ofInt lo).toInt = lo := Int32.toInt_ofInt_of_le (by omega) (by omega)
    by_cases hx : x = Int32.ofInt lo
    · rw [if_pos hx] at h
      exact Or.inr ⟨0, o, rfl, by rw [hx, he]; simp, h⟩
    · rw [if_neg hx] at h
      have hne : x.toInt ≠ lo := fun q => hx (Int32.toInt_inj.mp (q.trans he.symm))
      rcases ih (lo + 1) (by omega) (by omega) h with ⟨h1, h2⟩ | ⟨j, off, h1, h2, h3⟩
      · exact Or.inl ⟨by omega, h2⟩
      · exact Or.inr ⟨j + 1, off, h1, by rw [h2]; push_cast; omega, h3⟩
theorem mjTable {c lv pc nx r1 : Nat} {ls r : List Value} {h : mjS} {v : Value} {h' : mjS} {g : mjT} {x : Int32} {dd lo hi : Int} {offs : Array Int} (IH : ∀ c lv pc ls st h v h', g c lv pc ls st h = some (v, h') → mjSnd l D B b L xs k0 k1 O c lv pc ls st h v h')
    (hr : mjSw (mjOffs pc lo offs.toList) r1 x (fun t => g c lv t ls r h) = some (v, h')) (hd : decode (mjBy c) pc = .ok (.tableswitch dd lo hi offs, nx - pc)) (hdd : (pc : Int) + dd = r1) (hh : hi = lo + offs.size - 1 ∧ 0 ≤ lo ∧ hi ≤ 2000 ∧ offs.toList.all (fun o => decide (0 ≤ (pc : Int) + o)) = true) : mjSnd l D B b L xs k0 k1 O c lv pc ls (.int x :: r) h v h' := by
  obtain ⟨q1, q2, q3, q4⟩ := hh
  have hsz : (offs.toList.length : Int) = offs.size := by simp
  rcases mjSw_table pc r1 x _ _ offs.toList lo q2 (by omega) hr with ⟨h1, h2⟩ | ⟨j, off, h1, h2, h3⟩
  · exact mjPure (IH _ _ _ _ _ _ _ _ h2) (fun _ _ _ hv => hv.tail) (fun C _ k => lv_tableOut C.1 C.2.1 hd (by omega) hdd k)
  · have hj : j < offs.toList.length := (List.getElem?_eq_some_iff.mp h1).1
    have hall := List.all_eq_true.mp q4 off (List.mem_of_getElem? h1)
    simp only [decide_eq_true_eq] at hall
    refine mjPure (IH _ _ _ _ _ _ _ _ h3) (fun _ _ _ hv => hv.tail) (fun C _ k => lv_tableIn C.1 C.2.1 hd (off := off) (by omega) (by omega) ?_ (by omega) k)
    rw [show (x.toInt - lo).toNat = j by omega, ← Array.getElem?_toList]
    exact h1
/-- behind a call -/
theorem mjAfter {p : Program} {e : Env} {R : Room} {s : State} {m : MethodId} {args : Array Value} {below : List Frame} {meth : Method} {cd : Code} {H : Heap} {locs : List Loc} {cells slots mc ms pc : Nat} {Q : State → Prop} {ls0 : Array Slot} {st0 rest : List Value} {Qa : State → Outcome → State → Prop} {free : Addr → Prop} {A A1 : Nat → Prop}
    (hr : va_Run p l e R s m args below meth cd H locs cells slots mc ms (F0 m pc ls0 st0) rest Qa free) (hS : va_S A s.heap H locs) (hA : ∀ q, q < H.size → A1 q → A q) (hf : ∀ q, free q → A q) (hQ : ∀ st₀ v t, Qa st₀ (.returned v) t → va_F A1 st₀ t)
    (kk : ∀ (st₀ : State) (v : Option Value) (t : State) (H1 : Heap) (locs1 : List Loc), t.heap = H1 → s.vm.Alike t.vm → Qa st₀ (.returned v) t → va_S A s.heap H1 locs1 → W p l e R s m args below meth cd H1 locs1 (cells + mc) (slots + ms) Q (F0 m (pc + 3) ls0 (v.toList ++ rest))) : W p l e R s m args below meth cd H locs cells slots Q (F0 m pc ls0 st0) := by
  intro T hT X
  obtain ⟨v, st₀, t, T', L, h0, X', hL, e1, e2, hq, st⟩ := hr T hT X
  obtain ⟨hz, hk⟩ := hQ st₀ v t hq
  rw [h0] at hz hk
  obtain ⟨t2, a1, b1⟩ := kk st₀ v t T'.heap (locs ++ L) e1.symm (by rw [← e2]; exact X'.warmed.alike) hq
    ⟨Nat.le_trans hS.1 (by rw [e1]; exact hz), fun q h1 h2 => by rw [e1, hk q (Nat.lt_of_lt_of_le h1 hS.1) (fun z => h2 (hA q (Nat.lt_of_lt_of_le h1 hS.1) z))]; exact hS.2.1 q h1 h2, fun q hq => by
      rcases List.mem_append.mp hq with h | h
      · exact hS.2.2 q h
      · exact hf _ (hL q h)⟩ T' rfl X'
  exact ⟨t2, st t2 a1, b1⟩
def mjWd (c : Nat) : List Cond := Cond.code (mjY c) (mjBy c) (mjMeta c).1 (mjRt c) :: mjTb
abbrev mjRm (c lv mc ms : Nat) : Room := { frames := mjRk c + 2 * lv, cells := mc, slots := ms, locals := 64 * (mjRk c + 2 * lv) }
abbrev mjPc (D : va_G) (O : State → Prop) (f : Nat → Nat) (cA : Nat → ClassId) (tys : List (ClassId × FieldType)) (h : mjS) (sz : Nat) (as : List Value) : Array Value → State → Prop :=
  va_Pc (as.map (mjTr f)) (fun U => U.heap.size = sz ∧ va_P D mjCl (mjWs f cA h) U.heap ∧ va_K D mjCl tys U ∧ va_D (fun _ => True) (mjWs f cA h) ∧ O U)
theorem mjA_B {f : Nat → Nat} {cA : Nat → ClassId} {tys : List (ClassId × FieldType)} {h : mjS} {sz : Nat} (ok : mjOk B b L xs k0 k1 f cA tys h) (hB : B ≤ sz) : ∀ q, va_A (mjWs f cA h) sz q → B ≤ q := by
  intro q hq
  rcases hq with ⟨k, e, hq⟩ | hq
  · obtain ⟨h1, h2⟩ := mjWs_get f cA h hq
    obtain ⟨rfl, -⟩ := Prod.mk.inj h2
    exact ok.2.2.2.1 _ (by omega) h1
  · exact Nat.le_trans hB hq
/-- a method's contract -/
theorem mjMet {c lv : Nat} {as : List Value} {h h1 : mjS} {w : Value} (sn : mjSnd l D B b L xs k0 k1 O c lv 0 (mjEnt c as) [] h w h1) (hc : c < 263) (hY : mjChY c = true) (hrk : 12 ≤ mjRk c) (hl : (mjX as).length ≤ (mjMeta c).1) {f : Nat → Nat} {cA : Nat → ClassId} {tys : List (ClassId × FieldType)} (hv : mjVs (mX h) as) (ok : mjOk B b L xs k0 k1 f cA tys h) (sz : Nat) (hB : B ≤ sz) :
    Met l (mjY c) (mjWd c) (mjRm c lv (mX h1 - mX h) (mZ h1 - mZ h)) (mjPc D O f cA tys h sz as) (mjQ D B b L xs k0 k1 f (mX h) w h1 c (va_A (mjWs f cA h) sz)) (mX h1 - mX h) (mZ h1 - mZ h) (va_A (mjWs f cA h) sz) := by
  simp only [mjChY, Bool.and_eq_true, decide_eq_true_eq] at hY
  refine Met.ofW (cc := mjBy c) (maxL := (mjMeta c).1) (ret := mjRt c) (ws' := mjTb) hY.1.1.1.1 rfl ?_
  intro p e s m args below meth cd s₁ Bd hml hv'
  obtain ⟨rfl, hsz, hP, hK, hD0, hO⟩ := hv'
  have hts := atoms_spec (ws := mjWd c) Bd.pre
  have C : mjCtx c lv p (headSpec (mjWd c) (mjRm c lv (mX h1 - mX h) (mZ h1 - mZ h))).room s m (as.map (mjTr f)).toArray meth cd :=
    ⟨Bd.exec, Bd.bytes, Bd.returns, hml, findClass_of_methodNamed Bd.named, fun w hw => hts w (List.mem_cons_of_mem _ hw), (name_of_methodNamed Bd.named Bd.method).1, Bd.notSynchronized, by omega, Nat.le_refl _, Nat.le_refl _, hrk⟩
  subst hsz
  rw [lg_entry_eq]
  have K := sn.2 p e _ s m _ below meth cd f cA tys (va_A (mjWs f cA h) s.heap.size) s.heap [] 0 0 _ C hO (mjA_B ok hB) (fun q hq => Or.inr hq) ⟨hK, hP, hD0.self, va_S.rf, ok⟩ (mjEnt_ls f hv hl) (mjEnt_vs hv) (fun _ h => nomatch h) (by rw [Nat.zero_add]; exact Nat.le_refl _) (by rw [Nat.zero_add]; exact Nat.le_refl _)
  rw [Nat.zero_add, Nat.zero_add] at K
  exact K
theorem mjTr_ag {f f' : Nat → Nat} {n : Nat} (hf : ∀ a, a < n → f' a = f a) {v : Value} (hv : mjV n v) : mjTr f' v = mjTr f v := by
  cases v with
  | ref a =>
    show va_rf (mjOp f' a) = va_rf (mjOp f a)
    unfold mjOp
    rw [hf a hv]
  | _ => rfl
theorem mjTrs_ag {f f' : Nat → Nat} {n : Nat} (hf : ∀ a, a < n → f' a = f a) {l : List Value} (hv : mjVs n l) : l.map (mjTr f') = l.map (mjTr f) := List.map_congr_left fun v h => mjTr_ag hf (hv v h)
theorem mjLv_ag {f f' : Nat → Nat} {n : Nat} (hf : ∀ a, a < n → f' a = f a) : ∀ (ls : List Value) (i : Nat), mjVs n ls → mjLv f' ls i = mjLv f ls i := by
  intro ls
  induction ls with
  | nil => intro i _; rfl
  | cons a ls ih =>
    intro i hv
    by_cases ha : mjNF a
    · rw [mjLv_cons _ ha, mjLv_cons _ ha, ih _ hv.tail, mjTr_ag hf hv.head]
    · cases a <;> first | exact ih _ hv.tail | exact absurd trivial ha
theorem mjRv_map (f : Nat → Nat) (c : Nat) (w : Value) : (mjRv c (mjTr f w)).toList = (mjRv c w).toList.map (mjTr f) := by
  unfold mjRv
  cases mjRt c <;> rfl
theorem mjGood (c : Nat) (hY : mjChY c = true) : GoodIn mjTb (mjWd c) := by
  simp only [mjChY, Bool.and_eq_true, decide_eq_true_eq] at hY
  intro w hw
  rcases List.mem_cons.mp hw with rfl | hw
  · exact ⟨List.mem_filter.mpr ⟨List.mem_of_getElem? hY.1.2, rfl⟩, good_of_word rfl⟩
  · exact ⟨hw, good_of_word (List.mem_filter.mp hw).2⟩
/-- a call, and what comes behind it -/
theorem mjCallS {c lv pc r1 lv1 idx ht nP : Nat} {ls as st' : List Value} {h h1 : mjS} {w v : Value} {h' : mjS} (env : mjEnv l B b L xs k0 k1 O)
    (sn1 : mjSnd l D B b L xs k0 k1 O r1 lv1 0 (mjEnt r1 as) [] h w h1) (hl : (mjX as).length ≤ (mjMeta r1).1) (sn2 : mjSnd l D B b L xs k0 k1 O c lv (pc + 3) ls ((mjRv r1 w).toList ++ st') h1 v h')
    (hcat : mjCat st' ≤ 8) (hrk : mjRk r1 + 2 * lv1 + 1 ≤ mjRk c + 2 * lv) (hr12 : 12 ≤ mjRk r1) (hr1 : r1 < 263) (hY : mjChY r1 = true)
    (hlk : lw_tbl[ht]? = some (.methodLink (mjY c).cls idx (mjY r1)) ∨ lw_tbl[ht]? = some (.methodLinkNest (mjY c).cls idx (mjY r1) "GladSpider"))
    (hpar : (parseMethodDescriptor (mjY r1).desc).map (fun d => d.parameters.length) = some nP)
    (hkd : (decode (mjBy c) pc = .ok (.invokevirtual idx, 3) ∧ (∃ i : Nat, lw_tbl[i]? = some (Cond.instanceMethod (mjY r1))) ∧ (∃ i : Nat, lw_tbl[i]? = some (Cond.selects (mjY r1).cls (mjY r1) (mjY r1))) ∧ (∃ a as', as = .ref a :: as' ∧ as'.length = nP ∧ mK h a = mjCk r1) ∧ (mjCl[mjCk r1 - 1]?).map (fun q => q.1) = some (mjY r1).cls ∧ 1 ≤ mjCk r1 ∧ mjCk r1 ≤ 13) ∨
      (decode (mjBy c) pc = .ok (.invokestatic idx, 3) ∧ (∃ i : Nat, lw_tbl[i]? = some (Cond.static (mjY r1))) ∧ as.length = nP) ∨
      (decode (mjBy c) pc = .ok (.invokespecial idx, 3) ∧ (∃ i : Nat, lw_tbl[i]? = some (Cond.instanceMethod (mjY r1))) ∧ (mjY r1).name = "<init>" ∧ mjRt r1 = none ∧ ∃ a as', as = .ref a :: as' ∧ as'.length = nP ∧ mK h a ≠ 0)) :
    mjSnd l D B b L xs k0 k1 O c lv pc ls (as.reverse ++ st') h v h' := by
  have m1 := sn1.1
  have m2 := sn2.1
  refine ⟨⟨by omega, by omega⟩, fun p e R s m args below meth cd f cA tys A H locs cells slots ls0 C o hAB hA hrel hls hvl hvs hc hz => ?_⟩
  obtain ⟨hK, hP, hD, hS, ok⟩ := hrel
  have hva : mjVs (mX h) as := fun x hx => hvs x (List.mem_append_left _ (List.mem_reverse.mpr hx))
  have hvr : mjVs (mX h) st' := fun x hx => hvs x (List.mem_append_right _ hx)
  obtain ⟨e1, e2, e3⟩ := env.1 s o
  have hBH : B ≤ H.size := Nat.le_trans e3 hS.1
  have hM := mjMet sn1 hr1 hY hr12 hl hva ok H.size hBH
  have hG := mjGood r1 hY
  have hYc := hY
  simp only [mjChY, Bool.and_eq_true, decide_eq_true_eq] at hYc
  obtain ⟨⟨⟨⟨y1, y2⟩, y3⟩, y4⟩, y5⟩ := hYc
  obtain ⟨c1, c2, c3, c4, c5, c6, c7, c8, c9, c10, c11, c12⟩ := id C
  have hini := C.word y3 rfl
  have hroom : (mjRm r1 lv1 (mX h1 - mX h) (mZ h1 - mZ h)).frames + 1 ≤ R.frames ∧ 8 + ((mjMeta r1).1 + 11) + (mjRm r1 lv1 (mX h1 - mX h) (mZ h1 - mZ h)).locals ≤ R.locals := ⟨by show mjRk r1 + 2 * lv1 + 1 ≤ R.frames; omega, by show 8 + ((mjMeta r1).1 + 11) + 64 * (mjRk r1 + 2 * lv1) ≤ R.locals; omega⟩
  have hcells : cells + (mX h1 - mX h) ≤ R.cells ∧ slots + (mZ h1 - mZ h) ≤ R.slots := ⟨by omega, by omega⟩
  have hcat' : 2 * (F0 m pc ls0 ((as.reverse ++ st').map (mjTr f))).monitorRoom + ((st'.map (mjTr f)).map fun v => v.category).sum ≤ 8 := lv_room (by rw [mjCat_eq]; exact hcat)
  have hFB : FrameBlind (mjPc D O f cA tys h H.size as) := fun a U g mk q => by
    obtain ⟨q0, q1, qP, qK, qD, qO⟩ := q
    exact ⟨q0, q1, qP, va_K.moved (u := U) (U := U.calling g mk a) (Vm.Alike.refl U.vm) qK, qD, env.2.2.2.2.2.1 U g mk a qO⟩
  have hpre : ∀ U : State, U.heap = H → s.WarmedH U.vm → mjPc D O f cA tys h H.size as (as.map (mjTr f)).toArray U := fun U hU hW =>
    ⟨rfl, by rw [hU], by rw [hU]; exact hP, va_K.moved hW.alike hK, hD.weaken (fun _ _ _ _ => trivial), env.2.2.2.2.1 s U A locs o (by rw [hU]; exact hS) hAB hW⟩
  have fix : CallFix p m cd (mjBy c) (mjMeta c).1 s args mjTb (mjY c).cls := ⟨c1, c2, c4, c5, c6⟩
  have hd4 : (mjY r1).cls ≠ "java/lang/invoke/MethodHandle" ∧ (mjY r1).cls ≠ "java/lang/invoke/VarHandle" ∧ (parseMethodDescriptor (mjY r1).desc).map (fun d => d.parameters.length) = some nP := ⟨y2.1, y2.2, hpar⟩
  have hrun : va_Run p l e R s m args below meth cd H locs cells slots (mX h1 - mX h) (mZ h1 - mZ h) (F0 m pc ls0 ((as.reverse ++ st').map (mjTr f))) (st'.map (mjTr f)) (mjQ D B b L xs k0 k1 f (mX h) w h1 r1 (va_A (mjWs f cA h) H.size) (as.map (mjTr f)).toArray) (va_A (mjWs f cA h) H.size) := by
    rcases hkd with ⟨hdg, ⟨i1, w1⟩, ⟨i2, w2⟩, ⟨a, as', rfl, hn, hka⟩, hcl, hck1, hck2⟩ | ⟨hdg, ⟨i1, w1⟩, hn⟩ | ⟨hdg, ⟨i1, w1⟩, hnm, hrt, a, as', rfl, hn, hmk⟩
    · obtain ⟨h4, hx⟩ := ok.cell hka (by omega) (by omega)
      have hta : mjTr f (.ref a) = .ref (f a) := mjTr_ref f (by omega)
      have he := mjWs_at f cA h h4 hx
      rw [mjE_obj hka (by omega)] at he
      have hst : (F0 m pc ls0 (((Value.ref a :: as').reverse ++ st').map (mjTr f))).stack = (as'.map (mjTr f)).reverse ++ Value.ref (f a) :: st'.map (mjTr f) := by
        show ((Value.ref a :: as').reverse ++ st').map (mjTr f) = _
        rw [List.reverse_cons, List.append_assoc, List.map_append, List.map_reverse, ← hta]; rfl
      have hargs : ((Value.ref a :: as').map (mjTr f)).toArray = (Value.ref (f a) :: as'.map (mjTr f)).toArray := by rw [List.map_cons, hta]
      cases hq : mjCl[mjCk r1 - 1]? with
      | none => rw [hq] at hcl; cases hcl
      | some q =>
        rw [hq] at hcl
        have hcl : q.1 = (mjY r1).cls := Option.some.inj hcl
        have hrc := va_recv hK hP hq he
        rw [hcl] at hrc
        have hp : PreV s H (mjY r1).cls (f a) (mjPc D O f cA tys h H.size (.ref a :: as')) (as'.map (mjTr f)) := ⟨hFB, hrc, fun U hU hW => by rw [← hargs]; exact hpre U hU hW⟩
        rw [hargs]
        rcases hlk with hlk | hlk
        · exact va_runV fix hM ⟨callB_of nP c6 hG rfl rfl rfl hini (C.word hlk rfl) hd4 hroom, C.word w1 rfl, C.word w2 rfl⟩ hp rfl (by rw [List.length_map]; exact hn) hls.2.1 hst hcat' hdg hcells
        · exact va_runVN fix hM ⟨va_cnB nP c6 hG rfl rfl rfl (env.2.1 s o _ (List.mem_of_getElem? hlk) rfl) hini hd4 hroom, C.word w1 rfl, C.word w2 rfl⟩ hp rfl (by rw [List.length_map]; exact hn) hls.2.1 hst hcat' hdg hcells
    · have hst : (F0 m pc ls0 ((as.reverse ++ st').map (mjTr f))).stack = (as.map (mjTr f)).reverse ++ st'.map (mjTr f) := by
        show (as.reverse ++ st').map (mjTr f) = _
        rw [List.map_append, List.map_reverse]
      have hp : PreS s H (mjPc D O f cA tys h H.size as) (as.map (mjTr f)) := ⟨hFB, hpre⟩
      rcases hlk with hlk | hlk
      · exact va_runS fix hM ⟨callB_of nP c6 hG rfl rfl rfl hini (C.word hlk rfl) hd4 hroom, C.word w1 rfl⟩ hp rfl (by rw [List.length_map]; exact hn) hls.2.1 hst hcat' hdg hcells
      · exact va_runSN fix hM ⟨va_cnB nP c6 hG rfl rfl rfl (env.2.1 s o _ (List.mem_of_getElem? hlk) rfl) hini hd4 hroom, C.word w1 rfl, trivial⟩ hp rfl (by rw [List.length_map]; exact hn) hls.2.1 hst hcat' hdg hcells
    · have ha0 : a ≠ 0 := by
        rintro rfl
        rcases ok.2.1 0 hmk with ⟨hz0, -⟩ | ⟨hz0, -, -⟩ <;> omega
      have hta : mjTr f (.ref a) = .ref (f a) := mjTr_ref f ha0
      have hst : (F0 m pc ls0 (((Value.ref a :: as').reverse ++ st').map (mjTr f))).stack = (as'.map (mjTr f)).reverse ++ Value.ref (f a) :: st'.map (mjTr f) := by
        show ((Value.ref a :: as').reverse ++ st').map (mjTr f) = _
        rw [List.reverse_cons, List.append_assoc, List.map_append, List.map_reverse, ← hta]; rfl
      have hargs : ((Value.ref a :: as').map (mjTr f)).toArray = (Value.ref (f a) :: as'.map (mjTr f)).toArray := by rw [List.map_cons, hta]
      have hp : PreS s H (mjPc D O f cA tys h H.size (.ref a :: as')) (.ref (f a) :: as'.map (mjTr f)) := ⟨hFB, fun U hU hW => by rw [← hargs]; exact hpre U hU hW⟩
      have hw : mjWd r1 = Cond.code (mjY r1) (mjBy r1) (mjMeta r1).1 none :: mjTb := by rw [← hrt]; rfl
      rw [hargs]
      rcases hlk with hlk | hlk
      · exact va_runI fix hM ⟨callB_of nP c6 hG hw rfl rfl hini (C.word hlk rfl) hd4 hroom, hnm, C.word w1 rfl⟩ hp rfl (by rw [List.length_map]; exact hn) hls.2.1 hst hcat' hdg hcells
      · exact va_runIN fix hM ⟨va_cnB nP c6 hG hw rfl rfl (env.2.1 s o _ (List.mem_of_getElem? hlk) rfl) hini hd4 hroom, hnm, C.word w1 rfl⟩ hp rfl (by rw [List.length_map]; exact hn) hls.2.1 hst hcat' hdg hcells
  have hfree : ∀ q, va_A (mjWs f cA h) H.size q → A q := by
    intro q hq
    rcases hq with ⟨k, e, hq⟩ | hq
    · exact hD.2 k _ hq
    · exact hA q (Nat.le_trans hS.1 hq)
  refine mjAfter (A1 := va_A (mjWs f cA h) H.size) hrun hS (fun q _ hq => hfree q hq) hfree (fun st₀ v t hq => hq.2) (fun st₀ vr t H1 locs1 ht hvm hq hS1 => ?_)
  obtain ⟨⟨f', cA', tys', hf, hret, hP1, hK1, hD1, ok1, hvw⟩, -⟩ := hq
  obtain rfl : vr = mjRv r1 (mjTr f' w) := by injection hret
  rw [ht] at hP1
  have hls1 : mjLs f' ls ls0 (mjMeta c).1 := ⟨hls.1, by rw [mjLv_ag hf ls 0 hvl]; exact hls.2⟩
  have hvst : mjVs (mX h1) ((mjRv r1 w).toList ++ st') := by
    intro x hx
    rcases List.mem_append.mp hx with hx | hx
    · unfold mjRv at hx
      cases hrt : mjRt r1 with
      | none => rw [hrt] at hx; cases hx
      | some _ =>
        rw [hrt] at hx
        rcases List.mem_cons.mp hx with rfl | hx
        · exact hvw
        · cases hx
    · exact (hvr x hx).up m1.1
  have K := sn2.2 p e R s m args below meth cd f' cA' tys' A H1 locs1 (cells + (mX h1 - mX h)) (slots + (mZ h1 - mZ h)) ls0 C o hAB hA ⟨va_K.moved hvm.symm hK1, hP1, hD1.weaken (fun _ q _ hq => hfree q.1 hq), hS1, ok1⟩ hls1 (hvl.up m1.1) hvst (by omega) (by omega)
  rw [List.map_append, ← mjRv_map, mjTrs_ag hf hvr] at K
  exact W_mono (fun t ht => mjMQ_mono m1.1 hf (by omega) (by omega) ht) K
end CALLS
