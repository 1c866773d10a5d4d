/-! the methods of String on the two texts -/
section TEXTS
variable {l : Launch} {O : State → Prop} {B : Nat}
def mjCl5 (B : Nat) (O : State → Prop) : Prop := (∀ s U A locs, O s → va_S A s.heap U.heap locs → (∀ q, A q → B ≤ q) → s.WarmedH U.vm → O U) ∧ ∀ U g mk a, O U → O (U.calling g mk a)
/-- a method that reads alone -/
def mjRd (l : Launch) (O : State → Prop) (y : MethodName) (cc : ByteArray) (maxL : Nat) (ret : Option FieldType) (fr : Nat) (as : List Value) (r : Option Value) : Prop :=
  Met l y (Cond.code y cc maxL ret :: mjTb) { frames := fr, cells := 0, slots := 0, locals := 64 * fr } (va_Pc as O) (fun _ st o t => o = .returned r ∧ t.heap = st.heap) 0 0 (fun _ => False)
theorem txAfter {p : Program} {e : Env} {R : Room} {s : State} {m : MethodId} {args : Array Value} {below : List Frame} {meth : Method} {cd : Code} {H : Heap} {locs : List Loc} {cells slots pc : Nat} {Q : State → Prop} {ls : Array Slot} {st0 rest : List Value} {r : Option Value}
    (hr : va_Run p l e R s m args below meth cd H locs cells slots 0 0 (F0 m pc ls st0) rest (fun st o t => o = .returned r ∧ t.heap = st.heap) (fun _ => False)) (kk : W p l e R s m args below meth cd H locs cells slots Q (F0 m (pc + 3) ls (r.toList ++ rest))) : W p l e R s m args below meth cd H locs cells slots Q (F0 m pc ls st0) := by
  intro T hT X
  obtain ⟨v, st₀, t, T', L, h0, X', hL, e1, e2, ⟨hv, hh⟩, st⟩ := hr T hT X
  cases hv
  obtain ⟨t2, a1, b1⟩ := kk T' (by rw [e1, hh, h0]) (Stand.forget X' (fun q h => (hL q h).elim))
  exact ⟨t2, st t2 a1, b1⟩
theorem txGood {y : MethodName} {cc : ByteArray} {maxL : Nat} {ret : Option FieldType} (w : Cond.code y cc maxL ret ∈ mjTb) : GoodIn mjTb (Cond.code y cc maxL ret :: mjTb) := by
  intro x hx
  rcases List.mem_cons.mp hx with rfl | hx
  · exact ⟨w, good_of_word (List.mem_filter.mp w).2⟩
  · exact ⟨hx, good_of_word (List.mem_filter.mp hx).2⟩
theorem txV {p : Program} {e : Env} {R : Room} {s : State} {m : MethodId} {args : Array Value} {below : List Frame} {meth : Method} {cd : Code} {H : Heap} {locs : List Loc} {cells slots pc idx : Nat} {Q : State → Prop} {ls : Array Slot} {cc bytes : ByteArray} {maxL fr a n : Nat} {ret : Option FieldType} {as rest : List Value} {r : Option Value} {own : String} {y : MethodName} {A : Nat → Prop}
    (cl : mjCl5 B O) (hO : O s) (hx : p.tables.exec = Jvm.exec) (hb : cd.code = cc) (hml : cd.maxLocals = ls.size) (hown : s.vm.findClass own = some m.cls) (hts : ∀ w ∈ mjTb, w.before args s = true) (hS : va_S A s.heap H locs) (hAB : ∀ q, A q → B ≤ q)
    (hM : mjRd l O y bytes maxL ret fr (.ref a :: as) r) (wc : Cond.code y bytes maxL ret ∈ mjTb) (wi : Cond.initialized y.cls ∈ mjTb) (wk : Cond.instanceMethod y ∈ mjTb) (ws : Cond.selects y.cls y y ∈ mjTb) (hl : (Cond.methodLink own idx y).before args s = true) (hd : y.cls ≠ "java/lang/invoke/MethodHandle" ∧ y.cls ≠ "java/lang/invoke/VarHandle" ∧ (parseMethodDescriptor y.desc).map (fun d => d.parameters.length) = some n) (hn : as.length = n)
    (hR : fr + 1 ≤ R.frames ∧ 8 + (maxL + 11) + 64 * fr ≤ R.locals) (hrc : ∃ cell : Cell, H[a]? = some cell ∧ cell.vm.isStatics = false ∧ s.vm.findClass y.cls = some cell.cls) (hcat : (rest.map fun v => v.category).sum ≤ 8) (hdg : decode cc pc = .ok (.invokevirtual idx, 3)) (hcs : cells ≤ R.cells ∧ slots ≤ R.slots)
    (kk : W p l e R s m args below meth cd H locs cells slots Q (F0 m (pc + 3) ls (r.toList ++ rest))) : W p l e R s m args below meth cd H locs cells slots Q (F0 m pc ls (as.reverse ++ .ref a :: rest)) := by
  have hp : PreV s H y.cls a (va_Pc (.ref a :: as) O) as := ⟨fun a U g mk q => ⟨q.1, cl.2 U g mk a q.2⟩, hrc, fun U hU hW => ⟨rfl, cl.1 s U A locs hO (by rw [hU]; exact hS) hAB hW⟩⟩
  exact txAfter (va_runV (cc := cc) (nL := ls.size) (Ts := mjTb) ⟨hx, hb, hml, hown, hts⟩ hM ⟨callB_of n hts (txGood wc) rfl rfl rfl (hts _ wi) hl hd hR, hts _ wk, hts _ ws⟩ hp rfl hn rfl rfl (lv_room hcat) hdg hcs) kk
theorem txS {p : Program} {e : Env} {R : Room} {s : State} {m : MethodId} {args : Array Value} {below : List Frame} {meth : Method} {cd : Code} {H : Heap} {locs : List Loc} {cells slots pc idx : Nat} {Q : State → Prop} {ls : Array Slot} {cc bytes : ByteArray} {maxL fr n : Nat} {ret : Option FieldType} {as rest : List Value} {r : Option Value} {own : String} {y : MethodName} {A : Nat → Prop}
    (cl : mjCl5 B O) (hO : O s) (hx : p.tables.exec = Jvm.exec) (hb : cd.code = cc) (hml : cd.maxLocals = ls.size) (hown : s.vm.findClass own = some m.cls) (hts : ∀ w ∈ mjTb, w.before args s = true) (hS : va_S A s.heap H locs) (hAB : ∀ q, A q → B ≤ q)
    (hM : mjRd l O y bytes maxL ret fr as r) (wc : Cond.code y bytes maxL ret ∈ mjTb) (wi : Cond.initialized y.cls ∈ mjTb) (wk : Cond.static y ∈ mjTb) (hl : (Cond.methodLink own idx y).before args s = true) (hd : y.cls ≠ "java/lang/invoke/MethodHandle" ∧ y.cls ≠ "java/lang/invoke/VarHandle" ∧ (parseMethodDescriptor y.desc).map (fun d => d.parameters.length) = some n) (hn : as.length = n)
    (hR : fr + 1 ≤ R.frames ∧ 8 + (maxL + 11) + 64 * fr ≤ R.locals) (hcat : (rest.map fun v => v.category).sum ≤ 8) (hdg : decode cc pc = .ok (.invokestatic idx, 3)) (hcs : cells ≤ R.cells ∧ slots ≤ R.slots)
    (kk : W p l e R s m args below meth cd H locs cells slots Q (F0 m (pc + 3) ls (r.toList ++ rest))) : W p l e R s m args below meth cd H locs cells slots Q (F0 m pc ls (as.reverse ++ rest)) := by
  have hp : PreS s H (va_Pc as O) as := ⟨fun a U g mk q => ⟨q.1, cl.2 U g mk a q.2⟩, fun U hU hW => ⟨rfl, cl.1 s U A locs hO (by rw [hU]; exact hS) hAB hW⟩⟩
  exact txAfter (va_runS (cc := cc) (nL := ls.size) (Ts := mjTb) ⟨hx, hb, hml, hown, hts⟩ hM ⟨callB_of n hts (txGood wc) rfl rfl rfl (hts _ wi) hl hd hR, hts _ wk⟩ hp rfl hn rfl rfl (lv_room hcat) hdg hcs) kk
end TEXTS
