/-! each instruction's step -/
section STEP
variable {l : Launch} {D : va_G} {B b L : Nat} {xs : Nat → Int32} {k0 k1 : Nat} {O : State → Prop}
theorem i32_ge {x y : Int32} : (y ≤ x) ↔ ¬ x < y := by
  rw [Int32.le_iff_toInt_le, Int32.lt_iff_toInt_lt]; omega
theorem mjCmpS {c lv pc n1 n2 : Nat} {ls r : List Value} {h : mjS} {v : Value} {h' : mjS} {x y : Int32} {q : ClassFile.Cond} {X Y : mjO} {off : Int} (hr : mjCmp q x y X Y = some (v, h')) (h1 : X = some (v, h') → mjSnd l D B b L xs k0 k1 O c lv n1 ls r h v h') (h2 : Y = some (v, h') → mjSnd l D B b L xs k0 k1 O c lv n2 ls r h v h')
    (hd : decode (mjBy c) pc = .ok (.if_icmp q off, 3)) (ht : (pc : Int) + off = n1) (hn : n2 = pc + 3) : mjSnd l D B b L xs k0 k1 O c lv pc ls (.int y :: .int x :: r) h v h' := by
  subst hn
  cases q with
  | eq => exact mjTwo hr h1 h2 (fun n _ hv => hv.tail.tail) (fun C kt kf => lv_icmp_eq C.1 C.2.1 hd ht kt kf)
  | ne => exact mjTwo hr h2 h1 (fun n _ hv => hv.tail.tail) (fun C kt kf => lv_icmp_ne C.1 C.2.1 hd ht kf kt)
  | lt => exact mjTwo hr h1 h2 (fun n _ hv => hv.tail.tail) (fun C kt kf => lv_icmp_lt C.1 C.2.1 hd ht kt kf)
  | ge => exact mjTwo hr h2 h1 (fun n _ hv => hv.tail.tail) (fun C kt kf => lv_icmp_ge C.1 C.2.1 hd ht (fun q => kf (i32_ge.mp q)) (fun q => kt (Classical.byContradiction fun z => q (i32_ge.mpr z))))
  | gt => exact mjTwo hr h1 h2 (fun n _ hv => hv.tail.tail) (fun C kt kf => lv_icmp_gt C.1 C.2.1 hd ht kt kf)
  | le => exact mjTwo hr h2 h1 (fun n _ hv => hv.tail.tail) (fun C kt kf => lv_icmp_le C.1 C.2.1 hd ht (fun q => kf (i32_ge.mp q)) (fun q => kt (Classical.byContradiction fun z => q (i32_ge.mpr z))))
theorem mjCmpZ {c lv pc n1 n2 : Nat} {ls r : List Value} {h : mjS} {v : Value} {h' : mjS} {x : Int32} {q : ClassFile.Cond} {X Y : mjO} {off : Int} (hr : mjCmp q x 0 X Y = some (v, h')) (h1 : X = some (v, h') → mjSnd l D B b L xs k0 k1 O c lv n1 ls r h v h') (h2 : Y = some (v, h') → mjSnd l D B b L xs k0 k1 O c lv n2 ls r h v h')
    (hd : decode (mjBy c) pc = .ok (.ifCond q off, 3)) (ht : (pc : Int) + off = n1) (hn : n2 = pc + 3) : mjSnd l D B b L xs k0 k1 O c lv pc ls (.int x :: r) h v h' := by
  subst hn
  cases q with
  | eq => exact mjTwo hr h1 h2 (fun n _ hv => hv.tail) (fun C kt kf => lv_if_eq C.1 C.2.1 hd ht kt kf)
  | ne => exact mjTwo hr h2 h1 (fun n _ hv => hv.tail) (fun C kt kf => lv_if_ne C.1 C.2.1 hd ht kf kt)
  | lt => exact mjTwo hr h1 h2 (fun n _ hv => hv.tail) (fun C kt kf => lv_if_lt C.1 C.2.1 hd ht kt kf)
  | ge => exact mjTwo hr h2 h1 (fun n _ hv => hv.tail) (fun C kt kf => lv_if_ge C.1 C.2.1 hd ht (fun q => kf (i32_ge.mp q)) (fun q => kt (Classical.byContradiction fun z => q (i32_ge.mpr z))))
  | gt => exact mjTwo hr h1 h2 (fun n _ hv => hv.tail) (fun C kt kf => lv_if_gt C.1 C.2.1 hd ht kt kf)
  | le => exact mjTwo hr h2 h1 (fun n _ hv => hv.tail) (fun C kt kf => lv_if_le C.1 C.2.1 hd ht (fun q => kf (i32_ge.mp q)) (fun q => kt (Classical.byContradiction fun z => q (i32_ge.mpr z))))
theorem lg_cmp_mj (x y : Int64) : lg_cmp x y = if x < y then -1 else if x = y then 0 else 1 := by
  unfold lg_cmp
  simp only [gt_iff_lt, Int64.lt_iff_toInt_lt, ← Int64.toInt_inj]
  split
  · rw [if_neg (by omega), if_neg (by omega)]
  · split
    · rw [if_neg (by omega)]
    · rw [if_pos (by omega)]
/-- loads of references -/
theorem mjLoadA {c lv pc nx i a : Nat} {ls st : List Value} {h : mjS} {v : Value} {h' : mjS} (hw : mjSnd l D B b L xs k0 k1 O c lv nx ls (.ref a :: st) h v h') (ha : mjAt ls i = some (.ref a))
    (rule : ∀ {p : Program} {e : Env} {R : Room} {s : State} {m : MethodId} {args : Array Value} {below : List Frame} {meth : Method} {cd : Code} {H : Heap} {locs : List Loc} {cells slots : Nat} {Q : State → Prop} {ls0 : Array Slot} {w : Value} {rest : List Value}, mjCtx c lv p R s m args meth cd → ls0[i]? = some (.val w) → (w = .null ∨ ∃ x, w = .ref x) →
      W p l e R s m args below meth cd H locs cells slots Q (F0 m nx ls0 (w :: rest)) → W p l e R s m args below meth cd H locs cells slots Q (F0 m pc ls0 rest)) : mjSnd l D B b L xs k0 k1 O c lv pc ls st h v h' :=
  mjPure hw (fun n _ hl hv => mjVs.cons (hl _ (mjAt_mem _ _ _ ha)) hv) (fun {_ _ _ _ _ _ _ _ _ f _ _ _ _ _ _} C hl k => rule C (hl.read ha trivial) (va_rf_or (mjOp f a)) k)
theorem mj_aload_n {c lv pc i : Nat} {k4 : Fin 4} (hi : k4.val = i) (hd : decode (mjBy c) pc = .ok (.aload_n k4, 1)) {p : Program} {e : Env} {R : Room} {s : State} {m : MethodId} {args : Array Value} {below : List Frame} {meth : Method} {cd : Code} {H : Heap} {locs : List Loc} {cells slots : Nat} {Q : State → Prop} {ls0 : Array Slot} {w : Value} {rest : List Value} (C : mjCtx c lv p R s m args meth cd) (hl : ls0[i]? = some (.val w)) (hw : w = .null ∨ ∃ x, w = .ref x)
    (k : W p l e R s m args below meth cd H locs cells slots Q (F0 m (pc + 1) ls0 (w :: rest))) : W p l e R s m args below meth cd H locs cells slots Q (F0 m pc ls0 rest) := by
  rcases hw with rfl | ⟨x, rfl⟩
  · exact lv_aload_nN C.1 C.2.1 hd hi hl k
  · exact lv_aload_n C.1 C.2.1 hd hi hl k
theorem mj_aload {c lv pc i : Nat} (hd : decode (mjBy c) pc = .ok (.aload i, 2)) {p : Program} {e : Env} {R : Room} {s : State} {m : MethodId} {args : Array Value} {below : List Frame} {meth : Method} {cd : Code} {H : Heap} {locs : List Loc} {cells slots : Nat} {Q : State → Prop} {ls0 : Array Slot} {w : Value} {rest : List Value} (C : mjCtx c lv p R s m args meth cd) (hl : ls0[i]? = some (.val w)) (hw : w = .null ∨ ∃ x, w = .ref x)
    (k : W p l e R s m args below meth cd H locs cells slots Q (F0 m (pc + 2) ls0 (w :: rest))) : W p l e R s m args below meth cd H locs cells slots Q (F0 m pc ls0 rest) := by
  rcases hw with rfl | ⟨x, rfl⟩
  · exact lv_aloadN C.1 C.2.1 hd hl k
  · exact lv_aload C.1 C.2.1 hd hl k
theorem mj_astore_n {c lv pc i n : Nat} {k4 : Fin 4} (hi : k4.val = i) (hd : decode (mjBy c) pc = .ok (.astore_n k4, 1)) (hn : i < n) {p : Program} {e : Env} {R : Room} {s : State} {m : MethodId} {args : Array Value} {below : List Frame} {meth : Method} {cd : Code} {H : Heap} {locs : List Loc} {cells slots : Nat} {Q : State → Prop} {ls0 : Array Slot} {lvl : List (Nat × Value)} {w : Value} {rest : List Value} (C : mjCtx c lv p R s m args meth cd) (hl : lv_has ls0 n lvl) (hw : w = .null ∨ ∃ x, w = .ref x)
    (k : ∀ ls' : Array Slot, lv_has ls' n ((i, w) :: lvl.filter (fun q => !(q.1 == i) && !(q.1 + 1 == i && q.2.category == 2))) → W p l e R s m args below meth cd H locs cells slots Q (F0 m (pc + 1) ls' rest)) : W p l e R s m args below meth cd H locs cells slots Q (F0 m pc ls0 (w :: rest)) := by
  rcases hw with rfl | ⟨x, rfl⟩
  · exact lv_astore_nN C.1 C.2.1 hd hi hl hn rfl k
  · exact lv_astore_n C.1 C.2.1 hd hi hl hn rfl k
theorem mj_astore {c lv pc i n : Nat} (hd : decode (mjBy c) pc = .ok (.astore i, 2)) (hn : i < n) {p : Program} {e : Env} {R : Room} {s : State} {m : MethodId} {args : Array Value} {below : List Frame} {meth : Method} {cd : Code} {H : Heap} {locs : List Loc} {cells slots : Nat} {Q : State → Prop} {ls0 : Array Slot} {lvl : List (Nat × Value)} {w : Value} {rest : List Value} (C : mjCtx c lv p R s m args meth cd) (hl : lv_has ls0 n lvl) (hw : w = .null ∨ ∃ x, w = .ref x)
    (k : ∀ ls' : Array Slot, lv_has ls' n ((i, w) :: lvl.filter (fun q => !(q.1 == i) && !(q.1 + 1 == i && q.2.category == 2))) → W p l e R s m args below meth cd H locs cells slots Q (F0 m (pc + 2) ls' rest)) : W p l e R s m args below meth cd H locs cells slots Q (F0 m pc ls0 (w :: rest)) := by
  rcases hw with rfl | ⟨x, rfl⟩
  · exact lv_astoreN C.1 C.2.1 hd hl hn rfl k
  · exact lv_astore C.1 C.2.1 hd hl hn rfl k
/-- an int in a local counts on -/
theorem mj_iinc {c lv pc nx i : Nat} {ls st : List Value} {h : mjS} {v : Value} {h' : mjS} {x ki : Int32} {n : Int} (hw : mjSnd l D B b L xs k0 k1 O c lv (pc + 3) (mjSt1 ls i (.int (x + ki))) st h v h') (ha : mjAt ls i = some (.int x)) (hd : decode (mjBy c) pc = .ok (.iinc i n, 3)) (hi : i < (mjMeta c).1) (hk : Int32.ofInt n = ki) : mjSnd l D B b L xs k0 k1 O c lv pc ls st h v h' := by
  refine mjStore hw (fun n _ hv => hv) (fun _ _ _ => trivial) ?_
  intro p e R s m args below meth cd f H locs cells slots Q ls0 C hl hls k
  obtain ⟨j, hj⟩ := List.getElem?_of_mem (mjLv_in f ls 0 i (.int x) ha trivial)
  rw [Nat.zero_add] at hj
  exact lv_iinc C.1 C.2.1 hd hl hj (by rw [hk]) hi rfl k
end STEP
