/-! THE LAW out of what the small machine answers -/
set_option maxRecDepth 20000 in
theorem mj_law {p : Program} {e : Env} {s : State} {m : MethodId} {below : List Frame} {meth : Method} {c : Code} {l : Launch} {b L : Nat} {xs : Nat → Int32} {D : va_G} {O : State → Prop} {k0 k1 : Nat} (env : mjEnv l s.heap.size b L xs k0 k1 O) (hO : O s) (C0 : lw_At p s m meth c b L xs) (hname : meth.name = "law") (hK : va_K D mjCl [] s) {h' : mjS}
    (hrun : mjEv 263 12 0 (mjEnt 263 [.ref 1]) [] (mjH0 L xs) = some (.int 1, h')) (hx : mX h' ≤ 600004) (hz : mZ h' ≤ 7302250) (hchk : ∀ c pc q, c < 264 → mjCode c pc = some q → mjChk c pc q = true) (hYall : ∀ c, c < 263 → c < 258 ∨ 260 < c → mjChY c = true) :
    W p l e room_1 s m #[Value.ref b] below meth c s.heap [] 0 0 (lw_Z below #[Value.ref b] s) (entryFrame m ([Value.ref b] : List Value).toArray 4) := by
  obtain ⟨c1, c2, c3, c4, c5, c6, c7, c8, c9, c10⟩ := C0
  have C : mjCtx 263 12 p room_1 s m #[Value.ref b] meth c := ⟨c1, c2, c3, c4, c5, fun w hw => c6 w (List.mem_filter.mp hw).1, hname, c9, by decide, by decide, by decide, by decide⟩
  have hsn := (mj_sound (D := D) env hchk hYall 263 12 0 _ _ _ _ _ hrun).2
  have hf1 : ∀ f : Nat → Nat, f 1 = b → ([Value.ref 1].map (mjTr f)) = [Value.ref b] := fun f hf => by
    rw [List.map_cons, mjTr_ref f (by decide), hf]; rfl
  have hls := mjEnt_ls (fun a => if a = 1 then b else if a = 2 then k0 else k1) (n := 4) (c := 263) (as := [.ref 1]) (fun v hv => by rcases List.mem_cons.mp hv with rfl | hv; exact (by decide : (1 : Nat) < 4); cases hv) (by decide)
  rw [hf1 _ rfl] at hls
  rw [lg_entry_eq]
  have hrel : mjRel D s.heap.size b L xs k0 k1 (fun a => if a = 1 then b else if a = 2 then k0 else k1) (fun _ => 0) [] (mjH0 L xs) s (fun q => s.heap.size ≤ q) s.heap [] := by
    refine ⟨hK, fun k q h => ?_, ⟨fun i j p q h => ?_, fun k q h => ?_⟩, va_S.rf, Nat.le_refl 4, fun a ha => ?_, fun a h4 hx => absurd (show a < 4 from hx) (by omega), fun a h4 hx => absurd (show a < 4 from hx) (by omega), fun a k => (by decide : (0 : Nat) < 4), rfl, rfl, rfl, rfl, fun k => rfl⟩
    · cases h
    · cases h
    · cases h
    · by_cases h1 : a = 1
      · exact Or.inl ⟨h1, by show (if a = 1 then 30 else 0) = 30; rw [if_pos h1]⟩
      · exact absurd (show mK (mjH0 L xs) a = 0 by show (if a = 1 then 30 else 0) = 0; rw [if_neg h1]) ha
  have hv1 : mjVs 4 [Value.ref 1] := fun v hv => by
    rcases List.mem_cons.mp hv with rfl | hv
    · exact (by decide : (1 : Nat) < 4)
    · cases hv
  have K := hsn p e room_1 s m #[Value.ref b] below meth c (fun a => if a = 1 then b else if a = 2 then k0 else k1) (fun _ => 0) [] (fun q => s.heap.size ≤ q) s.heap [] 0 0 _ C hO (fun _ h => h) (fun _ h => h) hrel hls (mjEnt_vs hv1) (fun _ h => nomatch h) (by show 0 + (mX h' - 4) ≤ 600000; omega) (by show 0 + (mZ h' - 0) ≤ 7302250; omega)
  refine W_mono (fun t ht => ?_) K
  obtain ⟨o, t1, t2, ⟨⟨f', cA', tys', -, ho, -⟩, -⟩, L', hF, hL⟩ := ht
  refine ⟨o, t1, t2, ho, hF.1, hF.2.1, hF.2.2.weaken (fun y hy hlt => absurd hlt (Nat.not_lt.mpr (hL y hy))) ?_ ?_⟩
  · show 0 + (mX h' - 4) ≤ 600000
    omega
  · show 0 + (mZ h' - 0) ≤ 7302250
    omega
