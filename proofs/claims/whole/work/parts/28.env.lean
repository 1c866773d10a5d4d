/-! what is known of the place, at the law's entry and at every call -/
def mjOut (B b L : Nat) (xs : Nat → Int32) (adK adV : Nat → Nat) (U : State) : Prop :=
  (va_X b L xs U U.heap ∧ b < B ∧ B ≤ U.heap.size) ∧ (∀ w ∈ lw_tbl, mjNs w = true → w.before #[] U = true) ∧ (va_AO RX6 U ∧ va_AO RX4 U ∧ va_AO RX9 U) ∧ (vk_R "GladSpider$Tape" 70 tx0 (adK 0) U ∧ vk_R "GladSpider$Tape" 63 tx1 (adK 1) U) ∧ mjTxt B adK adV U
theorem mjOut_cl (B b L : Nat) (xs : Nat → Int32) (adK adV : Nat → Nat) : mjCl5 B (mjOut B b L xs adK adV) := by
  refine ⟨fun s U A locs o hS hAB hW => ?_, fun U g mk a o => ?_⟩
  · obtain ⟨⟨hX, hb, hB⟩, hN, ⟨a1, a2, a3⟩, ⟨r1, r2⟩, t1, t2, t3⟩ := o
    have kept : ∀ a : Nat, a < s.heap.size → ¬ (B ≤ a) → U.heap[a]? = s.heap[a]? := fun a h1 h2 => hS.2.1 a h1 (fun z => h2 (hAB a z))
    refine ⟨⟨?_, hb, Nat.le_trans hB hS.1⟩, fun w hw hn => ?_, ⟨a1.moved hW.alike, a2.moved hW.alike, a3.moved hW.alike⟩, ⟨r1.warm hW, r2.warm hW⟩, (t1.moved hW.alike).kept kept, (t2.moved hW.alike).kept kept, (t3.moved hW.alike).kept kept⟩
    · obtain ⟨scr, h1, h2, h3⟩ := hX
      exact ⟨scr, by rw [kept b (by omega) (by omega)]; exact h1, State.isArrayOf_alike hW.alike h2, h3⟩
    · have := hN w hw hn
      cases w <;> first
        | exact va_Nw.warmF hW this
        | exact va_Nw.warmM hW this
        | cases hn
  · obtain ⟨⟨hX, hb, hB⟩, hN, ⟨a1, a2, a3⟩, ⟨r1, r2⟩, t1, t2, t3⟩ := o
    have al : U.vm.Alike (U.calling g mk a).vm := Vm.Alike.refl U.vm
    refine ⟨⟨va_X.moved (U := U.calling g mk a) al hX, hb, hB⟩, fun w hw hn => ?_, ⟨a1.moved al, a2.moved al, a3.moved al⟩, ⟨r1.same rfl, r2.same rfl⟩, t1.moved al, t2.moved al, t3.moved al⟩
    have := hN w hw hn
    cases w <;> first
      | exact va_Nw.same rfl (U := U.calling g mk a) rfl this
      | cases hn
theorem va_S.wide {A : Nat → Prop} {B : Nat} {H0 H : Heap} {locs : List Loc} (hS : va_S A H0 H locs) (hAB : ∀ q, A q → B ≤ q) : va_S (fun q => B ≤ q) H0 H locs := ⟨hS.1, fun q h1 h2 => hS.2.1 q h1 (fun z => h2 (hAB q z)), fun l hl => hAB _ (hS.2.2 l hl)⟩
theorem mjOut_env (l : Launch) (B b L : Nat) (xs : Nat → Int32) (adK adV : Nat → Nat) : mjEnv l B b L xs (adK 0) (adK 1) (mjOut B b L xs adK adV) := by
  have cl := mjOut_cl B b L xs adK adV
  have hO : ∀ s, mjOut B b L xs adK adV s → mjTxt B adK adV s := fun s o => o.2.2.2.2
  have ix : ∀ i a, (i = 2 ∧ a = adK 0) ∨ (i = 3 ∧ a = adK 1) → ∃ j, j < 2 ∧ a = adK j ∧ (mjTx i).length = txN.getD j 0 ∧ mjTx i = txB.getD j [] := by
    intro i a h
    rcases h with ⟨rfl, rfl⟩ | ⟨rfl, rfl⟩
    · exact ⟨0, by decide, rfl, rfl, rfl⟩
    · exact ⟨1, by decide, rfl, rfl, rfl⟩
  refine ⟨fun s o => o.1, fun s o => o.2.1, fun s o => o.2.2.1, fun s o => o.2.2.2.1, cl.1, cl.2, ?_, ?_, ?_⟩
  · intro i a hi
    obtain ⟨j, hj, rfl, e1, e2⟩ := ix i a hi
    intro p e R s m args below meth c H locs cells slots Q cc pc idx ls rest A own o hx hb hml hown hts hS hAB hfr hlo hl hcat hdg hc1 hc2 k
    rw [e1] at k
    exact txV (n := 0) (as := []) cl o hx hb hml hown hts hS hAB (tx_length cl hO hj) wT_code_length wT_ini_String wT_kind_length wT_sel_length hl (by decide +kernel) rfl ⟨by omega, by omega⟩ (vk_recv (hO s o).1 hj (hS.wide hAB)) hcat hdg ⟨hc1, hc2⟩ k
  · intro i a hi x hx0
    obtain ⟨j, hj, rfl, e1, e2⟩ := ix i a hi
    intro p e R s m args below meth c H locs cells slots Q cc pc idx ls rest A own o hx hb hml hown hts hS hAB hfr hlo hl hcat hdg hc1 hc2 k
    rw [e1] at hx0
    rw [e2] at k
    exact txV (n := 1) (as := [.int x]) cl o hx hb hml hown hts hS hAB (tx_charAt cl hO hj hx0) wT_code_charAt wT_ini_String wT_kind_charAt wT_sel_charAt hl (by decide +kernel) rfl ⟨by omega, by omega⟩ (vk_recv (hO s o).1 hj (hS.wide hAB)) hcat hdg ⟨hc1, hc2⟩ k
  · intro i a hi x
    obtain ⟨j, hj, rfl, e1, e2⟩ := ix i a hi
    intro p e R s m args below meth c H locs cells slots Q cc pc idx ls rest A own o hx hb hml hown hts hS hAB hfr hlo hl hcat hdg hc1 hc2 k
    rw [e2] at k
    exact txV (n := 1) (as := [.int x]) cl o hx hb hml hown hts hS hAB (tx_indexOf1 cl hO hj x) wT_code_indexOf1 wT_ini_String wT_kind_indexOf1 wT_sel_indexOf1 hl (by decide +kernel) rfl ⟨by omega, by omega⟩ (vk_recv (hO s o).1 hj (hS.wide hAB)) hcat hdg ⟨hc1, hc2⟩ k
/-- at the law's entry -/
theorem mjOut_at {p : Program} {s : State} {m : MethodId} {meth : Method} {c : Code} {b L : Nat} {xs : Nat → Int32} (C0 : lw_At p s m meth c b L xs) : ∃ adK adV : Nat → Nat, mjOut s.heap.size b L xs adK adV s := by
  obtain ⟨c1, c2, c3, c4, c5, c6, c7, c8, c9, c10⟩ := C0
  have hs := flat_of_before _ c10
  have hA : ∀ a : Nat, a < s.heap.size → ¬ (s.heap.size ≤ a) := fun a h => Nat.not_le.mpr h
  obtain ⟨adK, adV, hE, hev⟩ := vk_Sof (N := 2) (tm := fun i => if i = 0 then .string "GladSpider$Tape" 70 else .string "GladSpider$Tape" 63) (len := txN) (byt := txB) (A := fun q => s.heap.size ≤ q) (args := #[Value.ref b]) (s := s)
    (fun i hi => by have := (tx_lens i hi).2; omega)
    (fun i hi => by rcases (show i = 0 ∨ i = 1 by omega) with rfl | rfl <;> exact hs _ (by decide +kernel))
    (fun i hi => by rcases (show i = 0 ∨ i = 1 by omega) with rfl | rfl <;> exact hs _ (by decide +kernel))
    (fun i hi => by rcases (show i = 0 ∨ i = 1 by omega) with rfl | rfl <;> exact hs _ (by decide +kernel))
    (fun i hi => by rcases (show i = 0 ∨ i = 1 by omega) with rfl | rfl <;> exact hs _ (by decide +kernel))
    (fun i hi => by
      rcases (show i = 0 ∨ i = 1 by omega) with rfl | rfl
      · intro j hj
        exact hs _ ((by decide +kernel : ∀ j, j < (mjTx 2).length → (Cond.eq (.elem (.field (.string "GladSpider$Tape" 70) "java/lang/String" "value" "[B") (.int (Int32.ofNat j))) (.int ((mjTx 2).getD j 0))) ∈ flatC (Jvm.Cond.and given_1 narrow_1)) j hj)
      · intro j hj
        exact hs _ ((by decide +kernel : ∀ j, j < (mjTx 3).length → (Cond.eq (.elem (.field (.string "GladSpider$Tape" 63) "java/lang/String" "value" "[B") (.int (Int32.ofNat j))) (.int ((mjTx 3).getD j 0))) ∈ flatC (Jvm.Cond.and given_1 narrow_1)) j hj))
    (fun i j hi hj hne => by
      rcases (show i = 0 ∨ i = 1 by omega) with rfl | rfl <;> rcases (show j = 0 ∨ j = 1 by omega) with rfl | rfl
      · exact absurd rfl hne
      · first | exact Or.inl (hs _ (by decide +kernel)) | exact Or.inr (hs _ (by decide +kernel))
      · first | exact Or.inr (hs _ (by decide +kernel)) | exact Or.inl (hs _ (by decide +kernel))
      · exact absurd rfl hne) hA
  refine ⟨adK, adV, ⟨c7, c8, Nat.le_refl _⟩, fun w hw hn => ?_, ?_, ⟨?_, ?_⟩, hE, ?_, ?_⟩
  · have := c6 w hw
    cases w <;> first
      | exact va_Nw.of rfl this
      | cases hn
  · exact ⟨va_AO.of (c6 _ (List.mem_of_getElem? (i := 207) (by decide +kernel))), va_AO.of (c6 _ (List.mem_of_getElem? (i := 357) (by decide +kernel))), va_AO.of (c6 _ (List.mem_of_getElem? (i := 323) (by decide +kernel)))⟩
  · exact vk_R.of (c6 _ (List.mem_of_getElem? (i := 537) (by decide +kernel))) (hev 0 (by decide))
  · exact vk_R.of (c6 _ (List.mem_of_getElem? (i := 590) (by decide +kernel))) (hev 1 (by decide))
  · exact va_Zof (c6 (.laysStatic "java/lang/String" "COMPACT_STRINGS" "Z") (List.mem_of_getElem? (i := 547) (by decide +kernel))) (c6 (.initialized "java/lang/String") (List.mem_of_getElem? (i := 124) (by decide +kernel))) (va_eqt (hs (.eq (.static "java/lang/String" "COMPACT_STRINGS" "Z") (.int 1)) (by decide +kernel))) hA
  · exact va_Zqof (c6 (.laysStatic "jdk/internal/util/Preconditions" "SIOOBE_FORMATTER" "Ljava/util/function/BiFunction;") (List.mem_of_getElem? (i := 563) (by decide +kernel))) (c6 (.initialized "jdk/internal/util/Preconditions") (List.mem_of_getElem? (i := 126) (by decide +kernel))) (hs (.isRef (.static "jdk/internal/util/Preconditions" "SIOOBE_FORMATTER" "Ljava/util/function/BiFunction;")) (by decide +kernel)) hA
