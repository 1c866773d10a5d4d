/-! the methods of String on the two texts, one by one -/
abbrev tx0 : String := "field work take if or and not spider person carries glad own hedge built need with lying day"
abbrev tx1 : String := ";[]+-*/%<=>"
abbrev txN : List Nat := [(mjTx 2).length, (mjTx 3).length]
abbrev txB : List (List Int32) := [mjTx 2, mjTx 3]
def mjTxt (B : Nat) (adK adV : Nat → Nat) (U : State) : Prop := vk_S 2 txN txB adK adV (fun q => B ≤ q) U U.heap ∧ va_Z "java/lang/String" "COMPACT_STRINGS" "Z" (.int 1) (fun q => B ≤ q) U U.heap ∧ va_Zq "jdk/internal/util/Preconditions" "SIOOBE_FORMATTER" "Ljava/util/function/BiFunction;" (fun q => B ≤ q) U U.heap
section ROWS
variable {l : Launch} {O : State → Prop} {B : Nat} {adK adV : Nat → Nat}
theorem txBody {y : MethodName} {cc : ByteArray} {maxL fr : Nat} {ret : Option FieldType} {as : List Value} {r : Option Value} (hp : plainName y.cls = true) (hlen : (lg_sl as).length ≤ maxL)
    (body : ∀ {p : Program} {e : Env} {R : Room} {s : State} {m : MethodId} {args : Array Value} {below : List Frame} {meth : Method} {c : Code} {ls : Array Slot}, O s → p.tables.exec = Jvm.exec → c.code = cc → meth.sig.returnType = ret → c.maxLocals = ls.size → s.vm.findClass y.cls = some m.cls → (∀ w ∈ mjTb, w.before args s = true) → meth.locks = false → lv_has ls maxL (lv_args 0 as) → fr ≤ R.frames → 64 * fr ≤ R.locals →
      W p l e R s m args below meth c s.heap [] 0 0 (MQ below (fun _ st o t => o = .returned r ∧ t.heap = st.heap) args s 0 0 (fun _ => False)) (F0 m 0 ls [])) : mjRd l O y cc maxL ret fr as r := by
  refine Met.ofW (cc := cc) (maxL := maxL) (ret := ret) (ws' := mjTb) hp rfl ?_
  intro p e s m args below meth c s₁ Bd hml hv
  obtain ⟨rfl, hO⟩ := hv
  have hts := atoms_spec (ws := Cond.code y cc maxL ret :: mjTb) Bd.pre
  have hl := lv_entry as (n := maxL) hlen
  rw [lg_entry_eq]
  exact body hO Bd.exec Bd.bytes Bd.returns (hml.trans hl.1.symm) (findClass_of_methodNamed Bd.named) (fun w hw => hts w (List.mem_cons_of_mem _ hw)) Bd.notSynchronized hl (Nat.le_refl _) (Nat.le_refl _)
theorem tx_coder (hO : ∀ s, O s → mjTxt B adK adV s) {i : Nat} (hi : i < 2) : mjRd l O yT_coder cT_coder 1 (some .byte) 0 [.ref (adK i)] (some (.int 0)) := by
  refine txBody (by decide) (Nat.le_of_ble_eq_true rfl) ?_
  intro p e R s m args below meth c ls o hx hb hr hml hown hts hlocks hl hfr hlo
  obtain ⟨hE, hZ, -⟩ := hO s o
  have hS : va_S (fun q => B ≤ q) s.heap s.heap [] := va_S.rf
  refine va_gets hx hb hZ hS hown (hts _ wT_f38) (fun _ h => h) dT_coder_0 ?_
  refine lv_if_eq (tgt := 13) hx hb dT_coder_3 (by decide) (fun h => absurd h (by decide)) (fun _ => ?_)
  refine lv_aload_n hx hb dT_coder_6 rfl (lv_at hl 0 rfl) ?_
  refine vk_getf hx hb (hE.1 i hi).2.1 hS hown (hts _ wT_f15) (fun _ h => h) dT_coder_7 ?_
  refine lv_goto (tgt := 14) hx hb dT_coder_10 (by decide) ?_
  exact W.zret (ty := .byte) hx hb hr (by decide) (fun t ht _ => ⟨rfl, ht⟩) (fun q h => nomatch h) dT_coder_14 (hlocks := hlocks)
theorem tx_isLatin1 (hO : ∀ s, O s → mjTxt B adK adV s) {i : Nat} (hi : i < 2) : mjRd l O yT_isLatin1 cT_isLatin1 1 (some .boolean) 0 [.ref (adK i)] (some (.int 1)) := by
  refine txBody (by decide) (Nat.le_of_ble_eq_true rfl) ?_
  intro p e R s m args below meth c ls o hx hb hr hml hown hts hlocks hl hfr hlo
  obtain ⟨hE, hZ, -⟩ := hO s o
  have hS : va_S (fun q => B ≤ q) s.heap s.heap [] := va_S.rf
  refine va_gets hx hb hZ hS hown (hts _ wT_f38) (fun _ h => h) dT_isLatin1_0 ?_
  refine lv_if_eq (tgt := 17) hx hb dT_isLatin1_3 (by decide) (fun h => absurd h (by decide)) (fun _ => ?_)
  refine lv_aload_n hx hb dT_isLatin1_6 rfl (lv_at hl 0 rfl) ?_
  refine vk_getf hx hb (hE.1 i hi).2.1 hS hown (hts _ wT_f15) (fun _ h => h) dT_isLatin1_7 ?_
  refine lv_if_ne (tgt := 17) hx hb dT_isLatin1_10 (by decide) (fun h => absurd rfl h) (fun _ => ?_)
  refine lv_iconst (v := 1) hx hb dT_isLatin1_13 (by decide) ?_
  refine lv_goto (tgt := 18) hx hb dT_isLatin1_14 (by decide) ?_
  exact W.zret (ty := .boolean) hx hb hr (by decide) (fun t ht _ => ⟨rfl, ht⟩) (fun q h => nomatch h) dT_isLatin1_18 (hlocks := hlocks)
theorem tx_checkP {i n : Int32} (h0 : ¬ i < 0) (h1 : i < n) {z : Value} (hz : z = .null ∨ ∃ a, z = .ref a) : mjRd l O yT_checkP cT_checkP 3 (some .int) 0 [.int i, .int n, z] (some (.int i)) := by
  have hc : (lg_sl [.int i, .int n, z]).length ≤ 3 := by rcases hz with rfl | ⟨a, rfl⟩ <;> simp [lg_sl, Value.category]
  refine txBody (by decide) hc ?_
  intro p e R s m args below meth c ls o hx hb hr hml hown hts hlocks hl hfr hlo
  have hl : lv_has ls 3 [(0, .int i), (1, .int n), (2, z)] := hl
  refine lv_iload_n hx hb dT_checkP_0 rfl (lv_at hl 0 rfl) ?_
  refine lv_if_lt (tgt := 9) hx hb dT_checkP_1 (by decide) (fun h => absurd h h0) (fun _ => ?_)
  refine lv_iload_n hx hb dT_checkP_4 rfl (lv_at hl 0 rfl) ?_
  refine lv_iload_n hx hb dT_checkP_5 rfl (lv_at hl 1 rfl) ?_
  refine lv_icmp_lt (tgt := 16) hx hb dT_checkP_6 (by decide) (fun _ => ?_) (fun h => absurd h1 h)
  refine lv_iload_n hx hb dT_checkP_16 rfl (lv_at hl 0 rfl) ?_
  exact W.iret hx hb hr (fun t ht _ => ⟨rfl, ht⟩) (fun q h => nomatch h) dT_checkP_17 (hlocks := hlocks)
theorem tx_checkIndex (cl : mjCl5 B O) (hO : ∀ s, O s → mjTxt B adK adV s) {i n : Int32} (h0 : ¬ i < 0) (h1 : i < n) : mjRd l O yT_checkIndex cT_checkIndex 2 none 1 [.int i, .int n] none := by
  refine txBody (by decide) (Nat.le_of_ble_eq_true rfl) ?_
  intro p e R s m args below meth c ls o hx hb hr hml hown hts hlocks hl hfr hlo
  obtain ⟨-, -, hQ⟩ := hO s o
  have hS : va_S (fun q => B ≤ q) s.heap s.heap [] := va_S.rf
  refine lv_iload_n hx hb dT_checkIndex_0 rfl (lv_at hl 0 rfl) ?_
  refine lv_iload_n hx hb dT_checkIndex_1 rfl (lv_at hl 1 rfl) ?_
  have go : ∀ z : Value, (z = .null ∨ ∃ a, z = .ref a) → W p l e R s m args below meth c s.heap [] 0 0 (MQ below (fun _ st o t => o = .returned none ∧ t.heap = st.heap) args s 0 0 (fun _ => False)) (F0 m 5 ls [z, .int n, .int i]) := by
    intro z hz
    refine txS (n := 3) (as := [.int i, .int n, z]) (rest := []) cl o hx hb hml hown hts hS (fun _ h => h) (tx_checkP h0 h1 hz) wT_code_checkP wT_ini_Preconditions wT_kind_checkP (hts _ wT_m1059_checkP) (by decide +kernel) rfl (by omega) (by decide) dT_checkIndex_5 ⟨Nat.zero_le _, Nat.zero_le _⟩ ?_
    refine lv_pop (va := .int i) hx hb dT_checkIndex_8 rfl ?_
    exact W.vret hx hb hr (fun t ht _ => ⟨rfl, ht⟩) (fun q h => nomatch h) dT_checkIndex_9 (hlocks := hlocks)
  rcases hQ with hZ | ⟨t, hZ⟩
  · exact va_gets hx hb hZ hS hown (hts _ wT_f1053) (fun _ h => h) dT_checkIndex_2 (go _ (Or.inl rfl))
  · exact va_gets hx hb hZ hS hown (hts _ wT_f1053) (fun _ h => h) dT_checkIndex_2 (go _ (Or.inr ⟨_, rfl⟩))
theorem tx_length (cl : mjCl5 B O) (hO : ∀ s, O s → mjTxt B adK adV s) {i : Nat} (hi : i < 2) : mjRd l O yT_length cT_length 1 (some .int) 1 [.ref (adK i)] (some (.int (Int32.ofNat (txN.getD i 0)))) := by
  refine txBody (by decide) (Nat.le_of_ble_eq_true rfl) ?_
  intro p e R s m args below meth c ls o hx hb hr hml hown hts hlocks hl hfr hlo
  obtain ⟨hE, hZ, -⟩ := hO s o
  have hS : va_S (fun q => B ≤ q) s.heap s.heap [] := va_S.rf
  refine lv_aload_n hx hb dT_length_0 rfl (lv_at hl 0 rfl) ?_
  refine vk_getf hx hb (hE.1 i hi).2.2.1 hS hown (hts _ wT_f9) (fun _ h => h) dT_length_1 ?_
  refine va_tlen hx hb (hE.1 i hi).2.2.2 hS rfl dT_length_4 ?_
  refine lv_aload_n hx hb dT_length_5 rfl (lv_at hl 0 rfl) ?_
  refine txV (n := 0) (as := []) (rest := [.int (Int32.ofNat (txN.getD i 0))]) cl o hx hb hml hown hts hS (fun _ h => h) (tx_coder hO hi) wT_code_coder wT_ini_String wT_kind_coder wT_sel_coder (hts _ wT_m335_coder) (by decide +kernel) rfl (by omega) (vk_recv hE hi hS) (by simp [Value.category]) dT_length_6 ⟨Nat.zero_le _, Nat.zero_le _⟩ ?_
  refine lv_ishr hx hb dT_length_9 ?_
  have e0 : (Int32.ofNat (txN.getD i 0) >>> ((0 : Int32) &&& 31)) = Int32.ofNat (txN.getD i 0) := by
    rcases (show i = 0 ∨ i = 1 by omega) with rfl | rfl <;> decide
  rw [e0]
  exact W.iret hx hb hr (fun t ht _ => ⟨rfl, ht⟩) (fun q h => nomatch h) dT_length_10 (hlocks := hlocks)
theorem tx_charAtL (cl : mjCl5 B O) (hO : ∀ s, O s → mjTxt B adK adV s) {i : Nat} (hi : i < 2) {x : Int32} (hx0 : mjIn x (txN.getD i 0)) : mjRd l O yT_charAtL cT_charAtL 2 (some .char) 2 [.ref (adV i), .int x] (some (.int ((txB.getD i []).getD x.toNatClampNeg 0))) := by
  refine txBody (by decide) (Nat.le_of_ble_eq_true rfl) ?_
  intro p e R s m args below meth c ls o hx hb hr hml hown hts hlocks hl hfr hlo
  obtain ⟨hE, hZ, -⟩ := hO s o
  have hS : va_S (fun q => B ≤ q) s.heap s.heap [] := va_S.rf
  have hT := (hE.1 i hi).2.2.2
  have hlt : x < Int32.ofNat (txN.getD i 0) := by
    have h1 := hx0.1
    have h2 := hx0.2
    rw [Int32.le_iff_toInt_le] at h1
    rw [Int32.lt_iff_toInt_lt]
    have e1 : (Int32.ofNat (txN.getD i 0)).toInt = (txN.getD i 0 : Nat) := by rcases (show i = 0 ∨ i = 1 by omega) with rfl | rfl <;> decide
    rw [e1]
    have e2 : (x.toNatClampNeg : Int) = x.toInt := by
      unfold Int32.toNatClampNeg
      have : (0 : Int32).toInt = 0 := rfl
      omega
    omega
  refine lv_iload_n hx hb dT_charAtL_0 rfl (lv_at hl 1 rfl) ?_
  refine lv_aload_n hx hb dT_charAtL_1 rfl (lv_at hl 0 rfl) ?_
  refine va_tlen hx hb hT hS rfl dT_charAtL_2 ?_
  refine txS (n := 2) (as := [.int x, .int (Int32.ofNat (txN.getD i 0))]) (rest := []) cl o hx hb hml hown hts hS (fun _ h => h) (tx_checkIndex cl hO (mj_nn hx0.1) hlt) wT_code_checkIndex wT_ini_String wT_kind_checkIndex (hts _ wT_m9_checkIndex) (by decide +kernel) rfl (by omega) (by decide) dT_charAtL_3 ⟨Nat.zero_le _, Nat.zero_le _⟩ ?_
  refine lv_aload_n hx hb dT_charAtL_6 rfl (lv_at hl 0 rfl) ?_
  refine lv_iload_n hx hb dT_charAtL_7 rfl (lv_at hl 1 rfl) ?_
  refine va_tb hx hb hT hS (vp_of_in hx0) rfl dT_charAtL_8 ?_
  refine lv_sipush (v := 255) hx hb dT_charAtL_9 (by decide) ?_
  refine lv_iand hx hb dT_charAtL_12 ?_
  have key : ∀ j : Nat, j < txN.getD i 0 → (((txB.getD i []).getD j 0 &&& 255).toUInt32 % 65536).toInt32 = (txB.getD i []).getD j 0 ∧ narrow .char (.int ((txB.getD i []).getD j 0)) = .int ((txB.getD i []).getD j 0) := by
    rcases (show i = 0 ∨ i = 1 by omega) with rfl | rfl <;> decide +kernel
  refine lv_i2c hx hb dT_charAtL_13 (key _ hx0.2).1 ?_
  exact W.zret (ty := .char) hx hb hr (key _ hx0.2).2 (fun t ht _ => ⟨rfl, ht⟩) (fun q h => nomatch h) dT_charAtL_14 (hlocks := hlocks)
theorem tx_charAt (cl : mjCl5 B O) (hO : ∀ s, O s → mjTxt B adK adV s) {i : Nat} (hi : i < 2) {x : Int32} (hx0 : mjIn x (txN.getD i 0)) : mjRd l O yT_charAt cT_charAt 2 (some .char) 3 [.ref (adK i), .int x] (some (.int ((txB.getD i []).getD x.toNatClampNeg 0))) := by
  refine txBody (by decide) (Nat.le_of_ble_eq_true rfl) ?_
  intro p e R s m args below meth c ls o hx hb hr hml hown hts hlocks hl hfr hlo
  obtain ⟨hE, hZ, -⟩ := hO s o
  have hS : va_S (fun q => B ≤ q) s.heap s.heap [] := va_S.rf
  refine lv_aload_n hx hb dT_charAt_0 rfl (lv_at hl 0 rfl) ?_
  refine txV (n := 0) (as := []) (rest := []) cl o hx hb hml hown hts hS (fun _ h => h) (tx_isLatin1 hO hi) wT_code_isLatin1 wT_ini_String wT_kind_isLatin1 wT_sel_isLatin1 (hts _ wT_m492_isLatin1) (by decide +kernel) rfl (by omega) (vk_recv hE hi hS) (by decide) dT_charAt_1 ⟨Nat.zero_le _, Nat.zero_le _⟩ ?_
  refine lv_if_eq (tgt := 16) hx hb dT_charAt_4 (by decide) (fun h => absurd h (by decide)) (fun _ => ?_)
  refine lv_aload_n hx hb dT_charAt_7 rfl (lv_at hl 0 rfl) ?_
  refine vk_getf hx hb (hE.1 i hi).2.2.1 hS hown (hts _ wT_f9) (fun _ h => h) dT_charAt_8 ?_
  refine lv_iload_n hx hb dT_charAt_11 rfl (lv_at hl 1 rfl) ?_
  refine txS (n := 2) (as := [.ref (adV i), .int x]) (rest := []) cl o hx hb hml hown hts hS (fun _ h => h) (tx_charAtL cl hO hi hx0) wT_code_charAtL wT_ini_StringLatin1 wT_kind_charAtL (hts _ wT_m495_charAtL) (by decide +kernel) rfl (by omega) (by decide) dT_charAt_12 ⟨Nat.zero_le _, Nat.zero_le _⟩ ?_
  have key : ∀ j : Nat, j < txN.getD i 0 → narrow .char (.int ((txB.getD i []).getD j 0)) = .int ((txB.getD i []).getD j 0) := by
    rcases (show i = 0 ∨ i = 1 by omega) with rfl | rfl <;> decide +kernel
  exact W.zret (ty := .char) hx hb hr (key _ hx0.2) (fun t ht _ => ⟨rfl, ht⟩) (fun q h => nomatch h) dT_charAt_15 (hlocks := hlocks)
end ROWS
