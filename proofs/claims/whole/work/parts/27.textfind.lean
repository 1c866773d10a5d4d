/-! where a sign stands in a text -/
theorem mjFind_congr {x z : Int32} : ∀ (l : List Int32) (i : Int32), (∀ y ∈ l, z = y ↔ x = y) → mjFind l z i = mjFind l x i := by
  intro l
  induction l with
  | nil => intro i _; rfl
  | cons y l ih =>
    intro i h
    show (if z = y then i else mjFind l z (i + 1)) = if x = y then i else mjFind l x (i + 1)
    rw [ih (i + 1) (fun q hq => h q (List.mem_cons_of_mem _ hq))]
    by_cases hx : x = y
    · rw [if_pos hx, if_pos ((h y List.mem_cons_self).mpr hx)]
    · rw [if_neg hx, if_neg (fun q => hx ((h y List.mem_cons_self).mp q))]
theorem mjFind_none {x : Int32} : ∀ (l : List Int32) (i : Int32), (∀ y ∈ l, x ≠ y) → mjFind l x i = -1 := by
  intro l
  induction l with
  | nil => intro i _; rfl
  | cons y l ih =>
    intro i h
    show (if x = y then i else mjFind l x (i + 1)) = -1
    rw [if_neg (h y List.mem_cons_self), ih (i + 1) (fun q hq => h q (List.mem_cons_of_mem _ hq))]
theorem mj_byte {x : Int32} (h0 : ¬ x < 0) (h1 : ¬ 255 < x) {y : Int32} (hy : 0 ≤ y.toInt ∧ y.toInt ≤ 127) : mjB x = y ↔ x = y := by
  rw [Int32.lt_iff_toInt_lt] at h0 h1
  have e0 : (0 : Int32).toInt = 0 := rfl
  have e1 : (255 : Int32).toInt = 255 := rfl
  have hb : (mjB x).toInt = x.toInt.bmod 256 := by
    unfold mjB
    rw [Int8.toInt_toInt32, Int32.toInt_toInt8]
  rw [← Int32.toInt_inj, ← Int32.toInt_inj, hb]
  have : x.toInt.bmod 256 = if x.toInt < 128 then x.toInt else x.toInt - 256 := by
    rw [Int.bmod_def]
    have hm : x.toInt % ((256 : Nat) : Int) = x.toInt := Int.emod_eq_of_lt (by omega) (by omega)
    rw [hm]
    rfl
  rw [this]
  split <;> omega
theorem tx_small : ∀ i, i < 2 → ∀ y ∈ txB.getD i [], 0 ≤ y.toInt ∧ y.toInt ≤ 127 := by
  intro i hi
  rcases (show i = 0 ∨ i = 1 by omega) with rfl | rfl <;> decide +kernel
theorem tx_lens : ∀ i, i < 2 → (txB.getD i []).length = txN.getD i 0 ∧ txN.getD i 0 < 1000 := by
  intro i hi
  rcases (show i = 0 ∨ i = 1 by omega) with rfl | rfl <;> decide +kernel
theorem tx_drop (q : List Int32) (j : Nat) (h : j < q.length) : q.drop j = q.getD j 0 :: q.drop (j + 1) := by
  rw [List.drop_eq_getElem_cons h]
  congr 1
  rw [List.getD_eq_getElem?_getD, List.getElem?_eq_getElem h]; rfl
section FIND
variable {l : Launch} {O : State → Prop} {B : Nat} {adK adV : Nat → Nat}
theorem tx_canEncode (x : Int32) : mjRd l O yT_canEncode cT_canEncode 1 (some .boolean) 0 [.int x] (some (.int (if x < 0 then 0 else if 255 < x then 0 else 1))) := by
  refine txBody (by decide) (Nat.le_of_ble_eq_true rfl) ?_
  intro p e R s m args below meth c ls o hx hb hr hml hown hts hlocks hl hfr hlo
  refine lv_iload_n hx hb dT_canEncode_0 rfl (lv_at hl 0 rfl) ?_
  refine lv_if_lt (tgt := 15) hx hb dT_canEncode_1 (by decide) (fun h => ?_) (fun h => ?_)
  · refine lv_iconst (v := 0) hx hb dT_canEncode_15 (by decide) ?_
    exact W.zret (ty := .boolean) hx hb hr (by decide) (fun t ht _ => ⟨by rw [if_pos h], ht⟩) (fun q h => nomatch h) dT_canEncode_16 (hlocks := hlocks)
  · refine lv_iload_n hx hb dT_canEncode_4 rfl (lv_at hl 0 rfl) ?_
    refine lv_sipush (v := 255) hx hb dT_canEncode_5 (by decide) ?_
    refine lv_icmp_gt (tgt := 15) hx hb dT_canEncode_8 (by decide) (fun h2 => ?_) (fun h2 => ?_)
    · refine lv_iconst (v := 0) hx hb dT_canEncode_15 (by decide) ?_
      exact W.zret (ty := .boolean) hx hb hr (by decide) (fun t ht _ => ⟨by rw [if_neg h, if_pos h2], ht⟩) (fun q h => nomatch h) dT_canEncode_16 (hlocks := hlocks)
    · refine lv_iconst (v := 1) hx hb dT_canEncode_11 (by decide) ?_
      refine lv_goto (tgt := 16) hx hb dT_canEncode_12 (by decide) ?_
      exact W.zret (ty := .boolean) hx hb hr (by decide) (fun t ht _ => ⟨by rw [if_neg h, if_neg h2], ht⟩) (fun q h => nomatch h) dT_canEncode_16 (hlocks := hlocks)
theorem tx_indexOfC (hO : ∀ s, O s → mjTxt B adK adV s) {i : Nat} (hi : i < 2) (x : Int32) : mjRd l O yT_indexOfC cT_indexOfC 6 (some .int) 0 [.ref (adV i), .int x, .int 0, .int (nI (txN.getD i 0))] (some (.int (mjFind (txB.getD i []) (mjB x) 0))) := by
  obtain ⟨hlen, hsm⟩ := tx_lens i hi
  refine txBody (by decide) (Nat.le_of_ble_eq_true rfl) ?_
  intro p e R s m args below meth c ls o hx hb hr hml hown hts hlocks hl hfr hlo
  obtain ⟨hE, hZ, -⟩ := hO s o
  have hS : va_S (fun q => B ≤ q) s.heap s.heap [] := va_S.rf
  have hT := (hE.1 i hi).2.2.2
  have hl : lv_has ls 6 [(0, .ref (adV i)), (1, .int x), (2, .int 0), (3, .int (nI (txN.getD i 0)))] := hl
  refine lv_iload_n hx hb dT_indexOfC_0 rfl (lv_at hl 1 rfl) ?_
  refine lv_i2b (v := mjB x) hx hb dT_indexOfC_1 rfl ?_
  refine lv_istore (lv' := [(4, .int (mjB x)), (0, .ref (adV i)), (1, .int x), (2, .int 0), (3, .int (nI (txN.getD i 0)))]) hx hb dT_indexOfC_2 hl (by decide) rfl (fun ls hl => ?_)
  refine lv_iload_n hx hb dT_indexOfC_4 rfl (lv_at hl 3 rfl) ?_
  refine lv_istore (lv' := [(5, .int 0), (4, .int (mjB x)), (0, .ref (adV i)), (1, .int x), (2, .int 0), (3, .int (nI (txN.getD i 0)))]) hx hb dT_indexOfC_5 hl (by decide) rfl (fun ls hl => ?_)
  have loop : ∀ (n j : Nat) (ls : Array Slot), j + n = txN.getD i 0 → lv_has ls 6 [(5, .int (nI j)), (4, .int (mjB x)), (0, .ref (adV i)), (3, .int (nI (txN.getD i 0)))] → W p l e R s m args below meth c s.heap [] 0 0 (MQ below (fun _ st o t => o = .returned (some (.int (mjFind ((txB.getD i []).drop j) (mjB x) (nI j)))) ∧ t.heap = st.heap) args s 0 0 (fun _ => False)) (F0 m 7 ls []) := by
    intro n
    induction n with
    | zero =>
      intro j ls hj hl
      refine lv_iload hx hb dT_indexOfC_7 (lv_at hl 0 rfl) ?_
      refine lv_iload_n hx hb dT_indexOfC_9 rfl (lv_at hl 3 rfl) ?_
      refine lv_icmp_ge (tgt := 31) hx hb dT_indexOfC_10 (by decide) (fun _ => ?_) (fun h => absurd (i32_ge.mpr (fun q => by rw [nI_ltI (by omega) (by omega)] at q; omega)) h)
      refine lv_iconst (v := -1) hx hb dT_indexOfC_31 (by decide) ?_
      refine W.iret hx hb hr (fun t ht _ => ⟨?_, ht⟩) (fun q h => nomatch h) dT_indexOfC_32 (hlocks := hlocks)
      rw [List.drop_eq_nil_of_le (by omega)]; rfl
    | succ n ih =>
      intro j ls hj hl
      have hjl : j < (txB.getD i []).length := by omega
      have hdr := tx_drop (txB.getD i []) j hjl
      refine lv_iload hx hb dT_indexOfC_7 (lv_at hl 0 rfl) ?_
      refine lv_iload_n hx hb dT_indexOfC_9 rfl (lv_at hl 3 rfl) ?_
      refine lv_icmp_ge (tgt := 31) hx hb dT_indexOfC_10 (by decide) (fun h => absurd ((nI_ltI (by omega) (by omega)).mpr (show j < txN.getD i 0 by omega)) (i32_ge.mp h)) (fun _ => ?_)
      refine lv_aload_n hx hb dT_indexOfC_13 rfl (lv_at hl 2 rfl) ?_
      refine lv_iload hx hb dT_indexOfC_14 (lv_at hl 0 rfl) ?_
      refine va_tb hx hb hT hS (v := .int ((txB.getD i []).getD j 0)) (vp_of_in ⟨i32_ge.mpr (fun q => by have := (nI_ltI (a := j) (b := 0) (by omega) (by omega)).mp q; omega), by rw [nI_clamp (by omega)]; omega⟩) (by rw [nI_clamp (by omega)]) dT_indexOfC_16 ?_
      refine lv_iload hx hb dT_indexOfC_17 (lv_at hl 1 rfl) ?_
      refine lv_icmp_ne (tgt := 25) hx hb dT_indexOfC_19 (by decide) (fun h => ?_) (fun h => ?_)
      · refine lv_iinc (v := nI (j + 1)) (lv' := [(5, .int (nI (j + 1))), (4, .int (mjB x)), (0, .ref (adV i)), (3, .int (nI (txN.getD i 0)))]) hx hb dT_indexOfC_25 hl (k := 0) rfl (nI_1 j) (by decide) rfl (fun ls hl => ?_)
        refine lv_goto (tgt := 7) hx hb dT_indexOfC_28 (by decide) ?_
        refine W_mono (fun t ht => ?_) (ih (j + 1) ls (by omega) hl)
        rw [hdr]
        show MQ below (fun _ st o t => o = .returned (some (.int (if mjB x = (txB.getD i []).getD j 0 then nI j else mjFind ((txB.getD i []).drop (j + 1)) (mjB x) (nI j + 1)))) ∧ t.heap = st.heap) args s 0 0 (fun _ => False) t
        rw [if_neg (fun q => h q.symm), nI_1]
        exact ht
      · refine lv_iload hx hb dT_indexOfC_22 (lv_at hl 0 rfl) ?_
        refine W.iret hx hb hr (fun t ht _ => ⟨?_, ht⟩) (fun q h => nomatch h) dT_indexOfC_24 (hlocks := hlocks)
        rw [hdr]
        show _ = Outcome.returned (some (.int (if mjB x = (txB.getD i []).getD j 0 then nI j else _)))
        rw [if_pos h.symm]
  exact loop (txN.getD i 0) 0 ls (by omega) (lv_sub hl [0, 1, 2, 5] rfl)
theorem tx_indexOfL (cl : mjCl5 B O) (hO : ∀ s, O s → mjTxt B adK adV s) {i : Nat} (hi : i < 2) (x : Int32) : mjRd l O yT_indexOfL cT_indexOfL 4 (some .int) 1 [.ref (adV i), .int x, .int 0, .int (nI (txN.getD i 0))] (some (.int (mjFind (txB.getD i []) x 0))) := by
  obtain ⟨hlen, hsm⟩ := tx_lens i hi
  have hpos : 0 < txN.getD i 0 := by rcases (show i = 0 ∨ i = 1 by omega) with rfl | rfl <;> decide
  refine txBody (by decide) (Nat.le_of_ble_eq_true rfl) ?_
  intro p e R s m args below meth c ls o hx hb hr hml hown hts hlocks hl hfr hlo
  obtain ⟨hE, hZ, -⟩ := hO s o
  have hS : va_S (fun q => B ≤ q) s.heap s.heap [] := va_S.rf
  have hT := (hE.1 i hi).2.2.2
  have hl : lv_has ls 4 [(0, .ref (adV i)), (1, .int x), (2, .int 0), (3, .int (nI (txN.getD i 0)))] := hl
  have hsz : ls.size = 4 := hl.1
  refine lv_iload_n hx hb dT_indexOfL_0 rfl (lv_at hl 1 rfl) ?_
  refine txS (n := 1) (as := [.int x]) (rest := []) cl o hx hb hml hown hts hS (fun _ h => h) (tx_canEncode x) wT_code_canEncode wT_ini_StringLatin1 wT_kind_canEncode (hts _ wT_m88_canEncode) (by decide +kernel) rfl (by omega) (by decide) dT_indexOfL_1 ⟨Nat.zero_le _, Nat.zero_le _⟩ ?_
  refine lv_if_ne (tgt := 9) hx hb dT_indexOfL_4 (by decide) (fun hc => ?_) (fun hc => ?_)
  · have h0 : ¬ x < 0 := fun q => by rw [if_pos q] at hc; exact hc rfl
    have h1 : ¬ 255 < x := fun q => by rw [if_neg h0, if_pos q] at hc; exact hc rfl
    have hf : mjFind (txB.getD i []) x 0 = mjFind (txB.getD i []) (mjB x) 0 := (mjFind_congr _ 0 (fun y hy => mj_byte h0 h1 (tx_small i hi y hy))).symm
    rw [hf]
    refine lv_iload_n hx hb dT_indexOfL_9 rfl (lv_at hl 2 rfl) ?_
    refine lv_iconst (v := 0) hx hb dT_indexOfL_10 (by decide) ?_
    refine va_mmax hx hb hml hown (hts _ wT_m92_max) (hts _ wT_kind_max) (hts _ wT_ini_Math) (hts _ wT_code_max) (by omega) (by simp; omega) (Nat.zero_le _) (Nat.zero_le _) dT_indexOfL_11 ?_
    rw [if_neg (by decide : ¬ (0 : Int32) < 0)]
    refine lv_istore_n (lv' := [(2, .int 0), (0, .ref (adV i)), (1, .int x), (3, .int (nI (txN.getD i 0)))]) hx hb dT_indexOfL_14 rfl hl (by decide) rfl (fun ls1 hl => ?_)
    have hml1 : c.maxLocals = ls1.size := hml.trans (hsz.trans hl.1.symm)
    refine lv_iload_n hx hb dT_indexOfL_15 rfl (lv_at hl 3 rfl) ?_
    refine lv_aload_n hx hb dT_indexOfL_16 rfl (lv_at hl 1 rfl) ?_
    refine va_tlen hx hb hT hS rfl dT_indexOfL_17 ?_
    refine va_mmin hx hb hml1 hown (hts _ wT_m38_min) (hts _ wT_kind_min) (hts _ wT_ini_Math) (hts _ wT_code_min) (by omega) (by simp; omega) (Nat.zero_le _) (Nat.zero_le _) dT_indexOfL_18 ?_
    have emin : (if Int32.ofNat (txN.getD i 0) < nI (txN.getD i 0) then Int32.ofNat (txN.getD i 0) else nI (txN.getD i 0)) = nI (txN.getD i 0) := by split <;> rfl
    rw [emin]
    refine lv_istore_n (lv' := [(3, .int (nI (txN.getD i 0))), (2, .int 0), (0, .ref (adV i)), (1, .int x)]) hx hb dT_indexOfL_21 rfl hl (by decide) rfl (fun ls2 hl => ?_)
    have hml2 : c.maxLocals = ls2.size := hml.trans (hsz.trans hl.1.symm)
    refine lv_iload_n hx hb dT_indexOfL_22 rfl (lv_at hl 1 rfl) ?_
    refine lv_iload_n hx hb dT_indexOfL_23 rfl (lv_at hl 0 rfl) ?_
    refine lv_icmp_lt (tgt := 29) hx hb dT_indexOfL_24 (by decide) (fun _ => ?_) (fun h => absurd (nI_lt (a := 0) hpos (by omega)) h)
    refine lv_aload_n hx hb dT_indexOfL_29 rfl (lv_at hl 2 rfl) ?_
    refine lv_iload_n hx hb dT_indexOfL_30 rfl (lv_at hl 3 rfl) ?_
    refine lv_iload_n hx hb dT_indexOfL_31 rfl (lv_at hl 1 rfl) ?_
    refine lv_iload_n hx hb dT_indexOfL_32 rfl (lv_at hl 0 rfl) ?_
    refine txS (n := 4) (as := [.ref (adV i), .int x, .int 0, .int (nI (txN.getD i 0))]) (rest := []) cl o hx hb hml2 hown hts hS (fun _ h => h) (tx_indexOfC hO hi x) wT_code_indexOfC wT_ini_StringLatin1 wT_kind_indexOfC (hts _ wT_m95_indexOfC) (by decide +kernel) rfl (by omega) (by decide) dT_indexOfL_33 ⟨Nat.zero_le _, Nat.zero_le _⟩ ?_
    exact W.iret hx hb hr (fun t ht _ => ⟨rfl, ht⟩) (fun q h => nomatch h) dT_indexOfL_36 (hlocks := hlocks)
  · refine lv_iconst (v := -1) hx hb dT_indexOfL_7 (by decide) ?_
    refine W.iret hx hb hr (fun t ht _ => ⟨?_, ht⟩) (fun q h => nomatch h) dT_indexOfL_8 (hlocks := hlocks)
    rw [mjFind_none _ 0 (fun y hy hxy => ?_)]
    obtain ⟨y0, y1⟩ := tx_small i hi y hy
    rw [← hxy] at y0 y1
    have h0 : ¬ x < 0 := fun q => by rw [Int32.lt_iff_toInt_lt] at q; have : (0 : Int32).toInt = 0 := rfl; omega
    have h1 : ¬ 255 < x := fun q => by rw [Int32.lt_iff_toInt_lt] at q; have : (255 : Int32).toInt = 255 := rfl; omega
    rw [if_neg h0, if_neg h1] at hc
    exact absurd hc (by decide)
theorem tx_indexOf2 (cl : mjCl5 B O) (hO : ∀ s, O s → mjTxt B adK adV s) {i : Nat} (hi : i < 2) (x : Int32) : mjRd l O yT_indexOf2 cT_indexOf2 3 (some .int) 2 [.ref (adK i), .int x, .int 0] (some (.int (mjFind (txB.getD i []) x 0))) := by
  refine txBody (by decide) (Nat.le_of_ble_eq_true rfl) ?_
  intro p e R s m args below meth c ls o hx hb hr hml hown hts hlocks hl hfr hlo
  obtain ⟨hE, hZ, -⟩ := hO s o
  have hS : va_S (fun q => B ≤ q) s.heap s.heap [] := va_S.rf
  refine lv_aload_n hx hb dT_indexOf2_0 rfl (lv_at hl 0 rfl) ?_
  refine txV (n := 0) (as := []) (rest := []) cl o hx hb hml hown hts hS (fun _ h => h) (tx_isLatin1 hO hi) wT_code_isLatin1 wT_ini_String wT_kind_isLatin1 wT_sel_isLatin1 (hts _ wT_m492_isLatin1) (by decide +kernel) rfl (by omega) (vk_recv hE hi hS) (by decide) dT_indexOf2_1 ⟨Nat.zero_le _, Nat.zero_le _⟩ ?_
  refine lv_if_eq (tgt := 23) hx hb dT_indexOf2_4 (by decide) (fun h => absurd h (by decide)) (fun _ => ?_)
  refine lv_aload_n hx hb dT_indexOf2_7 rfl (lv_at hl 0 rfl) ?_
  refine vk_getf hx hb (hE.1 i hi).2.2.1 hS hown (hts _ wT_f9) (fun _ h => h) dT_indexOf2_8 ?_
  refine lv_iload_n hx hb dT_indexOf2_11 rfl (lv_at hl 1 rfl) ?_
  refine lv_iload_n hx hb dT_indexOf2_12 rfl (lv_at hl 2 rfl) ?_
  refine lv_aload_n hx hb dT_indexOf2_13 rfl (lv_at hl 0 rfl) ?_
  refine txV (n := 0) (as := []) (rest := [.int 0, .int x, .ref (adV i)]) cl o hx hb hml hown hts hS (fun _ h => h) (tx_length cl hO hi) wT_code_length wT_ini_String wT_kind_length wT_sel_length (hts _ wT_m505_length) (by decide +kernel) rfl (by omega) (vk_recv hE hi hS) (by simp [Value.category]) dT_indexOf2_14 ⟨Nat.zero_le _, Nat.zero_le _⟩ ?_
  refine txS (n := 4) (as := [.ref (adV i), .int x, .int 0, .int (nI (txN.getD i 0))]) (rest := []) cl o hx hb hml hown hts hS (fun _ h => h) (tx_indexOfL cl hO hi x) wT_code_indexOfL wT_ini_StringLatin1 wT_kind_indexOfL (hts _ wT_m637_indexOfL) (by decide +kernel) rfl (by omega) (by decide) dT_indexOf2_17 ⟨Nat.zero_le _, Nat.zero_le _⟩ ?_
  refine lv_goto (tgt := 36) hx hb dT_indexOf2_20 (by decide) ?_
  exact W.iret hx hb hr (fun t ht _ => ⟨rfl, ht⟩) (fun q h => nomatch h) dT_indexOf2_36 (hlocks := hlocks)
theorem tx_indexOf1 (cl : mjCl5 B O) (hO : ∀ s, O s → mjTxt B adK adV s) {i : Nat} (hi : i < 2) (x : Int32) : mjRd l O yT_indexOf1 cT_indexOf1 2 (some .int) 3 [.ref (adK i), .int x] (some (.int (mjFind (txB.getD i []) x 0))) := by
  refine txBody (by decide) (Nat.le_of_ble_eq_true rfl) ?_
  intro p e R s m args below meth c ls o hx hb hr hml hown hts hlocks hl hfr hlo
  obtain ⟨hE, hZ, -⟩ := hO s o
  have hS : va_S (fun q => B ≤ q) s.heap s.heap [] := va_S.rf
  refine lv_aload_n hx hb dT_indexOf1_0 rfl (lv_at hl 0 rfl) ?_
  refine lv_iload_n hx hb dT_indexOf1_1 rfl (lv_at hl 1 rfl) ?_
  refine lv_iconst (v := 0) hx hb dT_indexOf1_2 (by decide) ?_
  refine txV (n := 2) (as := [.int x, .int 0]) (rest := []) cl o hx hb hml hown hts hS (fun _ h => h) (tx_indexOf2 cl hO hi x) wT_code_indexOf2 wT_ini_String wT_kind_indexOf2 wT_sel_indexOf2 (hts _ wT_m633_indexOf2) (by decide +kernel) rfl (by omega) (vk_recv hE hi hS) (by decide) dT_indexOf1_3 ⟨Nat.zero_le _, Nat.zero_le _⟩ ?_
  exact W.iret hx hb hr (fun t ht _ => ⟨rfl, ht⟩) (fun q h => nomatch h) dT_indexOf1_6 (hlocks := hlocks)
end FIND
