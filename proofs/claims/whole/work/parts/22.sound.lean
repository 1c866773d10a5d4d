/-! THE STEP'S SOUNDNESS, instruction by instruction -/
section SOUND
variable {l : Launch} {D : va_G} {B b L : Nat} {xs : Nat → Int32} {k0 k1 : Nat} {O : State → Prop}
set_option maxHeartbeats 8000000 in
set_option maxRecDepth 20000 in
theorem mj_step (env : mjEnv l B b L xs k0 k1 O) (hchk : ∀ c pc q, c < 264 → mjCode c pc = some q → mjChk c pc q = true) (hYall : ∀ c, c < 263 → c < 258 ∨ 260 < c → mjChY c = true) (g : mjT) (IH : ∀ c lv pc ls st h v h', g c lv pc ls st h = some (v, h') → mjSnd l D B b L xs k0 k1 O c lv pc ls st h v h') :
    ∀ c lv pc ls st h v h', mjF g g c lv pc ls st h = some (v, h') → mjSnd l D B b L xs k0 k1 O c lv pc ls st h v h' := by
  intro c lv pc ls st h v h' hr
  unfold mjF at hr
  cases hq : mjCode c pc with
  | none => rw [hq] at hr; cases hr
  | some q =>
    have hc : c < 264 := by
      rcases Nat.lt_or_ge c 264 with hc | hc
      · exact hc
      · rw [mjCode_big hc] at hq; cases hq
    have hk := hchk c pc q hc hq
    rw [hq] at hr
    obtain ⟨ins, nx, r1, r2, r3, ki, kl, ht⟩ := q
    cases ins <;> dsimp only at hr
    case aload_n i =>
      simp only [mjChk, Bool.and_eq_true, decide_eq_true_eq, and_true] at hk
      simp only [mjLn] at hk
      obtain ⟨hd, rfl⟩ := hk
      obtain ⟨a, ha, hr_1⟩ := kLa_some hr
      exact mjLoadA (IH _ _ _ _ _ _ _ _ hr_1) ha (fun C hl hw k => mj_aload_n rfl hd C hl hw k)
    case aload i =>
      simp only [mjChk, Bool.and_eq_true, decide_eq_true_eq, and_true] at hk
      simp only [mjLn] at hk
      obtain ⟨hd, rfl⟩ := hk
      obtain ⟨a, ha, hr_1⟩ := kLa_some hr
      exact mjLoadA (IH _ _ _ _ _ _ _ _ hr_1) ha (fun C hl hw k => mj_aload hd C hl hw k)
    case iload_n i =>
      simp only [mjChk, Bool.and_eq_true, decide_eq_true_eq, and_true] at hk
      simp only [mjLn] at hk
      obtain ⟨hd, rfl⟩ := hk
      obtain ⟨a, ha, hr_1⟩ := kLi_some hr
      exact mjPure (IH _ _ _ _ _ _ _ _ hr_1) (fun _ _ _ hv => mjVs.cons trivial hv) (fun C hl k => lv_iload_n C.1 C.2.1 hd rfl (hl.read ha trivial) k)
    case iload i =>
      simp only [mjChk, Bool.and_eq_true, decide_eq_true_eq, and_true] at hk
      simp only [mjLn] at hk
      obtain ⟨hd, rfl⟩ := hk
      obtain ⟨a, ha, hr_1⟩ := kLi_some hr
      exact mjPure (IH _ _ _ _ _ _ _ _ hr_1) (fun _ _ _ hv => mjVs.cons trivial hv) (fun C hl k => lv_iload C.1 C.2.1 hd (hl.read ha trivial) k)
    case lload_n i =>
      simp only [mjChk, Bool.and_eq_true, decide_eq_true_eq, and_true] at hk
      simp only [mjLn] at hk
      obtain ⟨hd, rfl⟩ := hk
      obtain ⟨a, ha, hr_1⟩ := kLl_some hr
      exact mjPure (IH _ _ _ _ _ _ _ _ hr_1) (fun _ _ _ hv => mjVs.cons trivial hv) (fun C hl k => lv_lload_n C.1 C.2.1 hd rfl (hl.read ha trivial) k)
    case lload i =>
      simp only [mjChk, Bool.and_eq_true, decide_eq_true_eq, and_true] at hk
      simp only [mjLn] at hk
      obtain ⟨hd, rfl⟩ := hk
      obtain ⟨a, ha, hr_1⟩ := kLl_some hr
      exact mjPure (IH _ _ _ _ _ _ _ _ hr_1) (fun _ _ _ hv => mjVs.cons trivial hv) (fun C hl k => lv_lload C.1 C.2.1 hd (hl.read ha trivial) k)
    case astore_n i =>
      simp only [mjChk, Bool.and_eq_true, decide_eq_true_eq, and_true] at hk
      simp only [mjLn] at hk
      obtain ⟨⟨hd, rfl⟩, hi⟩ := hk
      obtain ⟨a, r, rfl, hr_1⟩ := k1a_some hr
      exact mjStore (IH _ _ _ _ _ _ _ _ hr_1) (fun _ _ hv => hv.tail) (fun _ _ hv => hv.head) (fun {_ _ _ _ _ _ _ _ _ f _ _ _ _ _ _} C hl _ k => mj_astore_n rfl hd hi C hl (va_rf_or (mjOp f a)) k)
    case astore i =>
      simp only [mjChk, Bool.and_eq_true, decide_eq_true_eq, and_true] at hk
      simp only [mjLn] at hk
      obtain ⟨⟨hd, rfl⟩, hi⟩ := hk
      obtain ⟨a, r, rfl, hr_1⟩ := k1a_some hr
      exact mjStore (IH _ _ _ _ _ _ _ _ hr_1) (fun _ _ hv => hv.tail) (fun _ _ hv => hv.head) (fun {_ _ _ _ _ _ _ _ _ f _ _ _ _ _ _} C hl _ k => mj_astore hd hi C hl (va_rf_or (mjOp f a)) k)
    case istore_n i =>
      simp only [mjChk, Bool.and_eq_true, decide_eq_true_eq, and_true] at hk
      simp only [mjLn] at hk
      obtain ⟨⟨hd, rfl⟩, hi⟩ := hk
      obtain ⟨a, r, rfl, hr_1⟩ := k1i_some hr
      exact mjStore (IH _ _ _ _ _ _ _ _ hr_1) (fun _ _ hv => hv.tail) (fun _ _ _ => trivial) (fun C hl _ k => lv_istore_n C.1 C.2.1 hd rfl hl hi rfl k)
    case istore i =>
      simp only [mjChk, Bool.and_eq_true, decide_eq_true_eq, and_true] at hk
      simp only [mjLn] at hk
      obtain ⟨⟨hd, rfl⟩, hi⟩ := hk
      obtain ⟨a, r, rfl, hr_1⟩ := k1i_some hr
      exact mjStore (IH _ _ _ _ _ _ _ _ hr_1) (fun _ _ hv => hv.tail) (fun _ _ _ => trivial) (fun C hl _ k => lv_istore C.1 C.2.1 hd hl hi rfl k)
    case lstore_n i =>
      simp only [mjChk, Bool.and_eq_true, decide_eq_true_eq, and_true] at hk
      simp only [mjLn] at hk
      obtain ⟨⟨hd, rfl⟩, hi⟩ := hk
      obtain ⟨a, r, rfl, hr_1⟩ := k1l_some hr
      exact mjStore2 (IH _ _ _ _ _ _ _ _ hr_1) (fun _ _ hv => hv.tail) (fun C hl k => lv_lstore_n C.1 C.2.1 hd rfl hl hi rfl k)
    case lstore i =>
      simp only [mjChk, Bool.and_eq_true, decide_eq_true_eq, and_true] at hk
      simp only [mjLn] at hk
      obtain ⟨⟨hd, rfl⟩, hi⟩ := hk
      obtain ⟨a, r, rfl, hr_1⟩ := k1l_some hr
      exact mjStore2 (IH _ _ _ _ _ _ _ _ hr_1) (fun _ _ hv => hv.tail) (fun C hl k => lv_lstore C.1 C.2.1 hd hl hi rfl k)
    case iconst n =>
      simp only [mjChk, Bool.and_eq_true, decide_eq_true_eq, and_true] at hk
      simp only [mjLn] at hk
      obtain ⟨⟨hd, rfl⟩, hv⟩ := hk
      exact mjPure (IH _ _ _ _ _ _ _ _ hr) (fun _ _ _ hv => mjVs.cons trivial hv) (fun C _ k => lv_iconst C.1 C.2.1 hd hv k)
    case bipush n =>
      simp only [mjChk, Bool.and_eq_true, decide_eq_true_eq, and_true] at hk
      simp only [mjLn] at hk
      obtain ⟨⟨hd, rfl⟩, hv⟩ := hk
      exact mjPure (IH _ _ _ _ _ _ _ _ hr) (fun _ _ _ hv => mjVs.cons trivial hv) (fun C _ k => lv_bipush C.1 C.2.1 hd hv k)
    case sipush n =>
      simp only [mjChk, Bool.and_eq_true, decide_eq_true_eq, and_true] at hk
      simp only [mjLn] at hk
      obtain ⟨⟨hd, rfl⟩, hv⟩ := hk
      exact mjPure (IH _ _ _ _ _ _ _ _ hr) (fun _ _ _ hv => mjVs.cons trivial hv) (fun C _ k => lv_sipush C.1 C.2.1 hd hv k)
    case lconst n =>
      simp only [mjChk, Bool.and_eq_true, decide_eq_true_eq, and_true] at hk
      simp only [mjLn] at hk
      obtain ⟨⟨hd, rfl⟩, hv⟩ := hk
      exact mjPure (IH _ _ _ _ _ _ _ _ hr) (fun _ _ _ hv => mjVs.cons trivial hv) (fun C _ k => lv_lconst C.1 C.2.1 hd hv k)
    case ldc i =>
      simp only [mjChk, Bool.and_eq_true, decide_eq_true_eq, and_true] at hk
      simp only [mjLn] at hk
      obtain ⟨⟨hd, rfl⟩, hv⟩ := hk
      cases h0 : Nat.beq r1 0 with
      | true =>
        rw [h0] at hr hv
        simp only [cond_true, decide_eq_true_eq] at hr hv
        exact mjPure (IH _ _ _ _ _ _ _ _ hr) (fun _ _ _ hv => mjVs.cons trivial hv) (fun C _ k => lv_ldc C.1 C.2.1 C.2.2.2.2.1 (C.word hv rfl) hd k)
      | false =>
        rw [h0] at hr hv
        simp only [cond_false, decide_eq_true_eq] at hr hv
        exact mjLdcS env (IH _ _ _ _ _ _ _ _ hr) hv hd
    case ldc_w i =>
      simp only [mjChk, Bool.and_eq_true, decide_eq_true_eq, and_true] at hk
      simp only [mjLn] at hk
      obtain ⟨⟨hd, rfl⟩, hv⟩ := hk
      exact mjPure (IH _ _ _ _ _ _ _ _ hr) (fun _ _ _ hv => mjVs.cons trivial hv) (fun C _ k => lv_ldcw C.1 C.2.1 C.2.2.2.2.1 (C.word hv rfl) hd k)
    case ldc2_w i =>
      simp only [mjChk, Bool.and_eq_true, decide_eq_true_eq, and_true] at hk
      simp only [mjLn] at hk
      obtain ⟨⟨hd, rfl⟩, hv⟩ := hk
      exact mjPure (IH _ _ _ _ _ _ _ _ hr) (fun _ _ _ hv => mjVs.cons trivial hv) (fun C _ k => lv_ldc2 C.1 C.2.1 C.2.2.2.2.1 (C.word hv rfl) hd k)
    case aconst_null =>
      simp only [mjChk, Bool.and_eq_true, decide_eq_true_eq, and_true] at hk
      simp only [mjLn] at hk
      obtain ⟨hd, rfl⟩ := hk
      exact mjPure (IH _ _ _ _ _ _ _ _ hr) (fun n h4 _ hv => mjVs.cons (show 0 < n by omega) hv) (fun C _ k => lv_null C.1 C.2.1 hd k)
    case iadd =>
      simp only [mjChk, Bool.and_eq_true, decide_eq_true_eq, and_true] at hk
      simp only [mjLn] at hk
      obtain ⟨hd, rfl⟩ := hk
      obtain ⟨y, r, rfl, hr_1⟩ := k1i_some hr
      obtain ⟨x, r, rfl, hr_2⟩ := k1i_some hr_1
      exact mjPure (IH _ _ _ _ _ _ _ _ hr_2) (fun _ _ _ hv => mjVs.cons trivial hv.tail.tail) (fun C _ k => lv_iadd C.1 C.2.1 hd k)
    case isub =>
      simp only [mjChk, Bool.and_eq_true, decide_eq_true_eq, and_true] at hk
      simp only [mjLn] at hk
      obtain ⟨hd, rfl⟩ := hk
      obtain ⟨y, r, rfl, hr_1⟩ := k1i_some hr
      obtain ⟨x, r, rfl, hr_2⟩ := k1i_some hr_1
      exact mjPure (IH _ _ _ _ _ _ _ _ hr_2) (fun _ _ _ hv => mjVs.cons trivial hv.tail.tail) (fun C _ k => lv_isub C.1 C.2.1 hd k)
    case imul =>
      simp only [mjChk, Bool.and_eq_true, decide_eq_true_eq, and_true] at hk
      simp only [mjLn] at hk
      obtain ⟨hd, rfl⟩ := hk
      obtain ⟨y, r, rfl, hr_1⟩ := k1i_some hr
      obtain ⟨x, r, rfl, hr_2⟩ := k1i_some hr_1
      exact mjPure (IH _ _ _ _ _ _ _ _ hr_2) (fun _ _ _ hv => mjVs.cons trivial hv.tail.tail) (fun C _ k => lv_imul C.1 C.2.1 hd k)
    case iand =>
      simp only [mjChk, Bool.and_eq_true, decide_eq_true_eq, and_true] at hk
      simp only [mjLn] at hk
      obtain ⟨hd, rfl⟩ := hk
      obtain ⟨y, r, rfl, hr_1⟩ := k1i_some hr
      obtain ⟨x, r, rfl, hr_2⟩ := k1i_some hr_1
      exact mjPure (IH _ _ _ _ _ _ _ _ hr_2) (fun _ _ _ hv => mjVs.cons trivial hv.tail.tail) (fun C _ k => lv_iand C.1 C.2.1 hd k)
    case ior =>
      simp only [mjChk, Bool.and_eq_true, decide_eq_true_eq, and_true] at hk
      simp only [mjLn] at hk
      obtain ⟨hd, rfl⟩ := hk
      obtain ⟨y, r, rfl, hr_1⟩ := k1i_some hr
      obtain ⟨x, r, rfl, hr_2⟩ := k1i_some hr_1
      exact mjPure (IH _ _ _ _ _ _ _ _ hr_2) (fun _ _ _ hv => mjVs.cons trivial hv.tail.tail) (fun C _ k => lv_ior C.1 C.2.1 hd k)
    case ixor =>
      simp only [mjChk, Bool.and_eq_true, decide_eq_true_eq, and_true] at hk
      simp only [mjLn] at hk
      obtain ⟨hd, rfl⟩ := hk
      obtain ⟨y, r, rfl, hr_1⟩ := k1i_some hr
      obtain ⟨x, r, rfl, hr_2⟩ := k1i_some hr_1
      exact mjPure (IH _ _ _ _ _ _ _ _ hr_2) (fun _ _ _ hv => mjVs.cons trivial hv.tail.tail) (fun C _ k => lv_ixor C.1 C.2.1 hd k)
    case ishl =>
      simp only [mjChk, Bool.and_eq_true, decide_eq_true_eq, and_true] at hk
      simp only [mjLn] at hk
      obtain ⟨hd, rfl⟩ := hk
      obtain ⟨y, r, rfl, hr_1⟩ := k1i_some hr
      obtain ⟨x, r, rfl, hr_2⟩ := k1i_some hr_1
      exact mjPure (IH _ _ _ _ _ _ _ _ hr_2) (fun _ _ _ hv => mjVs.cons trivial hv.tail.tail) (fun C _ k => lv_ishl C.1 C.2.1 hd k)
    case ishr =>
      simp only [mjChk, Bool.and_eq_true, decide_eq_true_eq, and_true] at hk
      simp only [mjLn] at hk
      obtain ⟨hd, rfl⟩ := hk
      obtain ⟨y, r, rfl, hr_1⟩ := k1i_some hr
      obtain ⟨x, r, rfl, hr_2⟩ := k1i_some hr_1
      exact mjPure (IH _ _ _ _ _ _ _ _ hr_2) (fun _ _ _ hv => mjVs.cons trivial hv.tail.tail) (fun C _ k => lv_ishr C.1 C.2.1 hd k)
    case ladd =>
      simp only [mjChk, Bool.and_eq_true, decide_eq_true_eq, and_true] at hk
      simp only [mjLn] at hk
      obtain ⟨hd, rfl⟩ := hk
      obtain ⟨y, r, rfl, hr_1⟩ := k1l_some hr
      obtain ⟨x, r, rfl, hr_2⟩ := k1l_some hr_1
      exact mjPure (IH _ _ _ _ _ _ _ _ hr_2) (fun _ _ _ hv => mjVs.cons trivial hv.tail.tail) (fun C _ k => lv_ladd C.1 C.2.1 hd k)
    case lsub =>
      simp only [mjChk, Bool.and_eq_true, decide_eq_true_eq, and_true] at hk
      simp only [mjLn] at hk
      obtain ⟨hd, rfl⟩ := hk
      obtain ⟨y, r, rfl, hr_1⟩ := k1l_some hr
      obtain ⟨x, r, rfl, hr_2⟩ := k1l_some hr_1
      exact mjPure (IH _ _ _ _ _ _ _ _ hr_2) (fun _ _ _ hv => mjVs.cons trivial hv.tail.tail) (fun C _ k => lv_lsub C.1 C.2.1 hd k)
    case lmul =>
      simp only [mjChk, Bool.and_eq_true, decide_eq_true_eq, and_true] at hk
      simp only [mjLn] at hk
      obtain ⟨hd, rfl⟩ := hk
      obtain ⟨y, r, rfl, hr_1⟩ := k1l_some hr
      obtain ⟨x, r, rfl, hr_2⟩ := k1l_some hr_1
      exact mjPure (IH _ _ _ _ _ _ _ _ hr_2) (fun _ _ _ hv => mjVs.cons trivial hv.tail.tail) (fun C _ k => lv_lmul C.1 C.2.1 hd k)
    case land =>
      simp only [mjChk, Bool.and_eq_true, decide_eq_true_eq, and_true] at hk
      simp only [mjLn] at hk
      obtain ⟨hd, rfl⟩ := hk
      obtain ⟨y, r, rfl, hr_1⟩ := k1l_some hr
      obtain ⟨x, r, rfl, hr_2⟩ := k1l_some hr_1
      exact mjPure (IH _ _ _ _ _ _ _ _ hr_2) (fun _ _ _ hv => mjVs.cons trivial hv.tail.tail) (fun C _ k => lv_land C.1 C.2.1 hd k)
    case lor =>
      simp only [mjChk, Bool.and_eq_true, decide_eq_true_eq, and_true] at hk
      simp only [mjLn] at hk
      obtain ⟨hd, rfl⟩ := hk
      obtain ⟨y, r, rfl, hr_1⟩ := k1l_some hr
      obtain ⟨x, r, rfl, hr_2⟩ := k1l_some hr_1
      exact mjPure (IH _ _ _ _ _ _ _ _ hr_2) (fun _ _ _ hv => mjVs.cons trivial hv.tail.tail) (fun C _ k => lv_lor C.1 C.2.1 hd k)
    case idiv =>
      simp only [mjChk, Bool.and_eq_true, decide_eq_true_eq, and_true] at hk
      simp only [mjLn] at hk
      obtain ⟨hd, rfl⟩ := hk
      obtain ⟨y, r, rfl, hr_1⟩ := k1i_some hr
      obtain ⟨x, r, rfl, hr_2⟩ := k1i_some hr_1
      obtain ⟨hy, hr_3⟩ := mjIfn_some hr_2
      exact mjPure (IH _ _ _ _ _ _ _ _ hr_3) (fun _ _ _ hv => mjVs.cons trivial hv.tail.tail) (fun C _ k => lv_idiv C.1 C.2.1 hd hy k)
    case irem =>
      simp only [mjChk, Bool.and_eq_true, decide_eq_true_eq, and_true] at hk
      simp only [mjLn] at hk
      obtain ⟨hd, rfl⟩ := hk
      obtain ⟨y, r, rfl, hr_1⟩ := k1i_some hr
      obtain ⟨x, r, rfl, hr_2⟩ := k1i_some hr_1
      obtain ⟨hy, hr_3⟩ := mjIfn_some hr_2
      exact mjPure (IH _ _ _ _ _ _ _ _ hr_3) (fun _ _ _ hv => mjVs.cons trivial hv.tail.tail) (fun C _ k => lv_irem C.1 C.2.1 hd hy k)
    case ldiv =>
      simp only [mjChk, Bool.and_eq_true, decide_eq_true_eq, and_true] at hk
      simp only [mjLn] at hk
      obtain ⟨hd, rfl⟩ := hk
      obtain ⟨y, r, rfl, hr_1⟩ := k1l_some hr
      obtain ⟨x, r, rfl, hr_2⟩ := k1l_some hr_1
      obtain ⟨hy, hr_3⟩ := mjIfn_some hr_2
      exact mjPure (IH _ _ _ _ _ _ _ _ hr_3) (fun _ _ _ hv => mjVs.cons trivial hv.tail.tail) (fun C _ k => lv_ldiv C.1 C.2.1 hd hy k)
    case lrem =>
      simp only [mjChk, Bool.and_eq_true, decide_eq_true_eq, and_true] at hk
      simp only [mjLn] at hk
      obtain ⟨hd, rfl⟩ := hk
      obtain ⟨y, r, rfl, hr_1⟩ := k1l_some hr
      obtain ⟨x, r, rfl, hr_2⟩ := k1l_some hr_1
      obtain ⟨hy, hr_3⟩ := mjIfn_some hr_2
      exact mjPure (IH _ _ _ _ _ _ _ _ hr_3) (fun _ _ _ hv => mjVs.cons trivial hv.tail.tail) (fun C _ k => lv_lrem C.1 C.2.1 hd hy k)
    case iushr =>
      simp only [mjChk, Bool.and_eq_true, decide_eq_true_eq, and_true] at hk
      simp only [mjLn] at hk
      obtain ⟨hd, rfl⟩ := hk
      obtain ⟨y, r, rfl, hr_1⟩ := k1i_some hr
      obtain ⟨x, r, rfl, hr_2⟩ := k1i_some hr_1
      exact mjPure (IH _ _ _ _ _ _ _ _ hr_2) (fun _ _ _ hv => mjVs.cons trivial hv.tail.tail) (fun C _ k => lv_iushr C.1 C.2.1 hd rfl k)
    case ineg =>
      simp only [mjChk, Bool.and_eq_true, decide_eq_true_eq, and_true] at hk
      simp only [mjLn] at hk
      obtain ⟨hd, rfl⟩ := hk
      obtain ⟨x, r, rfl, hr_1⟩ := k1i_some hr
      exact mjPure (IH _ _ _ _ _ _ _ _ hr_1) (fun _ _ _ hv => mjVs.cons trivial hv.tail) (fun C _ k => lv_ineg C.1 C.2.1 hd k)
    case i2b =>
      simp only [mjChk, Bool.and_eq_true, decide_eq_true_eq, and_true] at hk
      simp only [mjLn] at hk
      obtain ⟨hd, rfl⟩ := hk
      obtain ⟨x, r, rfl, hr_1⟩ := k1i_some hr
      exact mjPure (IH _ _ _ _ _ _ _ _ hr_1) (fun _ _ _ hv => mjVs.cons trivial hv.tail) (fun C _ k => lv_i2b C.1 C.2.1 hd rfl k)
    case i2c =>
      simp only [mjChk, Bool.and_eq_true, decide_eq_true_eq, and_true] at hk
      simp only [mjLn] at hk
      obtain ⟨hd, rfl⟩ := hk
      obtain ⟨x, r, rfl, hr_1⟩ := k1i_some hr
      exact mjPure (IH _ _ _ _ _ _ _ _ hr_1) (fun _ _ _ hv => mjVs.cons trivial hv.tail) (fun C _ k => lv_i2c C.1 C.2.1 hd rfl k)
    case i2l =>
      simp only [mjChk, Bool.and_eq_true, decide_eq_true_eq, and_true] at hk
      simp only [mjLn] at hk
      obtain ⟨hd, rfl⟩ := hk
      obtain ⟨x, r, rfl, hr_1⟩ := k1i_some hr
      exact mjPure (IH _ _ _ _ _ _ _ _ hr_1) (fun _ _ _ hv => mjVs.cons trivial hv.tail) (fun C _ k => lv_i2l C.1 C.2.1 hd rfl k)
    case l2i =>
      simp only [mjChk, Bool.and_eq_true, decide_eq_true_eq, and_true] at hk
      simp only [mjLn] at hk
      obtain ⟨hd, rfl⟩ := hk
      obtain ⟨x, r, rfl, hr_1⟩ := k1l_some hr
      exact mjPure (IH _ _ _ _ _ _ _ _ hr_1) (fun _ _ _ hv => mjVs.cons trivial hv.tail) (fun C _ k => lv_l2i C.1 C.2.1 hd rfl k)
    case lshl =>
      simp only [mjChk, Bool.and_eq_true, decide_eq_true_eq, and_true] at hk
      simp only [mjLn] at hk
      obtain ⟨hd, rfl⟩ := hk
      obtain ⟨y, r, rfl, hr_1⟩ := k1i_some hr
      obtain ⟨x, r, rfl, hr_2⟩ := k1l_some hr_1
      exact mjPure (IH _ _ _ _ _ _ _ _ hr_2) (fun _ _ _ hv => mjVs.cons trivial hv.tail.tail) (fun C _ k => lv_lshl C.1 C.2.1 hd rfl k)
    case lcmp =>
      simp only [mjChk, Bool.and_eq_true, decide_eq_true_eq, and_true] at hk
      simp only [mjLn] at hk
      obtain ⟨hd, rfl⟩ := hk
      obtain ⟨y, r, rfl, hr_1⟩ := k1l_some hr
      obtain ⟨x, r, rfl, hr_2⟩ := k1l_some hr_1
      exact mjPure (IH _ _ _ _ _ _ _ _ hr_2) (fun _ _ _ hv => mjVs.cons trivial hv.tail.tail) (fun C _ k => W.lcmp C.1 C.2.1 hd (by rw [lg_cmp_mj]; exact k))
    case iinc i n =>
      simp only [mjChk, Bool.and_eq_true, decide_eq_true_eq, and_true] at hk
      simp only [mjLn] at hk
      obtain ⟨⟨hd, rfl⟩, hi, hv⟩ := hk
      obtain ⟨x, ha, hr_1⟩ := kLi_some hr
      exact mj_iinc (nx := pc) (IH _ _ _ _ _ _ _ _ hr_1) ha hd hi hv
    case if_icmp q o =>
      simp only [mjChk, Bool.and_eq_true, decide_eq_true_eq, and_true] at hk
      simp only [mjLn] at hk
      obtain ⟨⟨hd, hnx⟩, hv⟩ := hk
      obtain ⟨y, r, rfl, hr_1⟩ := k1i_some hr
      obtain ⟨x, r, rfl, hr_2⟩ := k1i_some hr_1
      exact mjCmpS hr_2 (fun z => IH _ _ _ _ _ _ _ _ z) (fun z => IH _ _ _ _ _ _ _ _ z) hd hv hnx
    case ifCond q o =>
      simp only [mjChk, Bool.and_eq_true, decide_eq_true_eq, and_true] at hk
      simp only [mjLn] at hk
      obtain ⟨⟨hd, hnx⟩, hv⟩ := hk
      obtain ⟨x, r, rfl, hr_1⟩ := k1i_some hr
      exact mjCmpZ hr_1 (fun z => IH _ _ _ _ _ _ _ _ z) (fun z => IH _ _ _ _ _ _ _ _ z) hd hv hnx
    case ifnull o =>
      simp only [mjChk, Bool.and_eq_true, decide_eq_true_eq, and_true] at hk
      simp only [mjLn] at hk
      obtain ⟨⟨hd, rfl⟩, hv⟩ := hk
      obtain ⟨a, r, rfl, hr_1⟩ := k1a_some hr
      refine mjTwo hr_1 (fun z => IH _ _ _ _ _ _ _ _ z) (fun z => IH _ _ _ _ _ _ _ _ z) (fun _ _ hv => hv.tail) ?_
      intro p e R s m args below meth cd f H locs cells slots Q ls0 C kt kf
      by_cases h0 : a = 0
      · subst h0
        exact lv_ifnullN C.1 C.2.1 hd hv (kt rfl)
      · show W _ _ _ _ _ _ _ _ _ _ _ _ _ _ _ (F0 m pc ls0 (mjTr f (.ref a) :: r.map (mjTr f)))
        rw [mjTr_ref f h0]
        exact lv_ifnull C.1 C.2.1 hd (kf h0)
    case ifnonnull o =>
      simp only [mjChk, Bool.and_eq_true, decide_eq_true_eq, and_true] at hk
      simp only [mjLn] at hk
      obtain ⟨⟨hd, rfl⟩, hv⟩ := hk
      obtain ⟨a, r, rfl, hr_1⟩ := k1a_some hr
      refine mjTwo hr_1 (fun z => IH _ _ _ _ _ _ _ _ z) (fun z => IH _ _ _ _ _ _ _ _ z) (fun _ _ hv => hv.tail) ?_
      intro p e R s m args below meth cd f H locs cells slots Q ls0 C kt kf
      by_cases h0 : a = 0
      · subst h0
        exact lv_ifnonnullN C.1 C.2.1 hd (kt rfl)
      · show W _ _ _ _ _ _ _ _ _ _ _ _ _ _ _ (F0 m pc ls0 (mjTr f (.ref a) :: r.map (mjTr f)))
        rw [mjTr_ref f h0]
        exact lv_ifnonnull C.1 C.2.1 hd hv (kf h0)
    case goto o =>
      simp only [mjChk, Bool.and_eq_true, decide_eq_true_eq, and_true] at hk
      simp only [mjLn] at hk
      obtain ⟨⟨hd, rfl⟩, hv⟩ := hk
      exact mjPure (IH _ _ _ _ _ _ _ _ hr) (fun _ _ _ hv => hv) (fun C _ k => lv_goto C.1 C.2.1 hd hv k)
    case tableswitch d lo hi offs =>
      simp only [mjChk, Bool.and_eq_true, decide_eq_true_eq] at hk
      obtain ⟨⟨⟨hd, hdd⟩, hsw⟩, hh⟩ := hk
      obtain ⟨x, r, rfl, hr_1⟩ := k1i_some hr
      rw [← hsw] at hr_1
      exact mjTable (nx := nx) IH hr_1 hd hdd hh
    case lookupswitch d ps =>
      simp only [mjChk, Bool.and_eq_true, decide_eq_true_eq] at hk
      obtain ⟨⟨⟨hd, hdd⟩, hsw⟩, hp, hh⟩ := hk
      obtain ⟨x, r, rfl, hr_1⟩ := k1i_some hr
      rw [← hsw] at hr_1
      obtain ⟨t, off, h1, h2, h3⟩ := mjSw_pairs pc r1 d hdd x _ _ ps.toList hh hr_1
      exact mjPure (IH _ _ _ _ _ _ _ _ h3) (fun _ _ _ hv => hv.tail) (fun C _ k => lv_lookup C.1 C.2.1 hd hp h1 h2 k)
    case getfield i =>
      simp only [mjChk, Bool.and_eq_true, decide_eq_true_eq, and_true] at hk
      simp only [mjLn] at hk
      obtain ⟨⟨hd, rfl⟩, hv⟩ := hk
      obtain ⟨a, r, rfl, hr_1⟩ := k1a_some hr
      obtain ⟨hka, hr_2⟩ := mjIf_some hr_1
      split at hr_2
      · exact mjGetF env (IH _ _ _ _ _ _ _ _ hr_2) (fun _ => rfl) (fun _ _ => trivial) hka hv hd
      · exact mjGetF env (IH _ _ _ _ _ _ _ _ hr_2) (fun _ => rfl) (fun _ _ => trivial) hka hv hd
      · exact mjGetF env (IH _ _ _ _ _ _ _ _ hr_2) (fun _ => rfl) (fun _ _ => trivial) hka hv hd
      · rename_i n0 n1 n2
        refine mjGetF env (IH _ _ _ _ _ _ _ _ hr_2) (fun f => ?_) (fun n hn => hn _ _) hka hv hd
        show va_rf (mjOp f (mR h a r2)) = mjFv f h a r3 r2
        unfold mjFv
        split
        · exact absurd rfl n0
        · exact absurd rfl n1
        · exact absurd rfl n2
        · rfl
    case putfield i =>
      simp only [mjChk, Bool.and_eq_true, decide_eq_true_eq, and_true] at hk
      simp only [mjLn] at hk
      obtain ⟨⟨hd, rfl⟩, hv, hp⟩ := hk
      split at hr
      · obtain ⟨x, r, rfl, hr_1⟩ := k1i_some hr
        obtain ⟨a, r, rfl, hr_2⟩ := k1a_some hr_1
        obtain ⟨hka, hr_3⟩ := mjIf_some hr_2
        exact mjPutF env (IH _ _ _ _ _ _ _ _ hr_3) rfl rfl (fun _ _ _ h4 _ o => o.pI h4) (fun f cA h4 hk0 h20 hft => mjWs_F h4 rfl hk0 h20 rfl rfl hft (fun b hb => ⟨mI_pI_ne hb, rfl, rfl⟩) (fun y hy => ⟨by rw [mI_pI_up]; simp [upd, hy], rfl, rfl⟩) (by show Value.int (mI (pI h a r2 x) a r2) = _; rw [mI_pI_up]; simp [upd, mjTr])) (Or.inl ⟨rfl, _, rfl⟩) hka hv hp hd
      · obtain ⟨x, r, rfl, hr_4⟩ := k1i_some hr
        obtain ⟨a, r, rfl, hr_5⟩ := k1a_some hr_4
        obtain ⟨hka, hr_6⟩ := mjIf_some hr_5
        obtain ⟨h01, hr_7⟩ := mjIf_some hr_6
        exact mjPutF env (IH _ _ _ _ _ _ _ _ hr_7) rfl rfl (fun _ _ _ h4 _ o => o.pI h4) (fun f cA h4 hk0 h20 hft => mjWs_F h4 rfl hk0 h20 rfl rfl hft (fun b hb => ⟨mI_pI_ne hb, rfl, rfl⟩) (fun y hy => ⟨by rw [mI_pI_up]; simp [upd, hy], rfl, rfl⟩) (by show Value.int (mI (pI h a r2 x) a r2) = _; rw [mI_pI_up]; simp [upd, mjTr])) (Or.inr (Or.inl ⟨rfl, by rcases h01 with rfl | rfl; exact Or.inl rfl; exact Or.inr rfl⟩)) hka hv hp hd
      · obtain ⟨x, r, rfl, hr_8⟩ := k1l_some hr
        obtain ⟨a, r, rfl, hr_9⟩ := k1a_some hr_8
        obtain ⟨hka, hr_10⟩ := mjIf_some hr_9
        exact mjPutF env (IH _ _ _ _ _ _ _ _ hr_10) rfl rfl (fun _ _ _ h4 _ o => o.pL) (fun f cA h4 hk0 h20 hft => mjWs_F h4 rfl hk0 h20 rfl rfl hft (fun b hb => ⟨rfl, mL_pL_ne hb, rfl⟩) (fun y hy => ⟨rfl, by rw [mL_pL_up]; simp [vp_updL, hy], rfl⟩) (by show Value.long (mL (pL h a r2 x) a r2) = _; rw [mL_pL_up]; simp [vp_updL, mjTr])) (Or.inr (Or.inr (Or.inl ⟨rfl, _, rfl⟩))) hka hv hp hd
      · rename_i n0 n1 n2
        obtain ⟨x, r, rfl, hr_11⟩ := k1a_some hr
        obtain ⟨a, r, rfl, hr_12⟩ := k1a_some hr_11
        obtain ⟨hka, hr_13⟩ := mjIf_some hr_12
        have hr3 : r3 = 3 := by
          have hv := hv
          unfold mjChF at hv
          cases hcl : mjCl[r1 - 1]? with
          | none => rw [hcl] at hv; cases hv
          | some q =>
            obtain ⟨CC, T, M⟩ := q
            rw [hcl] at hv
            simp only [Bool.and_eq_true, Bool.or_eq_true, decide_eq_true_eq] at hv
            obtain ⟨⟨⟨q1, q2, q3⟩, hft⟩, -⟩ := hv
            obtain ⟨-, ⟨ty0, -, htag⟩, -, -, -, -⟩ := mj_cls _ _ _ _ hcl
            rw [Nat.sub_add_cancel q1] at htag
            obtain ⟨t1, t2⟩ := htag r2 q3
            rw [hft] at t1
            have t1 := Option.some.inj t1
            have : r3 ≠ 0 := fun z => n0 z
            have : r3 ≠ 1 := fun z => n1 z
            have : r3 ≠ 2 := fun z => n2 z
            omega
        subst hr3
        exact mjPutF env (IH _ _ _ _ _ _ _ _ hr_13) rfl rfl (fun _ _ _ h4 hx o => o.pR hx) (fun f cA h4 hk0 h20 hft => mjWs_F h4 rfl hk0 h20 rfl rfl hft (fun b hb => ⟨rfl, rfl, mR_pR_ne hb⟩) (fun y hy => ⟨rfl, rfl, by rw [mR_pR, if_neg (fun q => hy q.2)]⟩) (by show va_rf (mjOp f (mR (pR h a r2 x) a r2)) = _; rw [mR_pR, if_pos ⟨rfl, rfl⟩]; rfl)) (Or.inr (Or.inr (Or.inr ⟨rfl, _, rfl⟩))) hka hv hp hd
    case iaload =>
      simp only [mjChk, Bool.and_eq_true, decide_eq_true_eq, and_true] at hk
      simp only [mjLn] at hk
      obtain ⟨⟨hd, rfl⟩, hv⟩ := hk
      obtain ⟨i, r, rfl, hr_1⟩ := k1i_some hr
      obtain ⟨a, r, rfl, hr_2⟩ := k1a_some hr_1
      obtain ⟨hka, hr_3⟩ := mjIf_some hr_2
      obtain ⟨hin, hr_4⟩ := mjIf_some hr_3
      rcases hv with rfl | rfl
      · exact mjIald (IH _ _ _ _ _ _ _ _ hr_4) hka hin hd
      · exact mjSald env (IH _ _ _ _ _ _ _ _ hr_4) hka hin hd
    case baload =>
      simp only [mjChk, Bool.and_eq_true, decide_eq_true_eq, and_true] at hk
      simp only [mjLn] at hk
      obtain ⟨⟨hd, rfl⟩, hv⟩ := hk
      obtain ⟨i, r, rfl, hr_1⟩ := k1i_some hr
      obtain ⟨a, r, rfl, hr_2⟩ := k1a_some hr_1
      obtain ⟨hka, hr_3⟩ := mjIf_some hr_2
      obtain ⟨hin, hr_4⟩ := mjIf_some hr_3
      exact mjBald (IH _ _ _ _ _ _ _ _ hr_4) hv hka hin hd
    case laload =>
      simp only [mjChk, Bool.and_eq_true, decide_eq_true_eq, and_true] at hk
      simp only [mjLn] at hk
      obtain ⟨⟨hd, rfl⟩, hv⟩ := hk
      obtain ⟨i, r, rfl, hr_1⟩ := k1i_some hr
      obtain ⟨a, r, rfl, hr_2⟩ := k1a_some hr_1
      obtain ⟨hka, hr_3⟩ := mjIf_some hr_2
      obtain ⟨hin, hr_4⟩ := mjIf_some hr_3
      subst hv
      exact mjLald (IH _ _ _ _ _ _ _ _ hr_4) hka hin hd
    case aaload =>
      simp only [mjChk, Bool.and_eq_true, decide_eq_true_eq, and_true] at hk
      simp only [mjLn] at hk
      obtain ⟨⟨hd, rfl⟩, hv⟩ := hk
      obtain ⟨i, r, rfl, hr_1⟩ := k1i_some hr
      obtain ⟨a, r, rfl, hr_2⟩ := k1a_some hr_1
      obtain ⟨hka, hr_3⟩ := mjIf_some hr_2
      obtain ⟨hin, hr_4⟩ := mjIf_some hr_3
      exact mjAald (IH _ _ _ _ _ _ _ _ hr_4) hv hka hin hd
    case iastore =>
      simp only [mjChk, Bool.and_eq_true, decide_eq_true_eq, and_true] at hk
      simp only [mjLn] at hk
      obtain ⟨⟨hd, rfl⟩, hv⟩ := hk
      obtain ⟨x, r, rfl, hr_1⟩ := k1i_some hr
      obtain ⟨i, r, rfl, hr_2⟩ := k1i_some hr_1
      obtain ⟨a, r, rfl, hr_3⟩ := k1a_some hr_2
      obtain ⟨hka, hr_4⟩ := mjIf_some hr_3
      obtain ⟨hin, hr_5⟩ := mjIf_some hr_4
      subst hv
      exact mjIast (IH _ _ _ _ _ _ _ _ hr_5) hka hin hd
    case bastore =>
      simp only [mjChk, Bool.and_eq_true, decide_eq_true_eq, and_true] at hk
      simp only [mjLn] at hk
      obtain ⟨⟨hd, rfl⟩, hv⟩ := hk
      obtain ⟨x, r, rfl, hr_1⟩ := k1i_some hr
      obtain ⟨i, r, rfl, hr_2⟩ := k1i_some hr_1
      obtain ⟨a, r, rfl, hr_3⟩ := k1a_some hr_2
      obtain ⟨hka, hr_4⟩ := mjIf_some hr_3
      obtain ⟨hin, hr_5⟩ := mjIf_some hr_4
      rcases hv with rfl | rfl
      · exact mjBast (IH _ _ _ _ _ _ _ _ hr_5) (Or.inl ⟨rfl, rfl⟩) hka hin hd
      · obtain ⟨h01, hr_6⟩ := mjIf_some (show (if x = 0 ∨ x = 1 then _ else none) = some (v, h') from hr_5)
        exact mjBast (IH _ _ _ _ _ _ _ _ hr_6) (Or.inr ⟨rfl, rfl, h01⟩) hka hin hd
    case lastore =>
      simp only [mjChk, Bool.and_eq_true, decide_eq_true_eq, and_true] at hk
      simp only [mjLn] at hk
      obtain ⟨⟨hd, rfl⟩, hv⟩ := hk
      obtain ⟨x, r, rfl, hr_1⟩ := k1l_some hr
      obtain ⟨i, r, rfl, hr_2⟩ := k1i_some hr_1
      obtain ⟨a, r, rfl, hr_3⟩ := k1a_some hr_2
      obtain ⟨hka, hr_4⟩ := mjIf_some hr_3
      obtain ⟨hin, hr_5⟩ := mjIf_some hr_4
      subst hv
      exact mjLast (IH _ _ _ _ _ _ _ _ hr_5) hka hin hd
    case aastore =>
      simp only [mjChk, Bool.and_eq_true, decide_eq_true_eq, and_true] at hk
      simp only [mjLn] at hk
      obtain ⟨⟨hd, rfl⟩, hv⟩ := hk
      obtain ⟨x, r, rfl, hr_1⟩ := k1a_some hr
      obtain ⟨i, r, rfl, hr_2⟩ := k1i_some hr_1
      obtain ⟨a, r, rfl, hr_3⟩ := k1a_some hr_2
      obtain ⟨hka, hr_4⟩ := mjIf_some hr_3
      obtain ⟨hin, hr_5⟩ := mjIf_some hr_4
      obtain ⟨hk2, hr_6⟩ := mjIf_some hr_5
      exact mjAast (IH _ _ _ _ _ _ _ _ hr_6) hv hka hin hk2 hd
    case arraylength =>
      simp only [mjChk, Bool.and_eq_true, decide_eq_true_eq, and_true] at hk
      simp only [mjLn] at hk
      obtain ⟨⟨hd, rfl⟩, hv⟩ := hk
      obtain ⟨a, r, rfl, hr_1⟩ := k1a_some hr
      obtain ⟨hka, hr_2⟩ := mjIf_some hr_1
      exact mjAlen env (IH _ _ _ _ _ _ _ _ hr_2) hv hka hd
    case newarray a =>
      simp only [mjChk, Bool.and_eq_true, decide_eq_true_eq, and_true] at hk
      simp only [mjLn] at hk
      obtain ⟨⟨hd, rfl⟩, hv⟩ := hk
      obtain ⟨n, r, rfl, hr_1⟩ := k1i_some hr
      obtain ⟨hn, hr_2⟩ := mjIf_some hr_1
      exact mjNewA (IH _ _ _ _ _ _ _ _ hr_2) hv hn hd
    case anewarray i =>
      simp only [mjChk, Bool.and_eq_true, decide_eq_true_eq, and_true] at hk
      simp only [mjLn] at hk
      obtain ⟨⟨hd, rfl⟩, hv, hm⟩ := hk
      obtain ⟨n, r, rfl, hr_1⟩ := k1i_some hr
      obtain ⟨hn, hr_2⟩ := mjIf_some hr_1
      split at hm
      · rename_i CC hC
        simp only [decide_eq_true_eq] at hm
        exact mjNewR env (IH _ _ _ _ _ _ _ _ hr_2) hv hC hm hn hd
      · cases hm
    case new i =>
      simp only [mjChk, Bool.and_eq_true, decide_eq_true_eq, and_true] at hk
      simp only [mjLn] at hk
      obtain ⟨⟨hd, rfl⟩, hm⟩ := hk
      split at hm
      · rename_i CC T M hC
        simp only [Bool.and_eq_true, decide_eq_true_eq] at hm
        exact mjNewO (IH _ _ _ _ _ _ _ _ hr) hC hm.1 hm.2 hd
      · cases hm
    case dup =>
      simp only [mjChk, Bool.and_eq_true, decide_eq_true_eq, and_true] at hk
      simp only [mjLn] at hk
      obtain ⟨hd, rfl⟩ := hk
      split at hr
      · exact mjPure (IH _ _ _ _ _ _ _ _ hr) (fun _ _ _ hv => mjVs.cons trivial hv) (fun C _ k => lv_dup C.1 C.2.1 hd rfl k)
      · exact mjPure (IH _ _ _ _ _ _ _ _ hr) (fun _ _ _ hv => mjVs.cons hv.head hv) (fun {_ _ _ _ _ _ _ _ _ f _ _ _ _ _ _} C _ k => lv_dup C.1 C.2.1 hd (mjTr_cat f _) k)
      · cases hr
    case dup2 =>
      simp only [mjChk, Bool.and_eq_true, decide_eq_true_eq, and_true] at hk
      simp only [mjLn] at hk
      obtain ⟨hd, rfl⟩ := hk
      obtain ⟨i, r, rfl, hr_1⟩ := k1i_some hr
      obtain ⟨a, r, rfl, hr_2⟩ := k1a_some hr_1
      exact mjPure (IH _ _ _ _ _ _ _ _ hr_2) (fun _ _ _ hv => mjVs.cons trivial (mjVs.cons hv.tail.head hv)) (fun {_ _ _ _ _ _ _ _ _ f _ _ _ _ _ _} C _ k => lv_dup2_11 C.1 C.2.1 hd rfl (mjTr_cat f (.ref a)) k)
    case pop =>
      simp only [mjChk, Bool.and_eq_true, decide_eq_true_eq, and_true] at hk
      simp only [mjLn] at hk
      obtain ⟨hd, rfl⟩ := hk
      split at hr
      · exact mjPure (IH _ _ _ _ _ _ _ _ hr) (fun _ _ _ hv => hv.tail) (fun C _ k => lv_pop C.1 C.2.1 hd rfl k)
      · exact mjPure (IH _ _ _ _ _ _ _ _ hr) (fun _ _ _ hv => hv.tail) (fun {_ _ _ _ _ _ _ _ _ f _ _ _ _ _ _} C _ k => lv_pop C.1 C.2.1 hd (mjTr_cat f _) k)
      · cases hr
    case invokevirtual i =>
      simp only [mjChk, Bool.and_eq_true, decide_eq_true_eq, and_true] at hk
      simp only [mjLn] at hk
      obtain ⟨⟨hd, rfl⟩, hv⟩ := hk
      obtain ⟨as, t, hn, rfl, hr_1⟩ := mjPop_some _ _ _ hr
      rw [List.append_nil] at hr_1
      unfold mjRcv at hr_1
      by_cases h10 : r3 ≤ 10
      · rw [Nat.ble_eq_true_of_le h10] at hr_1
        simp only [cond_true] at hr_1
        split at hr_1
        · obtain ⟨hka, hr_2⟩ := mjIf_some hr_1
          exact mjInvS env hYall IH hr_2 hn hv (Or.inl ⟨rfl, hd⟩) (fun _ _ => ⟨_, _, rfl, hka⟩)
        · cases hr_1
      · rw [show Nat.ble r3 10 = false by cases hx : Nat.ble r3 10 with | false => rfl | true => exact absurd (Nat.le_of_ble_eq_true hx) h10] at hr_1
        simp only [cond_false] at hr_1
        exact mjInvS env hYall IH hr_1 hn hv (Or.inl ⟨rfl, hd⟩) (fun _ z => absurd z h10)
    case invokestatic i =>
      simp only [mjChk, Bool.and_eq_true, decide_eq_true_eq, and_true] at hk
      simp only [mjLn] at hk
      obtain ⟨⟨hd, rfl⟩, hv⟩ := hk
      obtain ⟨as, t, hn, rfl, hr_1⟩ := mjPop_some _ _ _ hr
      rw [List.append_nil] at hr_1
      exact mjInvS env hYall IH hr_1 hn hv (Or.inr (Or.inl ⟨rfl, hd⟩)) (fun z _ => absurd rfl z)
    case invokespecial i =>
      simp only [mjChk, Bool.and_eq_true, decide_eq_true_eq, and_true] at hk
      simp only [mjLn] at hk
      obtain ⟨⟨hd, rfl⟩, hv⟩ := hk
      obtain ⟨as, t, hn, rfl, hr_1⟩ := mjPop_some _ _ _ hr
      rw [List.append_nil] at hr_1
      unfold mjRcv at hr_1
      by_cases h10 : r3 ≤ 10
      · rw [Nat.ble_eq_true_of_le h10] at hr_1
        simp only [cond_true] at hr_1
        split at hr_1
        · obtain ⟨hka, hr_2⟩ := mjIf_some hr_1
          exact mjInvS env hYall IH hr_2 hn hv (Or.inr (Or.inr ⟨rfl, hd⟩)) (fun _ _ => ⟨_, _, rfl, hka⟩)
        · cases hr_1
      · rw [show Nat.ble r3 10 = false by cases hx : Nat.ble r3 10 with | false => rfl | true => exact absurd (Nat.le_of_ble_eq_true hx) h10] at hr_1
        simp only [cond_false] at hr_1
        exact mjInvS env hYall IH hr_1 hn hv (Or.inr (Or.inr ⟨rfl, hd⟩)) (fun _ z => absurd z h10)
    case ireturn =>
      simp only [mjChk, Bool.and_eq_true, decide_eq_true_eq, and_true] at hk
      simp only [mjLn] at hk
      obtain ⟨⟨hd, rfl⟩, hv⟩ := hk
      obtain ⟨x, r, rfl, hr_1⟩ := k1i_some hr
      obtain ⟨rfl, hr_2⟩ := mjNil_some hr_1
      rcases hv with ⟨ht1, ht2⟩ | ⟨ht1, ht2⟩
      · rw [ht2] at hr_2
        have hr_3 : some (Value.int x, h) = some (v, h') := hr_2
        obtain ⟨rfl, rfl⟩ := Prod.mk.inj (Option.some.inj hr_3)
        refine mjRet_snd ?_
        intro p e R s m args below meth cd f cA tys A H locs cells slots ls0 C hrel hvs
        exact W.iret C.1 C.2.1 (C.2.2.1.trans ht1) (mjEnd (v := .int x) hrel trivial (by unfold mjRv; rw [ht1]; rfl)) hrel.2.2.2.1.2.2 hd (hlocks := C.2.2.2.2.2.2.2.1)
      · rw [ht2] at hr_2
        obtain ⟨h01, hr_3⟩ := mjIf_some (show (if x = 0 ∨ x = 1 then some (Value.int x, h) else none) = some (v, h') from hr_2)
        obtain ⟨rfl, rfl⟩ := Prod.mk.inj (Option.some.inj hr_3)
        refine mjRet_snd ?_
        intro p e R s m args below meth cd f cA tys A H locs cells slots ls0 C hrel hvs
        exact W.zret (ty := .boolean) C.1 C.2.1 (C.2.2.1.trans ht1) (by rcases h01 with rfl | rfl <;> decide) (mjEnd (v := .int x) hrel trivial (by unfold mjRv; rw [ht1]; rfl)) hrel.2.2.2.1.2.2 hd (hlocks := C.2.2.2.2.2.2.2.1)
    case lreturn =>
      simp only [mjChk, Bool.and_eq_true, decide_eq_true_eq, and_true] at hk
      simp only [mjLn] at hk
      obtain ⟨⟨hd, rfl⟩, hv⟩ := hk
      obtain ⟨x, r, rfl, hr_1⟩ := k1l_some hr
      obtain ⟨rfl, hr_2⟩ := mjNil_some hr_1
      obtain ⟨rfl, rfl⟩ := Prod.mk.inj (Option.some.inj hr_2)
      refine mjRet_snd ?_
      intro p e R s m args below meth cd f cA tys A H locs cells slots ls0 C hrel hvs
      exact W.lret C.1 C.2.1 (C.2.2.1.trans hv) (mjEnd (v := .long x) hrel trivial (by unfold mjRv; rw [hv]; rfl)) hrel.2.2.2.1.2.2 hd (hlocks := C.2.2.2.2.2.2.2.1)
    case areturn =>
      simp only [mjChk, Bool.and_eq_true, decide_eq_true_eq, and_true] at hk
      simp only [mjLn] at hk
      obtain ⟨⟨hd, rfl⟩, hv⟩ := hk
      obtain ⟨x, r, rfl, hr_1⟩ := k1a_some hr
      obtain ⟨rfl, hr_2⟩ := mjNil_some hr_1
      obtain ⟨rfl, rfl⟩ := Prod.mk.inj (Option.some.inj hr_2)
      refine mjRet_snd ?_
      intro p e R s m args below meth cd f cA tys A H locs cells slots ls0 C hrel hvs
      obtain ⟨rt, hrt⟩ := mjRc_n hv (by decide)
      have hk3 : (∃ n, rt = .object n) ∨ ∃ t, rt = .array t := by
        rw [hrt] at hv
        cases rt <;> simp [mjRc] at hv
        · exact Or.inl ⟨_, rfl⟩
        · exact Or.inr ⟨_, rfl⟩
      exact W.aret C.1 C.2.1 (C.2.2.1.trans hrt) hk3 (va_rf_or (mjOp f x)) (mjEnd hrel hvs.head (by unfold mjRv; rw [hrt]; rfl)) hrel.2.2.2.1.2.2 hd (hlocks := C.2.2.2.2.2.2.2.1)
    case return_ =>
      simp only [mjChk, Bool.and_eq_true, decide_eq_true_eq, and_true] at hk
      simp only [mjLn] at hk
      obtain ⟨⟨hd, rfl⟩, hv⟩ := hk
      obtain ⟨rfl, hr_2⟩ := mjNil_some hr
      obtain ⟨rfl, rfl⟩ := Prod.mk.inj (Option.some.inj hr_2)
      refine mjRet_snd ?_
      intro p e R s m args below meth cd f cA tys A H locs cells slots ls0 C hrel hvs
      exact W.vret C.1 C.2.1 (C.2.2.1.trans hv) (mjEnd (v := .ref 0) hrel (show 0 < mX h from Nat.lt_of_lt_of_le (by decide) hrel.2.2.2.2.1) (by unfold mjRv; rw [hv])) hrel.2.2.2.1.2.2 hd (hlocks := C.2.2.2.2.2.2.2.1)
    all_goals cases hr
/-- all that the small machine answers -/
theorem mj_sound (env : mjEnv l B b L xs k0 k1 O) (hchk : ∀ c pc q, c < 264 → mjCode c pc = some q → mjChk c pc q = true) (hYall : ∀ c, c < 263 → c < 258 ∨ 260 < c → mjChY c = true) : ∀ c lv pc ls st h v h', mjEv c lv pc ls st h = some (v, h') → mjSnd l D B b L xs k0 k1 O c lv pc ls st h v h' :=
  mjEv_ind _ (fun g IH => mj_step env hchk hYall g IH)
end SOUND
