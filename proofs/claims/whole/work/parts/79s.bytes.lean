/-! bytes of the tape, words packed into a long: what the reference sees, as tokens -/
theorem nI_bv (b : Int32) : nI b.toBitVec.toNat = b := Int32.toBitVec_inj.mp (BitVec.eq_of_toNat_eq (by
  show (BitVec.ofNat 32 b.toBitVec.toNat).toNat = b.toBitVec.toNat
  rw [BitVec.toNat_ofNat]
  exact Nat.mod_eq_of_lt b.toBitVec.isLt))
/-- what is seen of a byte -/
def cB (b : Int32) : Nat := b.toBitVec.toNat % 256
theorem and255 (b : Int32) : b &&& nI 255 = nI (cB b) := by
  have e := pk_andN (n := b.toBitVec.toNat) b.toBitVec.isLt (m := nI 255) 8 (by decide)
  rw [nI_bv] at e
  exact e
theorem cB_lt (b : Int32) : cB b < 256 := Nat.mod_lt _ (by decide)
theorem byte_rng {b : Int32} (h : mjB b = b) : -128 ≤ b.toInt ∧ b.toInt < 128 := by
  have e : b.toInt = b.toInt8.toInt := by rw [← Int8.toInt_toInt32]; exact congrArg Int32.toInt h.symm
  have h1 := Int8.toInt_lt b.toInt8
  have h2 := Int8.le_toInt b.toInt8
  rw [e]
  omega
theorem cB_iff {b : Int32} (h : mjB b = b) {x : Nat} (hx : x < 128) : b &&& nI 255 = nI x ↔ b = nI x := by
  have r := byte_rng h
  have c := cB_lt b
  rw [and255, nI_eq (by omega) (by omega)]
  have t := BitVec.toInt_eq_toNat_cond b.toBitVec
  have t : b.toInt = if 2 * b.toBitVec.toNat < 2 ^ 32 then (b.toBitVec.toNat : Int) else (b.toBitVec.toNat : Int) - ((2 ^ 32 : Nat) : Int) := t
  constructor
  · intro e
    unfold cB at e
    have : b.toBitVec.toNat = x := by split at t <;> omega
    rw [← nI_bv b, this]
  · intro e
    rw [e] at t r ⊢
    rw [nI_toInt (by omega)] at t
    unfold cB
    split at t <;> omega
theorem uB_and (b : Int32) : uB b = nI (cB b) := by
  have c := cB_lt b
  have all : ∀ n, n < 256 → ((nI n).toUInt32 % 65536).toInt32 = nI n := by decide +kernel
  unfold uB
  rw [and255]
  exact all _ c
theorem find_yes {x : Int32} : ∀ {l : List Int32} {i : Int32}, ¬ mjFind l x i = -1 → x ∈ l := by
  intro l
  induction l with
  | nil => intro i h; exact absurd rfl h
  | cons y l ih =>
    intro i h
    have h : ¬ (if x = y then i else mjFind l x (i + 1)) = -1 := h
    by_cases e : x = y
    · rw [e]; exact List.mem_cons_self
    · rw [if_neg e] at h; exact List.mem_cons_of_mem _ (ih h)
theorem kiS_iff {b : Int32} (h : mjB b = b) {x : Nat} (hx : nI x ∈ mjTx 3) (x2 : 2 < x) (x128 : x < 128) : kiS b = x ↔ b = nI x := by
  have u : uB b = nI (cB b) := uB_and b
  have c := cB_lt b
  have i := cB_iff h x128
  rw [and255] at i
  have yes : ∀ y ∈ mjTx 3, ¬ mjFind (mjTx 3) y (nI 0) < nI 0 := by decide
  rw [← i]
  unfold kiS
  rw [u]
  constructor
  · intro e
    by_cases y : mjFind (mjTx 3) (nI (cB b)) (nI 0) < nI 0
    · rw [if_pos y] at e; omega
    · rw [if_neg y, nI_clamp (by omega)] at e; rw [e]
  · intro e
    rw [e, if_neg (yes _ hx), nI_clamp (by omega)]
theorem kwF_rng (tb : Nat → Int32) (p e : Nat) : ∀ n k, kwF tb p e n k = 2 ∨ (128 + k ≤ kwF tb p e n k ∧ kwF tb p e n k < 128 + k + n) := by
  intro n
  induction n with
  | zero => intro k; exact Or.inl rfl
  | succ n ih =>
    intro k
    have := ih (k + 1)
    show (if wL k = e - p ∧ mtW tb p k (wL k) 0 = true then 128 + k else kwF tb p e n (k + 1)) = 2 ∨ (128 + k ≤ (if wL k = e - p ∧ mtW tb p k (wL k) 0 = true then 128 + k else kwF tb p e n (k + 1)) ∧ (if wL k = e - p ∧ mtW tb p k (wL k) 0 = true then 128 + k else kwF tb p e n (k + 1)) < 128 + k + (n + 1))
    split <;> omega
/-- what see() answers, against the token's kind -/
def CC (c : Int32) (k : Nat) : Prop := (∀ x, x ∈ [42, 47, 37, 43, 45, 59, 91, 93, 61] → (c = nI x ↔ k = x)) ∧ (c = nI 60 ↔ k = 60 ∨ k = 4) ∧ (c = nI 62 ↔ k = 62 ∨ k = 5) ∧ (c = -nI 1 ↔ k = 1)
theorem CC_end : CC (-nI 1) 1 := by
  refine ⟨fun x hx => ?_, ?_, ?_, ?_⟩
  · have all : ∀ x ∈ [42, 47, 37, 43, 45, 59, 91, 93, 61], (-nI 1 : Int32) ≠ nI x ∧ 1 ≠ x := by decide
    exact ⟨fun z => absurd z (all x hx).1, fun z => absurd z (all x hx).2⟩
  · exact ⟨fun z => absurd z (by decide), fun z => by omega⟩
  · exact ⟨fun z => absurd z (by decide), fun z => by omega⟩
  · exact ⟨fun _ => rfl, fun _ => rfl⟩
/-- a token that is a sign: where it ends -/
def twB (tb : Nat → Int32) (tl p : Nat) : Prop := (tb p = nI 60 ∨ tb p = nI 62) ∧ p + 1 < tl ∧ tb (p + 1) = nI 61
theorem ndT_two {tb : Nat → Int32} {tl p : Nat} (y : twB tb tl p) : ndT tb tl p = p + 2 ∧ kiT tb tl p = if tb p = nI 60 then 4 else 5 := by
  have l : ¬ ltr (tb p) = true := by rcases y.1 with e | e <;> rw [e] <;> decide
  have d : ¬ dgt (tb p) = true := by rcases y.1 with e | e <;> rw [e] <;> decide
  have n : ndT tb tl p = p + 2 := by unfold ndT; rw [if_neg l, if_neg d]; exact if_pos y
  refine ⟨n, ?_⟩
  unfold kiT
  rw [if_neg l, if_neg d, n, if_pos (by omega)]
theorem ndT_one {tb : Nat → Int32} {tl p : Nat} (l : ¬ ltr (tb p) = true) (d : ¬ dgt (tb p) = true) (y : ¬ twB tb tl p) : ndT tb tl p = p + 1 ∧ kiT tb tl p = kiS (tb p) := by
  have n : ndT tb tl p = p + 1 := by unfold ndT; rw [if_neg l, if_neg d]; exact if_neg y
  refine ⟨n, ?_⟩
  unfold kiT
  rw [if_neg l, if_neg d, n, if_neg (by omega)]
theorem sg_not {b : Int32} {x : Nat} (hx : x ∈ [42, 47, 37, 43, 45, 59, 91, 93, 61, 60, 62]) (e : b = nI x) : ¬ ltr b = true ∧ ¬ dgt b = true := by
  have all : ∀ x ∈ [42, 47, 37, 43, 45, 59, 91, 93, 61, 60, 62], ¬ ltr (nI x) = true ∧ ¬ dgt (nI x) = true := by decide
  rw [e]; exact all x hx
theorem kiT_CC {tb : Nat → Int32} {tl p : Nat} (h : mjB (tb p) = tb p) : CC (tb p &&& nI 255) (kiT tb tl p) := by
  have mem : ∀ x, x ∈ [42, 47, 37, 43, 45, 59, 91, 93, 61, 60, 62] → nI x ∈ mjTx 3 ∧ 2 < x ∧ x < 128 := by decide
  have k2 := kiT_lt tb tl p
  have neg : ¬ (tb p &&& nI 255 = -nI 1) := by
    intro z
    have c := cB_lt (tb p)
    rw [and255] at z
    exact absurd z (by rw [neg1i (by omega)]; exact not_false)
  have last : (tb p &&& nI 255 = -nI 1) ↔ kiT tb tl p = 1 := ⟨fun z => absurd z neg, fun z => by omega⟩
  have i60 := cB_iff h (x := 60) (by omega)
  have i62 := cB_iff h (x := 62) (by omega)
  by_cases l : ltr (tb p) = true
  · have k : kiT tb tl p = kwF tb p (ndT tb tl p) 18 0 := by unfold kiT; rw [if_pos l]
    have r := kwF_rng tb p (ndT tb tl p) 18 0
    rw [← k] at r
    have no : ∀ x, x ∈ [42, 47, 37, 43, 45, 59, 91, 93, 61, 60, 62] → ¬ tb p = nI x := fun x hx e => (sg_not hx e).1 l
    refine ⟨fun x hx => ?_, ?_, ?_, last⟩
    · have hx' : x ∈ [42, 47, 37, 43, 45, 59, 91, 93, 61, 60, 62] := by
        have all : ∀ x ∈ [42, 47, 37, 43, 45, 59, 91, 93, 61], x ∈ [42, 47, 37, 43, 45, 59, 91, 93, 61, 60, 62] := by decide
        exact all x hx
      have m := mem x hx'
      rw [cB_iff h m.2.2]
      exact ⟨fun z => absurd z (no x hx'), fun z => by omega⟩
    · rw [i60]; exact ⟨fun z => absurd z (no 60 (by decide)), fun z => by omega⟩
    · rw [i62]; exact ⟨fun z => absurd z (no 62 (by decide)), fun z => by omega⟩
  · by_cases d : dgt (tb p) = true
    · have k : kiT tb tl p = 3 := by unfold kiT; rw [if_neg l, if_pos d]
      have no : ∀ x, x ∈ [42, 47, 37, 43, 45, 59, 91, 93, 61, 60, 62] → ¬ tb p = nI x := fun x hx e => (sg_not hx e).2 d
      refine ⟨fun x hx => ?_, ?_, ?_, last⟩
      · have hx' : x ∈ [42, 47, 37, 43, 45, 59, 91, 93, 61, 60, 62] := by
          have all : ∀ x ∈ [42, 47, 37, 43, 45, 59, 91, 93, 61], x ∈ [42, 47, 37, 43, 45, 59, 91, 93, 61, 60, 62] := by decide
          exact all x hx
        have m := mem x hx'
        rw [cB_iff h m.2.2]
        have all : ∀ x ∈ [42, 47, 37, 43, 45, 59, 91, 93, 61], x ≠ 3 := by decide
        have := all x hx
        exact ⟨fun z => absurd z (no x hx'), fun z => by omega⟩
      · rw [i60]; exact ⟨fun z => absurd z (no 60 (by decide)), fun z => by omega⟩
      · rw [i62]; exact ⟨fun z => absurd z (no 62 (by decide)), fun z => by omega⟩
    · by_cases y : twB tb tl p
      · have k := (ndT_two y).2
        have y1 := y.1
        refine ⟨fun x hx => ?_, ?_, ?_, last⟩
        · have all : ∀ x ∈ [42, 47, 37, 43, 45, 59, 91, 93, 61], x ≠ 4 ∧ x ≠ 5 ∧ nI 60 ≠ nI x ∧ nI 62 ≠ nI x ∧ x < 128 := by decide
          have a := all x hx
          rw [cB_iff h a.2.2.2.2, k]
          refine ⟨fun z => ?_, fun z => ?_⟩
          · rcases y1 with e | e
            · exact absurd (e.symm.trans z) a.2.2.1
            · exact absurd (e.symm.trans z) a.2.2.2.1
          · split at z <;> omega
        · rw [i60, k]
          refine ⟨fun z => by rw [if_pos z]; omega, fun z => ?_⟩
          by_cases e : tb p = nI 60
          · exact e
          · rw [if_neg e] at z; omega
        · rw [i62, k]
          refine ⟨fun z => by rw [if_neg (by rw [z]; decide)]; omega, fun z => ?_⟩
          by_cases e : tb p = nI 60
          · rw [if_pos e] at z; omega
          · exact y1.resolve_left e
      · have k := (ndT_one l d y).2
        rw [k] at last k2 ⊢
        have s : ∀ x, x ∈ [42, 47, 37, 43, 45, 59, 91, 93, 61, 60, 62] → (tb p &&& nI 255 = nI x ↔ kiS (tb p) = x) := fun x hx => by
          have m := mem x hx
          rw [cB_iff h m.2.2, kiS_iff h m.1 m.2.1 m.2.2]
        have no4 : kiS (tb p) ≠ 4 ∧ kiS (tb p) ≠ 5 := by
          have all : ∀ y ∈ mjTx 3, y.toNatClampNeg ≠ 4 ∧ y.toNatClampNeg ≠ 5 := by decide
          unfold kiS
          by_cases m : uB (tb p) ∈ mjTx 3
          · have := all _ m
            split <;> omega
          · rw [find_no m, if_pos (by decide)]; omega
        refine ⟨fun x hx => ?_, ?_, ?_, last⟩
        · have all : ∀ x ∈ [42, 47, 37, 43, 45, 59, 91, 93, 61], x ∈ [42, 47, 37, 43, 45, 59, 91, 93, 61, 60, 62] := by decide
          exact s x (all x hx)
        · rw [s 60 (by decide)]; omega
        · rw [s 62 (by decide)]; omega
/-! words packed -/
def pkS (a : Nat → Nat) : Nat → Nat
  | 0 => 0
  | n + 1 => 256 * pkS a n + a n
theorem pkS_inj {a b : Nat → Nat} : ∀ n m, (∀ i, i < n → 1 ≤ a i ∧ a i < 256) → (∀ i, i < m → 1 ≤ b i ∧ b i < 256) → pkS a n = pkS b m → n = m ∧ ∀ i, i < n → a i = b i := by
  intro n
  induction n with
  | zero =>
    intro m ha hb e
    cases m with
    | zero => exact ⟨rfl, fun i hi => by omega⟩
    | succ m =>
      have e : 0 = 256 * pkS b m + b m := e
      have := hb m (by omega)
      omega
  | succ n ih =>
    intro m ha hb e
    have an := ha n (by omega)
    cases m with
    | zero =>
      have e : 256 * pkS a n + a n = 0 := e
      omega
    | succ m =>
      have e : 256 * pkS a n + a n = 256 * pkS b m + b m := e
      have bm := hb m (by omega)
      obtain ⟨h1, h2⟩ := ih m (fun i hi => ha i (by omega)) (fun i hi => hb i (by omega)) (by omega)
      refine ⟨by omega, fun i hi => ?_⟩
      by_cases z : i = n
      · subst z; subst h1; omega
      · exact h2 i (by omega)
theorem pkS_lt {a : Nat → Nat} : ∀ n, (∀ i, i < n → a i < 256) → pkS a n < 256 ^ n := by
  intro n
  induction n with
  | zero => intro _; show 0 < 1; omega
  | succ n ih =>
    intro h
    have := ih (fun i hi => h i (by omega))
    have := h n (by omega)
    show 256 * pkS a n + a n < 256 ^ (n + 1)
    rw [Nat.pow_succ]; omega
def lG (n : Nat) : Int64 := Int64.ofNat n
theorem toN64 {x : Int64} {b : Nat} (h : x.toInt = b) : x.toBitVec.toNat = b := by
  have t := BitVec.toInt_eq_toNat_cond x.toBitVec
  have t : x.toInt = if 2 * x.toBitVec.toNat < 2 ^ 64 then (x.toBitVec.toNat : Int) else (x.toBitVec.toNat : Int) - ((2 ^ 64 : Nat) : Int) := t
  have l := x.toBitVec.isLt
  split at t <;> omega
theorem lG_inj {a b : Nat} (ha : a < 2 ^ 64) (hb : b < 2 ^ 64) (h : lG a = lG b) : a = b := by
  have e : (BitVec.ofNat 64 a).toNat = (BitVec.ofNat 64 b).toNat := congrArg (fun x : Int64 => x.toBitVec.toNat) h
  rw [BitVec.toNat_ofNat, BitVec.toNat_ofNat, Nat.mod_eq_of_lt ha, Nat.mod_eq_of_lt hb] at e
  exact e
theorem lG_step {n b : Nat} (hb : b < 256) (hn : 256 * n + b < 2 ^ 64) : (lG n <<< ((nI 8).toInt64 &&& 63)) ||| (nI b).toInt64 = lG (256 * n + b) := by
  refine Int64.toBitVec_inj.mp (BitVec.eq_of_toNat_eq ?_)
  have e8 : ((nI 8).toInt64 &&& 63).toBitVec.smod 64 = 8#64 := by decide +kernel
  have eb : (nI b).toInt64.toBitVec.toNat = b := toN64 (by rw [Int32.toInt_toInt64, nI_toInt (by omega)])
  show ((BitVec.ofNat 64 n <<< (((nI 8).toInt64 &&& 63).toBitVec.smod 64)) ||| (nI b).toInt64.toBitVec).toNat = (BitVec.ofNat 64 (256 * n + b)).toNat
  rw [e8, BitVec.toNat_or, eb, BitVec.shiftLeft_eq', BitVec.toNat_shiftLeft]
  have e9 : (8#64).toNat = 8 := rfl
  have en : (BitVec.ofNat 64 n).toNat = n := by rw [BitVec.toNat_ofNat]; exact Nat.mod_eq_of_lt (by omega)
  have em : (BitVec.ofNat 64 (256 * n + b)).toNat = 256 * n + b := by rw [BitVec.toNat_ofNat]; exact Nat.mod_eq_of_lt hn
  rw [e9, en, em, Nat.mod_eq_of_lt (by rw [Nat.shiftLeft_eq]; omega), ← Nat.shiftLeft_add_eq_or_of_lt (by omega), Nat.shiftLeft_eq]
  omega
def wB (k i : Nat) : Nat := (mjGet (mjTx 2) (wS.getD k 0 + i)).toNatClampNeg
/-- a word as the reference packs it -/
def Wk (k : Nat) : Int64 := lG (pkS (wB k) (wL k))
theorem wB_ok : ∀ k, k < 18 → (1 ≤ wL k ∧ wL k < 8) ∧ ∀ i, i < wL k → (1 ≤ wB k i ∧ wB k i < 256) ∧ mjGet (mjTx 2) (wS.getD k 0 + i) = nI (wB k i) := by decide +kernel
theorem mtW_iff (tb : Nat → Int32) (p k : Nat) : ∀ n j, mtW tb p k n j = true ↔ ∀ i, i < n → tb (p + (j + i)) = mjGet (mjTx 2) (wS.getD k 0 + (j + i)) := by
  intro n
  induction n with
  | zero => intro j; exact ⟨fun _ i hi => by omega, fun _ => rfl⟩
  | succ n ih =>
    intro j
    have q : mtW tb p k (n + 1) j = if tb (p + j) = mjGet (mjTx 2) (wS.getD k 0 + j) then mtW tb p k n (j + 1) else false := rfl
    rw [q]
    by_cases y : tb (p + j) = mjGet (mjTx 2) (wS.getD k 0 + j)
    · rw [if_pos y, ih (j + 1)]
      constructor
      · intro h i hi
        by_cases z : i = 0
        · subst z; exact y
        · have := h (i - 1) (by omega)
          rw [show j + 1 + (i - 1) = j + i by omega] at this
          exact this
      · intro h i hi
        have := h (i + 1) (by omega)
        rw [show j + (i + 1) = j + 1 + i by omega] at this
        exact this
    · rw [if_neg y]
      exact ⟨fun z => Bool.noConfusion z, fun h => absurd (h 0 (by omega)) y⟩
/-- the letters at a place are the k-th word's -/
def isW (tb : Nat → Int32) (p n k : Nat) : Prop := n = wL k ∧ ∀ i, i < n → tb (p + i) = nI (wB k i)
theorem isW_mt {tb : Nat → Int32} {p n k : Nat} (hk : k < 18) : isW tb p n k ↔ wL k = n ∧ mtW tb p k (wL k) 0 = true := by
  have w := (wB_ok k hk).2
  rw [mtW_iff]
  constructor
  · intro h
    refine ⟨h.1.symm, fun i hi => ?_⟩
    have := h.2 i (by rw [h.1]; exact hi)
    rw [Nat.zero_add, this, (w i hi).2]
  · intro h
    refine ⟨h.1.symm, fun i hi => ?_⟩
    have hi : i < wL k := by rw [h.1]; exact hi
    have := h.2 i hi
    rw [Nat.zero_add, (w i hi).2] at this
    exact this
theorem isW_one {tb : Nat → Int32} {p n j k : Nat} (hj : j < 18) (hk : k < 18) (a : isW tb p n j) (b : isW tb p n k) : j = k := by
  have all : ∀ j, j < 18 → ∀ k, k < 18 → wL j = wL k → (∀ i, i < wL j → wB j i = wB k i) → j = k := by decide +kernel
  refine all j hj k hk (a.1.symm.trans b.1) (fun i hi => ?_)
  have e := (a.2 i (by rw [a.1]; exact hi)).symm.trans (b.2 i (by rw [a.1]; exact hi))
  have w1 := ((wB_ok j hj).2 i hi).1
  have w2 := ((wB_ok k hk).2 i (by rw [← b.1, a.1]; exact hi)).1
  exact (nI_eq (by omega) (by omega)).mp e
theorem kwF_iff {tb : Nat → Int32} {p e k : Nat} (hk : k < 18) : kwF tb p e 18 0 = 128 + k ↔ isW tb p (e - p) k := by
  have gen : ∀ n j, j + n = 18 → (∀ i, i < j → ¬ isW tb p (e - p) i) → (kwF tb p e n j = 128 + k ↔ isW tb p (e - p) k) := by
    intro n
    induction n with
    | zero =>
      intro j hj h
      exact ⟨fun z => by have z : 2 = 128 + k := z; omega, fun z => absurd z (h k (by omega))⟩
    | succ n ih =>
      intro j hj h
      have q : kwF tb p e (n + 1) j = if wL j = e - p ∧ mtW tb p j (wL j) 0 = true then 128 + j else kwF tb p e n (j + 1) := rfl
      rw [q]
      by_cases y : wL j = e - p ∧ mtW tb p j (wL j) 0 = true
      · rw [if_pos y]
        have yj := (isW_mt (show j < 18 by omega)).mpr y
        constructor
        · intro z
          rw [← show j = k by omega]; exact yj
        · intro z
          rw [isW_one (by omega) hk yj z]
      · rw [if_neg y]
        exact ih (j + 1) (by omega) (fun i hi => by
          by_cases z : i = j
          · rw [z]; exact fun w => y ((isW_mt (by omega)).mp w)
          · exact h i (by omega))
  exact gen 18 0 rfl (fun i hi => by omega)
theorem rn_stop (P : Int32 → Bool) (tb : Nat → Int32) (tl : Nat) : ∀ n p, rn P tb tl n p = p + n ∨ ¬ P (tb (rn P tb tl n p)) = true := by
  intro n
  induction n with
  | zero => intro p; exact Or.inl rfl
  | succ n ih =>
    intro p
    have q : rn P tb tl (n + 1) p = if P (tb p) = true then rn P tb tl n (p + 1) else p := rfl
    rw [q]
    by_cases y : P (tb p) = true
    · rw [if_pos y]
      rcases ih (p + 1) with z | z
      · exact Or.inl (by omega)
      · exact Or.inr z
    · rw [if_neg y]; exact Or.inr y
