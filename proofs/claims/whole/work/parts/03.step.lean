/-! ONE STEP of the small machine, as a functional: 'cal' for calls, 'rec' for what comes next -/
/-- the locals of a method that begins -/
def mjEnt (c : Nat) (as : List Value) : List Value := mjPad (mjMeta c).1 (mjX as)
def mjCall (cal : mjT) (c lv : Nat) (as : List Value) (h : mjS) : mjO := bif Nat.ble (mjX as).length (mjMeta c).1 then cal c lv 0 (mjEnt c as) [] h else none
/-- the receiver of a call is of the class -/
def mjRcv (h : mjS) (r1 r3 : Nat) (as : List Value) (k : mjO) : mjO :=
  bif Nat.ble r3 10 then (match as with
    | .ref a :: _ => if mK h a = mjCk r1 then k else none
    | _ => none) else k
/-- the two texts: their bytes -/
def mjTx : Nat → List Int32
  | 2 => [102, 105, 101, 108, 100, 32, 119, 111, 114, 107, 32, 116, 97, 107, 101, 32, 105, 102, 32, 111, 114, 32, 97, 110, 100, 32, 110, 111, 116, 32, 115, 112, 105, 100, 101, 114, 32, 112, 101, 114, 115, 111, 110, 32, 99, 97, 114, 114, 105, 101, 115, 32, 103, 108, 97, 100, 32, 111, 119, 110, 32, 104, 101, 100, 103, 101, 32, 98, 117, 105, 108, 116, 32, 110, 101, 101, 100, 32, 119, 105, 116, 104, 32, 108, 121, 105, 110, 103, 32, 100, 97, 121]
  | 3 => [59, 91, 93, 43, 45, 42, 47, 37, 60, 61, 62]
  | _ => []
def mjFind : List Int32 → Int32 → Int32 → Int32
  | [], _, _ => -1
  | y :: l, x, i => if x = y then i else mjFind l x (i + 1)
def mjGet (l : List Int32) (n : Nat) : Int32 := l.getD n 0
def mjInv (cal rec : mjT) (c lv nx : Nat) (ls : List Value) (h : mjS) (r1 r3 : Nat) (as st : List Value) : mjO :=
  bif Nat.ble (mjCat st) 8 then
    match r3 with
    | 0 => rV (mjCall cal r1 lv as h) fun h => rec c lv nx ls st h
    | 1 => rI (mjCall cal r1 lv as h) fun x h => rec c lv nx ls (.int x :: st) h
    | 2 => rL (mjCall cal r1 lv as h) fun x h => rec c lv nx ls (.long x :: st) h
    | 3 => rA (mjCall cal r1 lv as h) fun x h => rec c lv nx ls (.ref x :: st) h
    | 10 => (match lv with
      | 0 => none
      | k + 1 => rV (mjCall cal r1 k as h) fun h => rec c lv nx ls st h)
    | 20 => (match as with
      | [.ref a] => if a = 0 then none else rec c lv nx ls st h
      | _ => none)
    | 21 => (match as with
      | [.ref a, .int i, .ref b, .int j, .int n] => if mK h a = 20 ∧ mK h b = 20 then (if (0 ≤ i ∧ 0 ≤ j ∧ 0 ≤ n) ∧ (i.toNatClampNeg + n.toNatClampNeg ≤ mN h a ∧ j.toNatClampNeg + n.toNatClampNeg ≤ mN h b) then rec c lv nx ls st (pC h a i.toNatClampNeg b j.toNatClampNeg n.toNatClampNeg) else none) else none
      | _ => none)
    | 22 => (match as with
      | [.ref a] => if a = 2 ∨ a = 3 then rec c lv nx ls (.int (Int32.ofNat (mjTx a).length) :: st) h else none
      | _ => none)
    | 23 => (match as with
      | [.ref a, .int i] => if (a = 2 ∨ a = 3) ∧ mjIn i (mjTx a).length then rec c lv nx ls (.int (mjGet (mjTx a) i.toNatClampNeg) :: st) h else none
      | _ => none)
    | 24 => (match as with
      | [.ref a, .int x] => if a = 2 ∨ a = 3 then rec c lv nx ls (.int (mjFind (mjTx a) x 0) :: st) h else none
      | _ => none)
    | 25 => (match as with
      | [.int x, .int y] => rec c lv nx ls (.int (if x < y then y else x) :: st) h
      | _ => none)
    | 26 => (match as with
      | [.int x, .int y] => rec c lv nx ls (.int (if y < x then y else x) :: st) h
      | _ => none)
    | 27 => (match as with
      | [.int x] => rec c lv nx ls (.int (if 0 ≤ x then x else 0 - x) :: st) h
      | _ => none)
    | _ => none
  else none
/-- a store that gets a name -/
def mjLet (h : mjS) (k : mjS → mjO) : mjO := k h
/-- nothing else on the stack -/
def mjNil (st : List Value) (k : mjO) : mjO := match st with
  | [] => k
  | _ => none
def mjCmp (q : ClassFile.Cond) (x y : Int32) (a b : mjO) : mjO := match q with
  | .eq => if x = y then a else b
  | .ne => if x = y then b else a
  | .lt => if x < y then a else b
  | .ge => if x < y then b else a
  | .gt => if y < x then a else b
  | .le => if y < x then b else a
def mjF (cal rec : mjT) (c lv pc : Nat) (ls st : List Value) (h : mjS) : mjO :=
  match mjCode c pc with
  | none => none
  | some (ins, nx, r1, r2, r3, ki, kl, _) =>
    match ins with
    | .aload_n i => kLa ls i.val fun a => rec c lv nx ls (.ref a :: st) h
    | .aload i => kLa ls i fun a => rec c lv nx ls (.ref a :: st) h
    | .iload_n i => kLi ls i.val fun a => rec c lv nx ls (.int a :: st) h
    | .iload i => kLi ls i fun a => rec c lv nx ls (.int a :: st) h
    | .lload_n i => kLl ls i.val fun a => rec c lv nx ls (.long a :: st) h
    | .lload i => kLl ls i fun a => rec c lv nx ls (.long a :: st) h
    | .astore_n i => k1a st fun a r => rec c lv nx (mjSt1 ls i.val (.ref a)) r h
    | .astore i => k1a st fun a r => rec c lv nx (mjSt1 ls i (.ref a)) r h
    | .istore_n i => k1i st fun a r => rec c lv nx (mjSt1 ls i.val (.int a)) r h
    | .istore i => k1i st fun a r => rec c lv nx (mjSt1 ls i (.int a)) r h
    | .lstore_n i => k1l st fun a r => rec c lv nx (mjSt2 ls i.val (.long a)) r h
    | .lstore i => k1l st fun a r => rec c lv nx (mjSt2 ls i (.long a)) r h
    | .iconst _ => rec c lv nx ls (.int ki :: st) h
    | .bipush _ => rec c lv nx ls (.int ki :: st) h
    | .sipush _ => rec c lv nx ls (.int ki :: st) h
    | .lconst _ => rec c lv nx ls (.long kl :: st) h
    | .ldc _ => bif Nat.beq r1 0 then rec c lv nx ls (.int ki :: st) h else rec c lv nx ls (.ref r2 :: st) h
    | .ldc_w _ => rec c lv nx ls (.int ki :: st) h
    | .ldc2_w _ => rec c lv nx ls (.long kl :: st) h
    | .aconst_null => rec c lv nx ls (.ref 0 :: st) h
    | .iadd => k1i st fun y r => k1i r fun x r => rec c lv nx ls (.int (x + y) :: r) h
    | .isub => k1i st fun y r => k1i r fun x r => rec c lv nx ls (.int (x - y) :: r) h
    | .imul => k1i st fun y r => k1i r fun x r => rec c lv nx ls (.int (x * y) :: r) h
    | .idiv => k1i st fun y r => k1i r fun x r => if y = 0 then none else rec c lv nx ls (.int (x / y) :: r) h
    | .irem => k1i st fun y r => k1i r fun x r => if y = 0 then none else rec c lv nx ls (.int (x - x / y * y) :: r) h
    | .iand => k1i st fun y r => k1i r fun x r => rec c lv nx ls (.int (x &&& y) :: r) h
    | .ior => k1i st fun y r => k1i r fun x r => rec c lv nx ls (.int (x ||| y) :: r) h
    | .ixor => k1i st fun y r => k1i r fun x r => rec c lv nx ls (.int (x ^^^ y) :: r) h
    | .ishl => k1i st fun y r => k1i r fun x r => rec c lv nx ls (.int (x <<< (y &&& 31)) :: r) h
    | .ishr => k1i st fun y r => k1i r fun x r => rec c lv nx ls (.int (x >>> (y &&& 31)) :: r) h
    | .iushr => k1i st fun y r => k1i r fun x r => rec c lv nx ls (.int (x.toUInt32 >>> (y.toUInt32 &&& Int32.toUInt32 31)).toInt32 :: r) h
    | .ineg => k1i st fun x r => rec c lv nx ls (.int (-x) :: r) h
    | .i2b => k1i st fun x r => rec c lv nx ls (.int (mjB x) :: r) h
    | .i2c => k1i st fun x r => rec c lv nx ls (.int (x.toUInt32 % 65536).toInt32 :: r) h
    | .i2l => k1i st fun x r => rec c lv nx ls (.long x.toInt64 :: r) h
    | .l2i => k1l st fun x r => rec c lv nx ls (.int x.toInt32 :: r) h
    | .ladd => k1l st fun y r => k1l r fun x r => rec c lv nx ls (.long (x + y) :: r) h
    | .lsub => k1l st fun y r => k1l r fun x r => rec c lv nx ls (.long (x - y) :: r) h
    | .lmul => k1l st fun y r => k1l r fun x r => rec c lv nx ls (.long (x * y) :: r) h
    | .ldiv => k1l st fun y r => k1l r fun x r => if y = 0 then none else rec c lv nx ls (.long (x / y) :: r) h
    | .lrem => k1l st fun y r => k1l r fun x r => if y = 0 then none else rec c lv nx ls (.long (x - x / y * y) :: r) h
    | .land => k1l st fun y r => k1l r fun x r => rec c lv nx ls (.long (x &&& y) :: r) h
    | .lor => k1l st fun y r => k1l r fun x r => rec c lv nx ls (.long (x ||| y) :: r) h
    | .lshl => k1i st fun y r => k1l r fun x r => rec c lv nx ls (.long (x <<< (y.toInt64 &&& 63)) :: r) h
    | .lcmp => k1l st fun y r => k1l r fun x r => rec c lv nx ls (.int (if x < y then -1 else if x = y then 0 else 1) :: r) h
    | .iinc i _ => kLi ls i fun x => rec c lv nx (mjSt1 ls i (.int (x + ki))) st h
    | .if_icmp q _ => k1i st fun y r => k1i r fun x r => mjCmp q x y (rec c lv r1 ls r h) (rec c lv nx ls r h)
    | .ifCond q _ => k1i st fun x r => mjCmp q x 0 (rec c lv r1 ls r h) (rec c lv nx ls r h)
    | .ifnull _ => k1a st fun a r => if a = 0 then rec c lv r1 ls r h else rec c lv nx ls r h
    | .ifnonnull _ => k1a st fun a r => if a = 0 then rec c lv nx ls r h else rec c lv r1 ls r h
    | .goto _ => rec c lv r1 ls st h
    | .tableswitch _ _ _ _ => k1i st fun x r => mjSw (mjSws (c * 4096 + pc)) r1 x fun t => rec c lv t ls r h
    | .lookupswitch _ _ => k1i st fun x r => mjSw (mjSws (c * 4096 + pc)) r1 x fun t => rec c lv t ls r h
    | .getfield _ => k1a st fun a r => if mK h a = r1 then (match r3 with
      | 0 => rec c lv nx ls (.int (mI h a r2) :: r) h
      | 1 => rec c lv nx ls (.int (mI h a r2) :: r) h
      | 2 => rec c lv nx ls (.long (mL h a r2) :: r) h
      | _ => rec c lv nx ls (.ref (mR h a r2) :: r) h) else none
    | .putfield _ => (match r3 with
      | 0 => k1i st fun v r => k1a r fun a r => if mK h a = r1 then rec c lv nx ls r (pI h a r2 v) else none
      | 1 => k1i st fun v r => k1a r fun a r => if mK h a = r1 then (if v = 0 ∨ v = 1 then rec c lv nx ls r (pI h a r2 v) else none) else none
      | 2 => k1l st fun v r => k1a r fun a r => if mK h a = r1 then rec c lv nx ls r (pL h a r2 v) else none
      | _ => k1a st fun v r => k1a r fun a r => if mK h a = r1 then rec c lv nx ls r (pR h a r2 v) else none)
    | .iaload => k1i st fun i r => k1a r fun a r => if mK h a = r1 then (if mjIn i (mN h a) then rec c lv nx ls (.int (mI h a i.toNatClampNeg) :: r) h else none) else none
    | .baload => k1i st fun i r => k1a r fun a r => if mK h a = r1 then (if mjIn i (mN h a) then rec c lv nx ls (.int (mI h a i.toNatClampNeg) :: r) h else none) else none
    | .laload => k1i st fun i r => k1a r fun a r => if mK h a = r1 then (if mjIn i (mN h a) then rec c lv nx ls (.long (mL h a i.toNatClampNeg) :: r) h else none) else none
    | .aaload => k1i st fun i r => k1a r fun a r => if mK h a = r1 then (if mjIn i (mN h a) then rec c lv nx ls (.ref (mR h a i.toNatClampNeg) :: r) h else none) else none
    | .iastore => k1i st fun v r => k1i r fun i r => k1a r fun a r => if mK h a = r1 then (if mjIn i (mN h a) then rec c lv nx ls r (pI h a i.toNatClampNeg v) else none) else none
    | .bastore => k1i st fun v r => k1i r fun i r => k1a r fun a r => if mK h a = r1 then (if mjIn i (mN h a) then (bif Nat.beq r1 21 then rec c lv nx ls r (pI h a i.toNatClampNeg (mjB v)) else (if v = 0 ∨ v = 1 then rec c lv nx ls r (pI h a i.toNatClampNeg v) else none)) else none) else none
    | .lastore => k1l st fun v r => k1i r fun i r => k1a r fun a r => if mK h a = r1 then (if mjIn i (mN h a) then rec c lv nx ls r (pL h a i.toNatClampNeg v) else none) else none
    | .aastore => k1a st fun v r => k1i r fun i r => k1a r fun a r => if mK h a = r1 then (if mjIn i (mN h a) then (if mK h v = r2 then rec c lv nx ls r (pR h a i.toNatClampNeg v) else none) else none) else none
    | .arraylength => k1a st fun a r => if mK h a = r1 then rec c lv nx ls (.int (Int32.ofNat (mN h a)) :: r) h else none
    | .newarray _ => k1i st fun n r => if 0 ≤ n ∧ n.toNatClampNeg ≤ 65536 then rec c lv nx ls (.ref (mX h) :: r) (pN h r1 n.toNatClampNeg n.toNatClampNeg) else none
    | .anewarray _ => k1i st fun n r => if 0 ≤ n ∧ n.toNatClampNeg ≤ 65536 then rec c lv nx ls (.ref (mX h) :: r) (pN h r1 n.toNatClampNeg n.toNatClampNeg) else none
    | .new _ => rec c lv nx ls (.ref (mX h) :: st) (pN h r1 0 r2)
    | .dup => (match st with
      | .int x :: r => rec c lv nx ls (.int x :: .int x :: r) h
      | .ref x :: r => rec c lv nx ls (.ref x :: .ref x :: r) h
      | _ => none)
    | .dup2 => k1i st fun i r => k1a r fun a r => rec c lv nx ls (.int i :: .ref a :: .int i :: .ref a :: r) h
    | .pop => (match st with
      | .int _ :: r => rec c lv nx ls r h
      | .ref _ :: r => rec c lv nx ls r h
      | _ => none)
    | .invokevirtual _ => mjPop r2 [] st fun as r => mjRcv h r1 r3 as (mjInv cal rec c lv nx ls h r1 r3 as r)
    | .invokestatic _ => mjPop r2 [] st fun as r => mjInv cal rec c lv nx ls h r1 r3 as r
    | .invokespecial _ => mjPop r2 [] st fun as r => mjRcv h r1 r3 as (mjInv cal rec c lv nx ls h r1 r3 as r)
    | .ireturn => k1i st fun x r => mjNil r (bif Nat.beq (mjMeta c).2.1 4 then (if x = 0 ∨ x = 1 then some (.int x, h) else none) else some (.int x, h))
    | .lreturn => k1l st fun x r => mjNil r (some (.long x, h))
    | .areturn => k1a st fun x r => mjNil r (some (.ref x, h))
    | .return_ => mjNil st (some (.ref 0, h))
    | _ => none
/-- what is proved of any such function holds of the machine's own -/
abbrev mjFix (ev : mjT) : Prop := ∀ c lv pc ls st h, ev c lv pc ls st h = mjF ev ev c lv pc ls st h
/-- so many steps, up to a place of the cut -/
def mjGo (ev : mjT) (cut : Nat → Bool) : Nat → mjT
  | 0 => ev
  | n + 1 => fun c lv pc ls st h => bif cut pc then ev c lv pc ls st h else mjF ev (mjGo ev cut n) c lv pc ls st h
theorem mjGo_eq {ev : mjT} (E : mjFix ev) (cut : Nat → Bool) : ∀ n, mjGo ev cut n = ev := by
  intro n
  induction n with
  | zero => rfl
  | succ n ih =>
    funext c lv pc ls st h
    show (bif cut pc then ev c lv pc ls st h else mjF ev (mjGo ev cut n) c lv pc ls st h) = _
    rw [ih]
    cases cut pc
    · exact (E c lv pc ls st h).symm
    · rfl
/-- a block: from a place to places of the cut -/
theorem mj_blk {ev : mjT} (E : mjFix ev) (cut : Nat → Bool) (n : Nat) (c lv pc : Nat) (ls st : List Value) (h : mjS) : ev c lv pc ls st h = mjF ev (mjGo ev cut n) c lv pc ls st h := by
  rw [mjGo_eq E cut n]; exact E c lv pc ls st h
