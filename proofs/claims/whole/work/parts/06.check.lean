/-! WHAT THE TABLES OF THE SMALL MACHINE SAY OF THE CLAIM: a check of each instruction, computed -/
def mjFt : Nat → List Nat := fun k => bif Nat.blt k 7 then (bif Nat.blt k 4 then (bif Nat.blt k 2 then (bif Nat.beq k 1 then [3, 0, 0] else []) else (bif Nat.blt k 3 then (bif Nat.beq k 2 then [0, 0, 3, 0, 3, 3, 0, 3] else []) else (bif Nat.beq k 3 then [3] else []))) else (bif Nat.blt k 5 then (bif Nat.beq k 4 then [3, 3, 3, 3, 3, 3, 0, 0, 0] else []) else (bif Nat.blt k 6 then (bif Nat.beq k 5 then [1, 3, 3, 0, 0] else []) else (bif Nat.beq k 6 then [0, 3, 3, 3] else [])))) else (bif Nat.blt k 10 then (bif Nat.blt k 8 then (bif Nat.beq k 7 then [3, 3] else []) else (bif Nat.blt k 9 then (bif Nat.beq k 8 then [3, 3, 0, 0] else []) else (bif Nat.beq k 9 then [3, 3, 3, 0, 0] else []))) else (bif Nat.blt k 12 then (bif Nat.blt k 11 then (bif Nat.beq k 10 then [3, 3, 3, 3, 3, 3, 3, 0, 0, 0] else []) else (bif Nat.beq k 11 then [3, 0, 3, 3, 3, 0, 0, 0] else [])) else (bif Nat.blt k 13 then (bif Nat.beq k 12 then [3, 3, 3, 3, 0, 0, 3, 3, 3, 0, 3, 3, 3] else []) else (bif Nat.beq k 13 then [3, 0, 0, 3, 3, 3, 3, 3, 0, 0, 0, 0, 0, 0, 0, 3, 0, 3, 0, 3, 3, 0, 0, 3, 0, 3, 3, 3, 3, 3, 2, 3, 3, 3, 3] else []))))
def mjTag : FieldType → Nat
  | .int => 0
  | .boolean => 1
  | .long => 2
  | .object _ => 3
  | .array _ => 3
  | _ => 9
/-- the element's type of an array by its kind -/
def mjAty : Nat → FieldType
  | 20 => .int
  | 21 => .byte
  | 22 => .boolean
  | 23 => .long
  | 24 => .object RX6
  | 25 => .object RX4
  | _ => .object RX9
def mjLn : Instr → Nat
  | .aload _ => 2 | .iload _ => 2 | .lload _ => 2 | .astore _ => 2 | .istore _ => 2 | .lstore _ => 2 | .bipush _ => 2 | .newarray _ => 2 | .ldc _ => 2
  | .sipush _ => 3 | .iinc _ _ => 3 | .if_icmp _ _ => 3 | .ifCond _ _ => 3 | .ifnull _ => 3 | .ifnonnull _ => 3 | .goto _ => 3
  | .getfield _ => 3 | .putfield _ => 3 | .getstatic _ => 3 | .invokevirtual _ => 3 | .invokestatic _ => 3 | .invokespecial _ => 3 | .new _ => 3 | .anewarray _ => 3 | .ldc_w _ => 3 | .ldc2_w _ => 3 | .checkcast _ => 3
  | _ => 1
def mjOffs (pc lo : Int) : List Int → List (Int32 × Nat)
  | [] => []
  | o :: l => (Int32.ofInt lo, (pc + o).toNat) :: mjOffs pc (lo + 1) l
def mjPrs (pc : Int) : List (Int × Int) → List (Int32 × Nat)
  | [] => []
  | o :: l => (Int32.ofInt o.1, (pc + o.2).toNat) :: mjPrs pc l
def mjChF (own : String) (idx r1 r2 r3 ht : Nat) : Bool := match mjCl[r1 - 1]? with
  | some (_, T, N) => decide (1 ≤ r1 ∧ r1 ≤ 13 ∧ r2 < N) && decide ((mjFt r1)[r2]? = some r3) && (decide (lw_tbl[ht]? = some (.fieldLink own idx (T r2).1 (T r2).2.1 (T r2).2.2.1)) || decide (lw_tbl[ht]? = some (.fieldLinkNest own idx (T r2).1 (T r2).2.1 (T r2).2.2.1 "GladSpider")))
  | none => false
def mjChP (c : Nat) (own : String) (idx r1 r2 ht : Nat) : Bool := match mjCl[r1 - 1]? with
  | some (_, T, _) => bif (T r2).2.2.2 then decide ((mjY c).name = "<init>" ∧ (T r2).1 = own) && decide (lw_tbl[ht]? = some (.fieldLink own idx (T r2).1 (T r2).2.1 (T r2).2.2.1)) else true
  | none => false
def mjRc : Option FieldType → Nat
  | none => 0
  | some .int => 1
  | some .boolean => 1
  | some .long => 2
  | some (.object _) => 3
  | some (.array _) => 3
  | _ => 9
/-- a call: kind 0 virtual, 1 static, 2 of a constructor -/
def mjChI (c : Nat) (own : String) (kd idx r1 r2 r3 ht : Nat) : Bool :=
  bif Nat.beq r3 20 then Nat.beq kd 2 && Nat.beq r2 1 && decide (lw_tbl[ht]? = some (.methodLink own idx Lib.objectInit))
  else bif Nat.beq r3 21 then Nat.beq kd 1 && Nat.beq r2 5 && decide (lw_tbl[ht]? = some (.methodLink own idx arraycopyName))
  else bif Nat.beq r3 22 then Nat.beq kd 0 && Nat.beq r2 1 && decide (lw_tbl[ht]? = some (.methodLink own idx ⟨"java/lang/String", "length", "()I"⟩))
  else bif Nat.beq r3 23 then Nat.beq kd 0 && Nat.beq r2 2 && decide (lw_tbl[ht]? = some (.methodLink own idx ⟨"java/lang/String", "charAt", "(I)C"⟩))
  else bif Nat.beq r3 24 then Nat.beq kd 0 && Nat.beq r2 2 && decide (lw_tbl[ht]? = some (.methodLink own idx ⟨"java/lang/String", "indexOf", "(I)I"⟩))
  else bif Nat.beq r3 25 then Nat.beq kd 1 && Nat.beq r2 2 && decide (lw_tbl[ht]? = some (.methodLink own idx Lib.Math.max.name))
  else bif Nat.beq r3 26 then Nat.beq kd 1 && Nat.beq r2 2 && decide (lw_tbl[ht]? = some (.methodLink own idx Lib.Math.min.name))
  else bif Nat.beq r3 27 then Nat.beq kd 1 && Nat.beq r2 1 && decide (lw_tbl[ht]? = some (.methodLink own idx Lib.Math.abs.name))
  else bif Nat.beq r3 99 then true
  else (decide (lw_tbl[ht]? = some (.methodLink own idx (mjY r1))) || decide (lw_tbl[ht]? = some (.methodLinkNest own idx (mjY r1) "GladSpider")))
    && decide ((parseMethodDescriptor (mjY r1).desc).map (fun d => d.parameters.length) = some (bif Nat.beq kd 1 then r2 else r2 - 1)) && decide (1 ≤ r2 ∨ kd = 1) && decide (r1 < 263 ∧ (r1 < 258 ∨ 260 < r1))
    && decide (mjRk r1 + 1 ≤ mjRk c ∨ (r3 = 10 ∧ mjRk r1 + 1 ≤ mjRk c + 2)) && (decide (mjRc (mjRt r1) = r3) || (Nat.beq r3 10 && decide (mjRt r1 = none)))
    && decide (((mjY r1).name = "<init>" ↔ kd = 2) ∧ (kd = 2 → mjRt r1 = none)) && decide (12 ≤ mjRk r1) && (Nat.beq kd 1 || (decide ((mjCl[mjCk r1 - 1]?).map (fun q => q.1) = some (mjY r1).cls) && decide (1 ≤ mjCk r1 ∧ mjCk r1 ≤ 13)))
    && decide (lw_tbl[(mjHt r1).2.1]? = some (bif Nat.beq kd 1 then .static (mjY r1) else .instanceMethod (mjY r1)))
    && (Nat.beq kd 2 || Nat.beq kd 1 || decide (lw_tbl[(mjHt r1).2.2.1]? = some (.selects (mjY r1).cls (mjY r1) (mjY r1))))
def mjChk (c pc : Nat) (q : mjIns) : Bool := match q with
  | (ins, nx, r1, r2, r3, ki, kl, ht) =>
    match ins with
    | .tableswitch d lo hi offs => decide (decode (mjBy c) pc = .ok (.tableswitch d lo hi offs, nx - pc)) && decide ((pc : Int) + d = r1) && decide (mjOffs pc lo offs.toList = mjSws (c * 4096 + pc)) && decide (hi = lo + offs.size - 1 ∧ 0 ≤ lo ∧ hi ≤ 2000 ∧ offs.toList.all (fun o => decide (0 ≤ (pc : Int) + o)) = true)
    | .lookupswitch d ps => decide (decode (mjBy c) pc = .ok (.lookupswitch d ps, nx - pc)) && decide ((pc : Int) + d = r1) && decide (mjPrs pc ps.toList = mjSws (c * 4096 + pc)) && decide ((ps.toList.zip (ps.toList.drop 1)).all (fun (a, next) => a.1 < next.1) = true ∧ ps.toList.all (fun o => decide (0 ≤ o.1 ∧ o.1 ≤ 2000 ∧ 0 ≤ (pc : Int) + o.2)) = true)
    | ins => decide (decode (mjBy c) pc = .ok (ins, mjLn ins)) && decide (nx = pc + mjLn ins) && (match ins with
      | .astore_n i => decide (i.val < (mjMeta c).1)
      | .astore i => decide (i < (mjMeta c).1)
      | .istore_n i => decide (i.val < (mjMeta c).1)
      | .istore i => decide (i < (mjMeta c).1)
      | .lstore_n i => decide (i.val + 1 < (mjMeta c).1)
      | .lstore i => decide (i + 1 < (mjMeta c).1)
      | .iconst n => decide (Int32.ofInt n = ki)
      | .bipush n => decide ((Int8.ofInt n).toInt32 = ki)
      | .sipush n => decide ((Int16.ofInt n).toInt32 = ki)
      | .lconst n => decide (Int64.ofNat n.val = kl)
      | .ldc i => bif Nat.beq r1 0 then decide (lw_tbl[ht]? = some (.constant (mjY c).cls i ki)) else decide ((mjY c).cls = "GladSpider$Tape" ∧ ((r2 = 2 ∧ i = 70) ∨ (r2 = 3 ∧ i = 63)))
      | .ldc_w i => decide (lw_tbl[ht]? = some (.constant (mjY c).cls i ki))
      | .ldc2_w i => decide (lw_tbl[ht]? = some (.constantLong (mjY c).cls i kl))
      | .iinc i n => decide (i < (mjMeta c).1) && decide (Int32.ofInt n = ki)
      | .if_icmp _ o => decide ((pc : Int) + o = r1)
      | .ifCond _ o => decide ((pc : Int) + o = r1)
      | .ifnull o => decide ((pc : Int) + o = r1)
      | .ifnonnull o => decide ((pc : Int) + o = r1)
      | .goto o => decide ((pc : Int) + o = r1)
      | .getfield i => mjChF (mjY c).cls i r1 r2 r3 ht
      | .putfield i => mjChF (mjY c).cls i r1 r2 r3 ht && mjChP c (mjY c).cls i r1 r2 ht
      | .iaload => decide (r1 = 20 ∨ r1 = 30)
      | .baload => decide (r1 = 21 ∨ r1 = 22)
      | .laload => decide (r1 = 23)
      | .aaload => decide (r1 = 24 ∨ r1 = 25 ∨ r1 = 26)
      | .iastore => decide (r1 = 20)
      | .bastore => decide (r1 = 21 ∨ r1 = 22)
      | .lastore => decide (r1 = 23)
      | .aastore => decide ((r1 = 24 ∧ r2 = 7) ∨ (r1 = 25 ∧ r2 = 5) ∨ (r1 = 26 ∧ r2 = 10))
      | .arraylength => decide ((20 ≤ r1 ∧ r1 ≤ 26) ∨ r1 = 30)
      | .newarray a => decide (20 ≤ r1 ∧ r1 ≤ 23 ∧ newarray.typeOf a = mjAty r1)
      | .anewarray i => decide (24 ≤ r1 ∧ r1 ≤ 26) && (match mjAty r1 with
        | .object C => decide (lw_tbl[ht]? = some (.classLink (mjY c).cls i C))
        | _ => false)
      | .new i => (match mjCl[r1 - 1]? with
        | some (C, _, M) => decide (1 ≤ r1 ∧ r1 ≤ 13 ∧ r2 = M) && decide (lw_tbl[ht]? = some (.classLink (mjY c).cls i C))
        | none => false)
      | .invokevirtual i => mjChI c (mjY c).cls 0 i r1 r2 r3 ht
      | .invokestatic i => mjChI c (mjY c).cls 1 i r1 r2 r3 ht
      | .invokespecial i => mjChI c (mjY c).cls 2 i r1 r2 r3 ht
      | .ireturn => decide ((mjRt c = some .int ∧ (mjMeta c).2.1 = 1) ∨ (mjRt c = some .boolean ∧ (mjMeta c).2.1 = 4))
      | .lreturn => decide (mjRt c = some .long)
      | .areturn => decide (mjRc (mjRt c) = 3)
      | .return_ => decide (mjRt c = none)
      | _ => true)
def mjChM (c : Nat) : Bool := (List.range (mjMeta c).2.2).all fun pc => match mjTab c pc with
  | none => true
  | some q => mjChk c pc q
def mjChY (c : Nat) : Bool := plainName (mjY c).cls && decide ((mjY c).cls ≠ "java/lang/invoke/MethodHandle" ∧ (mjY c).cls ≠ "java/lang/invoke/VarHandle") && decide (lw_tbl[(mjHt c).2.2.2]? = some (.initialized (mjY c).cls)) && decide (lw_tbl[(mjHt c).1]? = some (.code (mjY c) (mjBy c) (mjMeta c).1 (mjRt c))) && decide ((mjMeta c).1 ≤ 40)
def mjChR (c lo n : Nat) : Bool := (List.range' lo n).all fun pc => match mjTab c pc with
  | none => true
  | some q => mjChk c pc q
