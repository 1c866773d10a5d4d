/-- the classes of the objects: their words, their fields' types -/
theorem mj_cls : ∀ (i : Nat) (C : String) (T : u_T) (M : Nat), mjCl[i]? = some (C, T, M) → (∀ w ∈ u_ws C T M, w ∈ lw_tbl) ∧ (∃ ty0 : Nat → FieldType, (∀ k, k < M → parseFieldDescriptor (T k).2.2.1 = some (ty0 k)) ∧ ∀ k, k < M → (mjFt (i + 1))[k]? = some (mjTag (ty0 k)) ∧ mjTag (ty0 k) ≤ 3) ∧ (∀ a, a < M → ∀ b, b < M → a ≠ b → (T a).2.1 ≠ (T b).2.1) ∧ (mjFt (i + 1)).length = M ∧ Cond.instantiable C M ∈ lw_tbl ∧ Cond.initialized C ∈ lw_tbl := by
  intro i C T M h
  match i, h with
  | 0, h => cases h; exact ⟨iX0, ⟨tyX0, tyX0_ok, by decide +kernel⟩, nmX0, by decide +kernel, List.mem_of_getElem? (i := 317) (by decide +kernel), List.mem_of_getElem? (i := 118) (by decide +kernel)⟩
  | 1, h => cases h; exact ⟨iX1, ⟨tyX1, tyX1_ok, by decide +kernel⟩, nmX1, by decide +kernel, List.mem_of_getElem? (i := 209) (by decide +kernel), List.mem_of_getElem? (i := 116) (by decide +kernel)⟩
  | 2, h => cases h; exact ⟨iX2, ⟨tyX2, tyX2_ok, by decide +kernel⟩, nmX2, by decide +kernel, List.mem_of_getElem? (i := 178) (by decide +kernel), List.mem_of_getElem? (i := 114) (by decide +kernel)⟩
  | 3, h => cases h; exact ⟨iX3, ⟨tyX3, tyX3_ok, by decide +kernel⟩, nmX3, by decide +kernel, List.mem_of_getElem? (i := 386) (by decide +kernel), List.mem_of_getElem? (i := 121) (by decide +kernel)⟩
  | 4, h => cases h; exact ⟨iX4, ⟨tyX4, tyX4_ok, by decide +kernel⟩, nmX4, by decide +kernel, List.mem_of_getElem? (i := 358) (by decide +kernel), List.mem_of_getElem? (i := 120) (by decide +kernel)⟩
  | 5, h => cases h; exact ⟨iX5, ⟨tyX5, tyX5_ok, by decide +kernel⟩, nmX5, by decide +kernel, List.mem_of_getElem? (i := 337) (by decide +kernel), List.mem_of_getElem? (i := 119) (by decide +kernel)⟩
  | 6, h => cases h; exact ⟨iX6, ⟨tyX6, tyX6_ok, by decide +kernel⟩, nmX6, by decide +kernel, List.mem_of_getElem? (i := 744) (by decide +kernel), List.mem_of_getElem? (i := 132) (by decide +kernel)⟩
  | 7, h => cases h; exact ⟨iX7, ⟨tyX7, tyX7_ok, by decide +kernel⟩, nmX7, by decide +kernel, List.mem_of_getElem? (i := 188) (by decide +kernel), List.mem_of_getElem? (i := 115) (by decide +kernel)⟩
  | 8, h => cases h; exact ⟨iX8, ⟨tyX8, tyX8_ok, by decide +kernel⟩, nmX8, by decide +kernel, List.mem_of_getElem? (i := 424) (by decide +kernel), List.mem_of_getElem? (i := 122) (by decide +kernel)⟩
  | 9, h => cases h; exact ⟨iX9, ⟨tyX9, tyX9_ok, by decide +kernel⟩, nmX9, by decide +kernel, List.mem_of_getElem? (i := 265) (by decide +kernel), List.mem_of_getElem? (i := 117) (by decide +kernel)⟩
  | 10, h => cases h; exact ⟨iX10, ⟨tyX10, tyX10_ok, by decide +kernel⟩, nmX10, by decide +kernel, List.mem_of_getElem? (i := 143) (by decide +kernel), List.mem_of_getElem? (i := 113) (by decide +kernel)⟩
  | 11, h => cases h; exact ⟨iX11, ⟨tyX11, tyX11_ok, by decide +kernel⟩, nmX11, by decide +kernel, List.mem_of_getElem? (i := 135) (by decide +kernel), List.mem_of_getElem? (i := 112) (by decide +kernel)⟩
  | 12, h => cases h; exact ⟨iX12, ⟨tyX12, tyX12_ok, by decide +kernel⟩, nmX12, by decide +kernel, List.mem_of_getElem? (i := 1182) (by decide +kernel), List.mem_of_getElem? (i := 123) (by decide +kernel)⟩
  | i + 13, h => exact absurd (List.getElem?_eq_some_iff.mp h).1 (by simp [mjCl])
theorem mj_arrI : Cond.arrayClass .int ∈ lw_tbl := List.mem_of_getElem? (i := 176) (by decide +kernel)
theorem mj_arrB : Cond.arrayClass .byte ∈ lw_tbl := List.mem_of_getElem? (i := 175) (by decide +kernel)
theorem mj_arrZ : Cond.arrayClass .boolean ∈ lw_tbl := List.mem_of_getElem? (i := 447) (by decide +kernel)
theorem mj_arrJ : Cond.arrayClass .long ∈ lw_tbl := List.mem_of_getElem? (i := 768) (by decide +kernel)
theorem mj_acN : Cond.native arraycopyName ∈ lw_tbl := List.mem_of_getElem? (i := 700) (by decide +kernel)
theorem mj_acS : Cond.static arraycopyName ∈ lw_tbl := List.mem_of_getElem? (i := 699) (by decide +kernel)
theorem mj_acI : Cond.initialized "java/lang/System" ∈ lw_tbl := List.mem_of_getElem? (i := 131) (by decide +kernel)
theorem mj_oiI : Cond.instanceMethod Lib.objectInit ∈ lw_tbl := List.mem_of_getElem? (i := 140) (by decide +kernel)
theorem mj_oiC : Cond.code Lib.objectInit ⟨#[0xb1]⟩ 1 none ∈ lw_tbl := List.mem_of_getElem? (i := 141) (by decide +kernel)
theorem mj_maxS : Cond.static Lib.Math.max.name ∈ lw_tbl := List.mem_of_getElem? (i := 607) (by decide +kernel)
theorem mj_maxC : Cond.code Lib.Math.max.name Lib.Math.max.code 2 (some .int) ∈ lw_tbl := List.mem_of_getElem? (i := 608) (by decide +kernel)
theorem mj_minS : Cond.static Lib.Math.min.name ∈ lw_tbl := List.mem_of_getElem? (i := 610) (by decide +kernel)
theorem mj_minC : Cond.code Lib.Math.min.name Lib.Math.min.code 2 (some .int) ∈ lw_tbl := List.mem_of_getElem? (i := 611) (by decide +kernel)
theorem mj_absS : Cond.static Lib.Math.abs.name ∈ lw_tbl := List.mem_of_getElem? (i := 1041) (by decide +kernel)
theorem mj_absC : Cond.code Lib.Math.abs.name Lib.Math.abs.code 1 (some .int) ∈ lw_tbl := List.mem_of_getElem? (i := 1042) (by decide +kernel)
theorem mj_mathI : Cond.initialized "java/lang/Math" ∈ lw_tbl := List.mem_of_getElem? (i := 128) (by decide +kernel)
