/-! small numbers as ints -/
theorem nI_mul (a b : Nat) : nI a * nI b = nI (a * b) := by
  unfold nI
  rw [Int32.ofNat_mul]
theorem nI_sub {a b : Nat} (h : b ≤ a) : nI a - nI b = nI (a - b) := by
  have : nI a = nI (a - b) + nI b := by rw [nI_add, Nat.sub_add_cancel h]
  rw [this, Int32.add_sub_cancel]
theorem i_lit (n : Nat) : (OfNat.ofNat n : Int32) = nI n := rfl
theorem mjIn_nI {k n : Nat} (hk : k < 2 ^ 31) : mjIn (nI k) n ↔ k < n := by
  unfold mjIn
  rw [nI_clamp hk]
  exact ⟨fun h => h.2, fun h => ⟨nI_pos' hk, h⟩⟩
