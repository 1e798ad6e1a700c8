/-! ===== pure layer: bits ===== -/
theorem ofI_nat (x : Nat) : (Int32.ofInt (x : Int)).toBitVec = BitVec.ofNat 32 x := by
  rw [Int32.toBitVec_ofInt]
  exact BitVec.ofInt_natCast 32 x
theorem ior_nat {x y : Nat} (hx : x < 2147483648) (hy : y < 2147483648) : ior32 (x : Int) (y : Int) = ((x ||| y : Nat) : Int) := by
  unfold ior32
  have h : Int32.ofInt (x : Int) ||| Int32.ofInt (y : Int) = Int32.ofInt ((x ||| y : Nat) : Int) := by
    apply Int32.toBitVec_inj.1
    rw [Int32.toBitVec_or, ofI_nat, ofI_nat, ofI_nat]
    exact (BitVec.ofNat_or ..).symm
  rw [h]
  have : x ||| y < 2 ^ 31 := Nat.or_lt_two_pow hx hy
  exact toI_ofI ⟨by omega, by omega⟩
theorem iand_nat {x y : Nat} (hx : x < 2147483648) (hy : y < 2147483648) : iand32 (x : Int) (y : Int) = ((x &&& y : Nat) : Int) := by
  unfold iand32
  have h : Int32.ofInt (x : Int) &&& Int32.ofInt (y : Int) = Int32.ofInt ((x &&& y : Nat) : Int) := by
    apply Int32.toBitVec_inj.1
    rw [Int32.toBitVec_and, ofI_nat, ofI_nat, ofI_nat]
    exact (BitVec.ofNat_and ..).symm
  rw [h]
  have : x &&& y < 2 ^ 31 := Nat.and_lt_two_pow x hy
  exact toI_ofI ⟨by omega, by omega⟩
theorem ishl_1 {k : Nat} (h : k < 20) : ishl32 1 (k : Int) = ((2 ^ k : Nat) : Int) := by
  have : k = 0 ∨ k = 1 ∨ k = 2 ∨ k = 3 ∨ k = 4 ∨ k = 5 ∨ k = 6 ∨ k = 7 ∨ k = 8 ∨ k = 9 ∨ k = 10 ∨ k = 11 ∨ k = 12 ∨ k = 13 ∨ k = 14 ∨ k = 15 ∨ k = 16 ∨ k = 17 ∨ k = 18 ∨ k = 19 := by omega
  rcases this with rfl | rfl | rfl | rfl | rfl | rfl | rfl | rfl | rfl | rfl | rfl | rfl | rfl | rfl | rfl | rfl | rfl | rfl | rfl | rfl <;> decide
