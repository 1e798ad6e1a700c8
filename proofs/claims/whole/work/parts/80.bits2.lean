/-! ===== pure layer: bits of small sets, meters, remainders ===== -/
theorem ior_0 {x : Int} (h : inR x) : ior32 x 0 = x := by
  unfold ior32
  have e : Int32.ofInt x ||| Int32.ofInt 0 = Int32.ofInt x := by
    apply Int32.toBitVec_inj.1
    rw [Int32.toBitVec_or]
    show (Int32.ofInt x).toBitVec ||| (0#32) = _
    exact BitVec.or_zero
  rw [e, toI_ofI h]
theorem ixor_nat {x y : Nat} (hx : x < 2147483648) (hy : y < 2147483648) : ixor32 (x : Int) (y : Int) = ((x ^^^ y : Nat) : Int) := by
  unfold ixor32
  have h : Int32.ofInt (x : Int) ^^^ Int32.ofInt (y : Int) = Int32.ofInt ((x ^^^ y : Nat) : Int) := by
    apply Int32.toBitVec_inj.1
    rw [Int32.toBitVec_xor, ofI_nat, ofI_nat, ofI_nat]
    exact (BitVec.ofNat_xor ..).symm
  rw [h]
  have : x ^^^ y < 2 ^ 31 := Nat.xor_lt_two_pow hx hy
  exact toI_ofI ⟨by omega, by omega⟩
theorem smod_32 {k : Nat} (hk : k < 32) : (BitVec.ofNat 32 k).smod 32 = BitVec.ofNat 32 k := by
  have : ∀ i : Fin 32, (BitVec.ofNat 32 i.val).smod 32 = BitVec.ofNat 32 i.val := by decide +kernel
  exact this ⟨k, hk⟩
theorem ishr_nat {x k : Nat} (hx : x < 2147483648) (hk : k < 32) : ishr32 (x : Int) (k : Int) = ((x >>> k : Nat) : Int) := by
  unfold ishr32
  have hk' : (Int32.ofInt (k : Int) &&& 31).toBitVec = BitVec.ofNat 32 k := by
    have : Int32.ofInt (k : Int) &&& 31 = Int32.ofInt ((k &&& 31 : Nat) : Int) := by
      apply Int32.toBitVec_inj.1
      rw [Int32.toBitVec_and, ofI_nat, ofI_nat]
      exact (BitVec.ofNat_and ..).symm
    rw [this, ofI_nat]
    have : k &&& 31 = k := by
      rw [show (31 : Nat) = 2 ^ 5 - 1 from rfl, Nat.and_two_pow_sub_one_eq_mod]
      exact Nat.mod_eq_of_lt hk
    rw [this]
  have h : Int32.ofInt (x : Int) >>> (Int32.ofInt (k : Int) &&& 31) = Int32.ofInt ((x >>> k : Nat) : Int) := by
    apply Int32.toBitVec_inj.1
    rw [Int32.toBitVec_shiftRight, hk', ofI_nat, ofI_nat]
    rw [smod_32 hk, BitVec.sshiftRight_eq', BitVec.toNat_ofNat, Nat.mod_eq_of_lt (by omega), BitVec.sshiftRight_eq_of_msb_false (BitVec.msb_eq_false_iff_two_mul_lt.2 (by rw [BitVec.toNat_ofNat, Nat.mod_eq_of_lt (by omega)]; omega))]
    apply BitVec.eq_of_toNat_eq
    rw [BitVec.toNat_ushiftRight, BitVec.toNat_ofNat, BitVec.toNat_ofNat, Nat.mod_eq_of_lt (by omega)]
    have hle : x >>> k ≤ x := by rw [Nat.shiftRight_eq_div_pow]; exact Nat.div_le_self _ _
    exact (Nat.mod_eq_of_lt (Nat.lt_of_le_of_lt hle (Nat.lt_trans hx (by decide)))).symm
  rw [h]
  have hle : x >>> k ≤ x := by rw [Nat.shiftRight_eq_div_pow]; exact Nat.div_le_self _ _
  generalize x >>> k = w at hle
  exact toI_ofI ⟨by omega, by omega⟩
/-- a bit of a small set -/
theorem bit_nat {x k : Nat} (hx : x < 2147483648) (hk : k < 32) : iand32 (ishr32 (x : Int) (k : Int)) 1 = if x.testBit k then 1 else 0 := by
  rw [ishr_nat hx hk]
  have hle : x >>> k ≤ x := by rw [Nat.shiftRight_eq_div_pow]; exact Nat.div_le_self _ _
  have := iand_nat (x := x >>> k) (y := 1) (Nat.lt_of_le_of_lt hle hx) (by decide)
  rw [show ((1 : Nat) : Int) = 1 from rfl] at this
  rw [this, Nat.and_one_is_mod, Nat.shiftRight_eq_div_pow]
  have tb : x.testBit k = decide (x / 2 ^ k % 2 = 1) := Nat.testBit_eq_decide_div_mod_eq
  rw [tb]
  by_cases g : x / 2 ^ k % 2 = 1
  · rw [g]; simp
  · have : x / 2 ^ k % 2 = 0 := by omega
    rw [this]; simp
/-- meters, four bits each -/
def mt (a b d : Nat) : Nat := a + 16 * b + 256 * d
theorem mt_read : ∀ a b d : Fin 16, iand32 (ishr32 ((mt a.val b.val d.val : Nat) : Int) 0) 15 = (a.val : Int) ∧ iand32 (ishr32 ((mt a.val b.val d.val : Nat) : Int) 4) 15 = (b.val : Int) ∧ iand32 (ishr32 ((mt a.val b.val d.val : Nat) : Int) 8) 15 = (d.val : Int) := by decide +kernel
theorem mt_clear : ∀ a b d : Fin 16, iand32 ((mt a.val b.val d.val : Nat) : Int) (ixor32 (ishl32 15 0) (-1)) = ((mt 0 b.val d.val : Nat) : Int) ∧ iand32 ((mt a.val b.val d.val : Nat) : Int) (ixor32 (ishl32 15 4) (-1)) = ((mt a.val 0 d.val : Nat) : Int) ∧ iand32 ((mt a.val b.val d.val : Nat) : Int) (ixor32 (ishl32 15 8) (-1)) = ((mt a.val b.val 0 : Nat) : Int) := by decide +kernel
theorem mt_put0 : ∀ v b d : Fin 16, ior32 ((mt 0 b.val d.val : Nat) : Int) (ishl32 (v.val : Int) 0) = ((mt v.val b.val d.val : Nat) : Int) := by decide +kernel
theorem mt_put1 : ∀ a v d : Fin 16, ior32 ((mt a.val 0 d.val : Nat) : Int) (ishl32 (v.val : Int) 4) = ((mt a.val v.val d.val : Nat) : Int) := by decide +kernel
theorem mt_put2 : ∀ a b v : Fin 16, ior32 ((mt a.val b.val 0 : Nat) : Int) (ishl32 (v.val : Int) 8) = ((mt a.val b.val v.val : Nat) : Int) := by decide +kernel
