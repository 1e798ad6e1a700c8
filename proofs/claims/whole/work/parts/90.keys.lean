/-! ===== pure layer: long numbers; the key of a waiting state ===== -/
theorem ofL_nat (x : Nat) : (Int64.ofInt (x : Int)).toBitVec = BitVec.ofNat 64 x := by
  rw [Int64.toBitVec_ofInt]
  exact BitVec.ofInt_natCast 64 x
theorem toL_nat {x : Nat} (h : x < 9223372036854775808) : (Int64.ofInt (x : Int)).toInt = (x : Int) := Int64.toInt_ofInt_of_le (by omega) (by omega)
theorem lor_nat {x y : Nat} (hx : x < 2 ^ 63) (hy : y < 2 ^ 63) : lor64 (x : Int) (y : Int) = ((x ||| y : Nat) : Int) := by
  unfold lor64
  have h : Int64.ofInt (x : Int) ||| Int64.ofInt (y : Int) = Int64.ofInt ((x ||| y : Nat) : Int) := by
    apply Int64.toBitVec_inj.1
    rw [Int64.toBitVec_or, ofL_nat, ofL_nat, ofL_nat]
    exact (BitVec.ofNat_or ..).symm
  rw [h]
  exact toL_nat (Nat.or_lt_two_pow hx hy)
theorem land_nat {x y : Nat} (hy : y < 2 ^ 63) : land64 (x : Int) (y : Int) = ((x &&& y : Nat) : Int) := by
  unfold land64
  have h : Int64.ofInt (x : Int) &&& Int64.ofInt (y : Int) = Int64.ofInt ((x &&& y : Nat) : Int) := by
    apply Int64.toBitVec_inj.1
    rw [Int64.toBitVec_and, ofL_nat, ofL_nat, ofL_nat]
    exact (BitVec.ofNat_and ..).symm
  rw [h]
  exact toL_nat (Nat.and_lt_two_pow x hy)
theorem sh64 : ∀ i : Fin 64, ((Int32.ofInt (i.val : Int)).toInt64 &&& 63).toBitVec.smod 64 = BitVec.ofNat 64 i.val := by decide +kernel
theorem lshl_nat {x k : Nat} (hk : k < 64) (h : x * 2 ^ k < 2 ^ 63) : lshl64 (x : Int) (k : Int) = ((x * 2 ^ k : Nat) : Int) := by
  unfold lshl64
  have e : Int64.ofInt (x : Int) <<< ((Int32.ofInt (k : Int)).toInt64 &&& 63) = Int64.ofInt ((x * 2 ^ k : Nat) : Int) := by
    apply Int64.toBitVec_inj.1
    rw [Int64.toBitVec_shiftLeft, sh64 ⟨k, hk⟩, ofL_nat, ofL_nat, BitVec.shiftLeft_eq']
    apply BitVec.eq_of_toNat_eq
    rw [BitVec.toNat_shiftLeft, BitVec.toNat_ofNat, BitVec.toNat_ofNat, BitVec.toNat_ofNat, Nat.mod_eq_of_lt (show k < 2 ^ 64 from Nat.lt_trans hk (by decide)), Nat.shiftLeft_eq, Nat.mod_mul_mod]
  rw [e]
  exact toL_nat h
theorem lshr_nat {x k : Nat} (hk : k < 64) (h : x < 2 ^ 63) : lshr64 (x : Int) (k : Int) = ((x / 2 ^ k : Nat) : Int) := by
  have h2 : (9223372036854775808 : Nat) = 2 ^ 63 := rfl
  unfold lshr64
  have hle : x / 2 ^ k ≤ x := Nat.div_le_self _ _
  have e : Int64.ofInt (x : Int) >>> ((Int32.ofInt (k : Int)).toInt64 &&& 63) = Int64.ofInt ((x / 2 ^ k : Nat) : Int) := by
    apply Int64.toBitVec_inj.1
    rw [Int64.toBitVec_shiftRight, sh64 ⟨k, hk⟩, ofL_nat, ofL_nat, BitVec.sshiftRight_eq', BitVec.toNat_ofNat, Nat.mod_eq_of_lt (show k < 2 ^ 64 from Nat.lt_trans hk (by decide)), BitVec.sshiftRight_eq_of_msb_false (BitVec.msb_eq_false_iff_two_mul_lt.2 (by rw [BitVec.toNat_ofNat, Nat.mod_eq_of_lt (by omega)]; omega))]
    apply BitVec.eq_of_toNat_eq
    rw [BitVec.toNat_ushiftRight, BitVec.toNat_ofNat, BitVec.toNat_ofNat, Nat.mod_eq_of_lt (by omega), Nat.shiftRight_eq_div_pow]
    exact (Nat.mod_eq_of_lt (Nat.lt_of_le_of_lt hle (Nat.lt_trans h (by decide)))).symm
  rw [e]
  exact toL_nat (Nat.lt_of_le_of_lt hle h)
theorem l2i_nat {x : Nat} (h : x < 2147483648) : l2i32 (x : Int) = (x : Int) := by
  unfold l2i32
  rw [Int64.toInt32_ofInt]
  exact toI_ofI ⟨by omega, by omega⟩
/-- a field of a long -/
theorem lfield {x k b : Nat} (hk : k < 64) (hb : b < 31) (h : x < 2 ^ 63) : l2i32 (land64 (lshr64 (x : Int) (k : Int)) ((2 ^ b - 1 : Nat) : Int)) = ((x / 2 ^ k % 2 ^ b : Nat) : Int) := by
  have p1 : 2 ^ b ≤ 2 ^ 30 := Nat.pow_le_pow_right (by decide) (by omega)
  have p2 : (2 : Nat) ^ 30 < 2 ^ 63 := by decide
  have p3 : 0 < 2 ^ b := Nat.pow_pos (by decide)
  rw [lshr_nat hk h, land_nat (by omega), Nat.and_two_pow_sub_one_eq_mod]
  have : x / 2 ^ k % 2 ^ b < 2 ^ b := Nat.mod_lt _ p3
  have p4 : (2 : Nat) ^ 30 = 1073741824 := rfl
  exact l2i_nat (by omega)
theorem lpush {x k y : Nat} (hk : k < 64) (hy : y < 2 ^ k) (hy2 : y < 2147483648) (h : x * 2 ^ k + y < 2 ^ 63) : lor64 (lshl64 (x : Int) (k : Int)) (i2l64 (y : Int)) = ((x * 2 ^ k + y : Nat) : Int) := by
  rw [i2l_eq ⟨by omega, by omega⟩, lshl_nat hk (by omega), lor_nat (by omega) (Nat.lt_trans hy2 (by decide))]
  have := Nat.two_pow_add_eq_or_of_lt hy x
  rw [Nat.mul_comm x (2 ^ k), ← this]
/-- the key -/
def kyn (o t w f h n : Nat) : Nat := ((((o * 65536 + t) * 4096 + w) * 64 + f) * 16 + h) * 16 + n
theorem kyn_lt {o t w f h n : Nat} (ho : o < 65536) (ht : t < 65536) (hw : w < 4096) (hf : f < 64) (hh : h < 16) (hn : n < 16) : kyn o t w f h n < 2 ^ 58 := by
  have : (2 : Nat) ^ 58 = 288230376151711744 := rfl
  unfold kyn; omega
theorem kyn_inj {o t w f h n o' t' w' f' h' n' : Nat} (ho : o < 65536) (ht : t < 65536) (hw : w < 4096) (hf : f < 64) (hh : h < 16) (hn : n < 16) (ho' : o' < 65536) (ht' : t' < 65536) (hw' : w' < 4096) (hf' : f' < 64) (hh' : h' < 16) (hn' : n' < 16) (e : kyn o t w f h n = kyn o' t' w' f' h' n') : o = o' ∧ t = t' ∧ w = w' ∧ f = f' ∧ h = h' ∧ n = n' := by
  unfold kyn at e
  omega
theorem t_key {P o t w f h n : Nat} {c : St} {Q : St → Int → Prop} (hP : isP P) (h8 : c P 8 = (o : Int)) (h7 : c P 7 = (t : Int)) (h6 : c P 6 = (w : Int)) (h5 : c P 5 = (f : Int)) (h4 : c P 4 + 1 = (h : Int)) (h3 : c P 3 = (n : Int)) (ho : o < 65536) (ht : t < 65536) (hw : w < 4096) (hf : f < 64) (hh : h < 16) (hn : n < 16) (hQ : Q c ((kyn o t w f h n : Nat) : Int)) : f_X5_key P c Q := by
  have p63 : (2 : Nat) ^ 63 = 9223372036854775808 := rfl
  unfold f_X5_key
  rw [h8, h7, h6, h5, h4, h3]
  refine ⟨hP, ?_⟩
  intro x1 e1 x2 e2 x3 e3 x4 e4 x5 e5
  rw [i2l_eq ⟨by omega, by omega⟩] at e1
  have q2 : lor64 (lshl64 (o : Int) 16) (i2l64 (t : Int)) = ((o * 65536 + t : Nat) : Int) := lpush (k := 16) (by decide) (by omega) (by omega) (by omega)
  rw [e1, q2] at e2
  have q3 : lor64 (lshl64 ((o * 65536 + t : Nat) : Int) 12) (i2l64 (w : Int)) = (((o * 65536 + t) * 4096 + w : Nat) : Int) := lpush (k := 12) (by decide) (by omega) (by omega) (by omega)
  rw [e2, q3] at e3
  have q4 : lor64 (lshl64 (((o * 65536 + t) * 4096 + w : Nat) : Int) 6) (i2l64 (f : Int)) = ((((o * 65536 + t) * 4096 + w) * 64 + f : Nat) : Int) := lpush (k := 6) (by decide) (by omega) (by omega) (by omega)
  rw [e3, q4] at e4
  have q5 : lor64 (lshl64 ((((o * 65536 + t) * 4096 + w) * 64 + f : Nat) : Int) 4) (i2l64 (h : Int)) = (((((o * 65536 + t) * 4096 + w) * 64 + f) * 16 + h : Nat) : Int) := lpush (k := 4) (by decide) (by omega) (by omega) (by omega)
  rw [e4, q5] at e5
  have q6 : lor64 (lshl64 (((((o * 65536 + t) * 4096 + w) * 64 + f) * 16 + h : Nat) : Int) 4) (i2l64 (n : Int)) = ((kyn o t w f h n : Nat) : Int) := lpush (k := 4) (by decide) (by omega) (by omega) (by omega)
  rw [e5, q6]
  exact hQ
/-- the play behind restore -/
def cRs (c : St) (P : Nat) (o t w f h n : Nat) : St := sset (sset (sset (sset (sset (sset (sset c P 3 (n : Int)) P 4 ((h : Int) - 1)) P 5 (f : Int)) P 6 (w : Int)) P 7 (t : Int)) P 8 (o : Int)) P 1 1
theorem t_restore {P o t w f h n : Nat} {c : St} {Q : St → Prop} (hP : isP P) (ho : o < 65536) (ht : t < 65536) (hw : w < 4096) (hf : f < 64) (hh : h < 16) (hn : n < 16) (hQ : Q (cRs c P o t w f h n)) : f_X5_restore P ((kyn o t w f h n : Nat) : Int) c Q := by
  have hlt := kyn_lt ho ht hw hf hh hn
  have hlt2 : kyn o t w f h n < 2 ^ 63 := Nat.lt_trans hlt (by decide)
  have ek : kyn o t w f h n = ((((o * 65536 + t) * 4096 + w) * 64 + f) * 16 + h) * 16 + n := rfl
  have q1 : l2i32 (land64 ((kyn o t w f h n : Nat) : Int) 15) = (n : Int) := by
    have a : land64 ((kyn o t w f h n : Nat) : Int) 15 = ((kyn o t w f h n &&& 15 : Nat) : Int) := land_nat (y := 15) (by decide)
    rw [a, show kyn o t w f h n &&& 15 = kyn o t w f h n % 16 from Nat.and_two_pow_sub_one_eq_mod _ 4, show kyn o t w f h n % 16 = n by omega]
    exact l2i_nat (by omega)
  have q2 : l2i32 (land64 (lshr64 ((kyn o t w f h n : Nat) : Int) 4) 15) = (h : Int) := by
    have a : l2i32 (land64 (lshr64 ((kyn o t w f h n : Nat) : Int) 4) 15) = ((kyn o t w f h n / 2 ^ 4 % 2 ^ 4 : Nat) : Int) := lfield (k := 4) (b := 4) (by decide) (by decide) hlt2
    rw [a, show kyn o t w f h n / 2 ^ 4 % 2 ^ 4 = h by omega]
  have q3 : l2i32 (land64 (lshr64 ((kyn o t w f h n : Nat) : Int) 8) 63) = (f : Int) := by
    have a : l2i32 (land64 (lshr64 ((kyn o t w f h n : Nat) : Int) 8) 63) = ((kyn o t w f h n / 2 ^ 8 % 2 ^ 6 : Nat) : Int) := lfield (k := 8) (b := 6) (by decide) (by decide) hlt2
    rw [a, show kyn o t w f h n / 2 ^ 8 % 2 ^ 6 = f by omega]
  have q4 : l2i32 (land64 (lshr64 ((kyn o t w f h n : Nat) : Int) 14) 4095) = (w : Int) := by
    have a : l2i32 (land64 (lshr64 ((kyn o t w f h n : Nat) : Int) 14) 4095) = ((kyn o t w f h n / 2 ^ 14 % 2 ^ 12 : Nat) : Int) := lfield (k := 14) (b := 12) (by decide) (by decide) hlt2
    rw [a, show kyn o t w f h n / 2 ^ 14 % 2 ^ 12 = w by omega]
  have q5 : l2i32 (land64 (lshr64 ((kyn o t w f h n : Nat) : Int) 26) 65535) = (t : Int) := by
    have a : l2i32 (land64 (lshr64 ((kyn o t w f h n : Nat) : Int) 26) 65535) = ((kyn o t w f h n / 2 ^ 26 % 2 ^ 16 : Nat) : Int) := lfield (k := 26) (b := 16) (by decide) (by decide) hlt2
    rw [a, show kyn o t w f h n / 2 ^ 26 % 2 ^ 16 = t by omega]
  have q6 : l2i32 (land64 (lshr64 ((kyn o t w f h n : Nat) : Int) 42) 65535) = (o : Int) := by
    have a : l2i32 (land64 (lshr64 ((kyn o t w f h n : Nat) : Int) 42) 65535) = ((kyn o t w f h n / 2 ^ 42 % 2 ^ 16 : Nat) : Int) := lfield (k := 42) (b := 16) (by decide) (by decide) hlt2
    rw [a, show kyn o t w f h n / 2 ^ 42 % 2 ^ 16 = o by omega]
  unfold f_X5_restore
  rw [q1, q2, q3, q4, q5, q6]
  refine ⟨hP, fun σ1 e1 σ2 e2 σ3 e3 σ4 e4 σ5 e5 σ6 e6 σ7 e7 => ?_⟩
  rw [e7, e6, e5, e4, e3, e2, e1]
  exact hQ
theorem cRs_row {P o t w f h n q : Nat} {c : St} (hq : q ≠ P) : cRs c P o t w f h n q = c q := by
  unfold cRs
  rw [sset_row _ _ _ hq, sset_row _ _ _ hq, sset_row _ _ _ hq, sset_row _ _ _ hq, sset_row _ _ _ hq, sset_row _ _ _ hq, sset_row _ _ _ hq]
theorem cRs_at {P o t w f h n : Nat} {c : St} : cRs c P o t w f h n P 0 = c P 0 ∧ cRs c P o t w f h n P 1 = 1 ∧ cRs c P o t w f h n P 3 = (n : Int) ∧ cRs c P o t w f h n P 4 = (h : Int) - 1 ∧ cRs c P o t w f h n P 5 = (f : Int) ∧ cRs c P o t w f h n P 6 = (w : Int) ∧ cRs c P o t w f h n P 7 = (t : Int) ∧ cRs c P o t w f h n P 8 = (o : Int) ∧ cRs c P o t w f h n P 9 = c P 9 := by
  unfold cRs
  refine ⟨?_, ?_, ?_, ?_, ?_, ?_, ?_, ?_, ?_⟩ <;> simp [sset_ap]
