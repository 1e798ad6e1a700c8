/-! ===== pure layer: knowledge in one long number: the class's operations ===== -/
theorem lclr_nat {x y : Nat} (hx : x < 2 ^ 63) : land64 (x : Int) (lxor64 (y : Int) (-1)) = ((clr x y : Nat) : Int) := by
  unfold land64 lxor64
  have h : Int64.ofInt (x : Int) &&& Int64.ofInt (Int64.ofInt (y : Int) ^^^ Int64.ofInt (-1)).toInt = Int64.ofInt ((clr x y : Nat) : Int) := by
    rw [Int64.ofInt_toInt]
    apply Int64.toBitVec_inj.1
    have e1 : (Int64.ofInt (-1)).toBitVec = BitVec.allOnes 64 := by decide
    rw [Int64.toBitVec_and, Int64.toBitVec_xor, ofL_nat, ofL_nat, ofL_nat, e1]
    apply BitVec.eq_of_getLsbD_eq
    intro i hi
    rw [BitVec.getLsbD_and, BitVec.getLsbD_xor, BitVec.getLsbD_ofNat, BitVec.getLsbD_ofNat, BitVec.getLsbD_ofNat, BitVec.getLsbD_allOnes, clr_tb]
    cases x.testBit i <;> cases y.testBit i <;> simp [hi]
  rw [h]
  exact toL_nat (clr_lt hx)
theorem iclr_nat {x y : Nat} (hx : x < 2147483648) : iand32 (x : Int) (ixor32 (y : Int) (-1)) = ((clr x y : Nat) : Int) := by
  unfold iand32 ixor32
  have h : Int32.ofInt (x : Int) &&& Int32.ofInt (Int32.ofInt (y : Int) ^^^ Int32.ofInt (-1)).toInt = Int32.ofInt ((clr x y : Nat) : Int) := by
    rw [Int32.ofInt_toInt]
    apply Int32.toBitVec_inj.1
    have e1 : (Int32.ofInt (-1)).toBitVec = BitVec.allOnes 32 := by decide
    rw [Int32.toBitVec_and, Int32.toBitVec_xor, ofI_nat, ofI_nat, ofI_nat, e1]
    apply BitVec.eq_of_getLsbD_eq
    intro i hi
    rw [BitVec.getLsbD_and, BitVec.getLsbD_xor, BitVec.getLsbD_ofNat, BitVec.getLsbD_ofNat, BitVec.getLsbD_ofNat, BitVec.getLsbD_allOnes, clr_tb]
    cases x.testBit i <;> cases y.testBit i <;> simp [hi]
  rw [h]
  have : clr x y < 2 ^ 31 := clr_lt hx
  exact toI_ofI ⟨by omega, by omega⟩
/-- three fields of a number -/
def cat3 (lo f hi a b : Nat) : Nat := 2 ^ a * (2 ^ b * hi + f) + lo
theorem cat3_tb {lo f hi a b : Nat} (h1 : lo < 2 ^ a) (h2 : f < 2 ^ b) (j : Nat) : (cat3 lo f hi a b).testBit j = if j < a then lo.testBit j else if j - a < b then f.testBit (j - a) else hi.testBit (j - a - b) := by
  unfold cat3
  rw [Nat.testBit_two_pow_mul_add _ h1]
  by_cases g : j < a
  · rw [if_pos g, if_pos g]
  · rw [if_neg g, if_neg g, Nat.testBit_two_pow_mul_add _ h2]
theorem cat3_clr {lo f hi a b y : Nat} (h1 : lo < 2 ^ a) (h2 : f < 2 ^ b) (hy : y < 2 ^ b) : clr (cat3 lo f hi a b) (y * 2 ^ a) = cat3 lo (clr f y) hi a b := by
  apply Nat.eq_of_testBit_eq
  intro j
  rw [clr_tb, cat3_tb h1 h2, cat3_tb h1 (clr_lt h2), Nat.testBit_mul_two_pow]
  by_cases g : j < a
  · rw [if_pos g, if_pos g, decide_eq_false (by omega)]
    simp
  · rw [if_neg g, if_neg g, decide_eq_true (by omega), Bool.true_and]
    by_cases g2 : j - a < b
    · rw [if_pos g2, if_pos g2, clr_tb]
    · rw [if_neg g2, if_neg g2]
      have : y.testBit (j - a) = false := tb_hi hy (by omega)
      rw [this]; simp
theorem cat3_or {lo f hi a b y : Nat} (h1 : lo < 2 ^ a) (h2 : f < 2 ^ b) (hy : y < 2 ^ b) : cat3 lo f hi a b ||| (y * 2 ^ a) = cat3 lo (f ||| y) hi a b := by
  apply Nat.eq_of_testBit_eq
  intro j
  rw [Nat.testBit_or, cat3_tb h1 h2, cat3_tb h1 (Nat.or_lt_two_pow h2 hy), Nat.testBit_mul_two_pow]
  by_cases g : j < a
  · rw [if_pos g, if_pos g, decide_eq_false (by omega)]
    simp
  · rw [if_neg g, if_neg g, decide_eq_true (by omega), Bool.true_and]
    by_cases g2 : j - a < b
    · rw [if_pos g2, if_pos g2, Nat.testBit_or]
    · rw [if_neg g2, if_neg g2]
      have : y.testBit (j - a) = false := tb_hi hy (by omega)
      rw [this]; simp
theorem cat2_or {x y a b k : Nat} (ha : a < 2 ^ k) (hb : b < 2 ^ k) : (2 ^ k * x + a) ||| (2 ^ k * y + b) = 2 ^ k * (x ||| y) + (a ||| b) := by
  apply Nat.eq_of_testBit_eq
  intro j
  rw [Nat.testBit_or, Nat.testBit_two_pow_mul_add _ ha, Nat.testBit_two_pow_mul_add _ hb, Nat.testBit_two_pow_mul_add _ (Nat.or_lt_two_pow ha hb)]
  by_cases g : j < k
  · rw [if_pos g, if_pos g, if_pos g, Nat.testBit_or]
  · rw [if_neg g, if_neg g, if_neg g, Nat.testBit_or]
theorem clr_or (x y w : Nat) : clr x (y ||| w) = clr (clr x y) w := by
  apply Nat.eq_of_testBit_eq
  intro j
  rw [clr_tb, clr_tb, clr_tb, Nat.testBit_or]
  cases x.testBit j <;> cases y.testBit j <;> cases w.testBit j <;> rfl
/-- the number -/
def R6 (a : Nat → Nat) : Nat := a 0 + 16 * a 1 + 256 * a 2 + 4096 * a 3 + 65536 * a 4 + 1048576 * a 5
def pk (a : Nat → Nat) (V U : Nat) : Nat := R6 a + 16777216 * (V + 4096 * U)
theorem R6_lt {a : Nat → Nat} (h : ∀ i, i < 6 → a i < 16) : R6 a < 16777216 := by
  have h0 := h 0 (by omega); have h1 := h 1 (by omega); have h2 := h 2 (by omega); have h3 := h 3 (by omega); have h4 := h 4 (by omega); have h5 := h 5 (by omega)
  unfold R6; omega
theorem pkn_lt {a : Nat → Nat} {V U : Nat} (h : ∀ i, i < 6 → a i < 16) (hV : V < 4096) (hU : U < 8192) : pk a V U < 562949953421312 := by
  have := R6_lt h
  unfold pk; omega
theorem R6_up {a : Nat → Nat} {v : Nat} : R6 (va_up a 0 v) + a 0 = R6 a + v ∧ R6 (va_up a 1 v) + 16 * a 1 = R6 a + 16 * v ∧ R6 (va_up a 2 v) + 256 * a 2 = R6 a + 256 * v ∧ R6 (va_up a 3 v) + 4096 * a 3 = R6 a + 4096 * v ∧ R6 (va_up a 4 v) + 65536 * a 4 = R6 a + 65536 * v ∧ R6 (va_up a 5 v) + 1048576 * a 5 = R6 a + 1048576 * v := by
  unfold R6 va_up
  simp
  omega
theorem pk_cat {a : Nat → Nat} {V U j : Nat} (h : ∀ i, i < 6 → a i < 16) (hj : j < 6) : ∃ lo hi, lo < 2 ^ (4 * j) ∧ ∀ v, pk (va_up a j v) V U = cat3 lo v hi (4 * j) 4 := by
  have h0 := h 0 (by omega); have h1 := h 1 (by omega); have h2 := h 2 (by omega); have h3 := h 3 (by omega); have h4 := h 4 (by omega)
  have : j = 0 ∨ j = 1 ∨ j = 2 ∨ j = 3 ∨ j = 4 ∨ j = 5 := by omega
  rcases this with rfl | rfl | rfl | rfl | rfl | rfl
  · refine ⟨0, a 1 + 16 * a 2 + 256 * a 3 + 4096 * a 4 + 65536 * a 5 + 1048576 * (V + 4096 * U), by decide, fun v => ?_⟩
    have := (R6_up (a := a) (v := v)).1
    have e : R6 a = a 0 + 16 * a 1 + 256 * a 2 + 4096 * a 3 + 65536 * a 4 + 1048576 * a 5 := rfl
    unfold pk cat3
    rw [show 2 ^ (4 * 0) = 1 from rfl, show (2 : Nat) ^ 4 = 16 from rfl]
    omega
  · refine ⟨a 0, a 2 + 16 * a 3 + 256 * a 4 + 4096 * a 5 + 65536 * (V + 4096 * U), by rw [show 2 ^ (4 * 1) = 16 from rfl]; omega, fun v => ?_⟩
    have := (R6_up (a := a) (v := v)).2.1
    have e : R6 a = a 0 + 16 * a 1 + 256 * a 2 + 4096 * a 3 + 65536 * a 4 + 1048576 * a 5 := rfl
    unfold pk cat3
    rw [show 2 ^ (4 * 1) = 16 from rfl]
    omega
  · refine ⟨a 0 + 16 * a 1, a 3 + 16 * a 4 + 256 * a 5 + 4096 * (V + 4096 * U), by rw [show 2 ^ (4 * 2) = 256 from rfl]; omega, fun v => ?_⟩
    have := (R6_up (a := a) (v := v)).2.2.1
    have e : R6 a = a 0 + 16 * a 1 + 256 * a 2 + 4096 * a 3 + 65536 * a 4 + 1048576 * a 5 := rfl
    unfold pk cat3
    rw [show 2 ^ (4 * 2) = 256 from rfl, show (2 : Nat) ^ 4 = 16 from rfl]
    omega
  · refine ⟨a 0 + 16 * a 1 + 256 * a 2, a 4 + 16 * a 5 + 256 * (V + 4096 * U), by rw [show 2 ^ (4 * 3) = 4096 from rfl]; omega, fun v => ?_⟩
    have := (R6_up (a := a) (v := v)).2.2.2.1
    have e : R6 a = a 0 + 16 * a 1 + 256 * a 2 + 4096 * a 3 + 65536 * a 4 + 1048576 * a 5 := rfl
    unfold pk cat3
    rw [show 2 ^ (4 * 3) = 4096 from rfl, show (2 : Nat) ^ 4 = 16 from rfl]
    omega
  · refine ⟨a 0 + 16 * a 1 + 256 * a 2 + 4096 * a 3, a 5 + 16 * (V + 4096 * U), by rw [show 2 ^ (4 * 4) = 65536 from rfl]; omega, fun v => ?_⟩
    have := (R6_up (a := a) (v := v)).2.2.2.2.1
    have e : R6 a = a 0 + 16 * a 1 + 256 * a 2 + 4096 * a 3 + 65536 * a 4 + 1048576 * a 5 := rfl
    unfold pk cat3
    rw [show 2 ^ (4 * 4) = 65536 from rfl, show (2 : Nat) ^ 4 = 16 from rfl]
    omega
  · refine ⟨a 0 + 16 * a 1 + 256 * a 2 + 4096 * a 3 + 65536 * a 4, V + 4096 * U, by rw [show 2 ^ (4 * 5) = 1048576 from rfl]; omega, fun v => ?_⟩
    have := (R6_up (a := a) (v := v)).2.2.2.2.2
    have e : R6 a = a 0 + 16 * a 1 + 256 * a 2 + 4096 * a 3 + 65536 * a 4 + 1048576 * a 5 := rfl
    unfold pk cat3
    rw [show 2 ^ (4 * 5) = 1048576 from rfl, show (2 : Nat) ^ 4 = 16 from rfl]
    omega
theorem up_self (a : Nat → Nat) (j : Nat) : va_up a j (a j) = a := by
  funext i
  by_cases g : i = j
  · subst g; rw [vu_eq]
  · rw [vu_ne _ _ g]
theorem clr_15 : ∀ f : Fin 16, clr f.val 15 = 0 := by decide
theorem pk_clr {a : Nat → Nat} {V U j : Nat} (h : ∀ i, i < 6 → a i < 16) (hj : j < 6) : clr (pk a V U) (15 * 2 ^ (4 * j)) = pk (va_up a j 0) V U := by
  obtain ⟨lo, hi, h1, h2⟩ := pk_cat (V := V) (U := U) h hj
  have e := h2 (a j)
  rw [up_self] at e
  rw [e, cat3_clr h1 (h j hj) (by decide), h2 0]
  have := clr_15 ⟨a j, h j hj⟩
  rw [show clr (a j) 15 = 0 from this]
theorem pk_or {a : Nat → Nat} {V U j y : Nat} (h : ∀ i, i < 6 → a i < 16) (hj : j < 6) (hz : a j = 0) (hy : y < 16) : pk a V U ||| (y * 2 ^ (4 * j)) = pk (va_up a j y) V U := by
  obtain ⟨lo, hi, h1, h2⟩ := pk_cat (V := V) (U := U) h hj
  have e := h2 (a j)
  rw [up_self] at e
  rw [e, cat3_or h1 (h j hj) hy, h2 y, hz, Nat.zero_or]
theorem up_16 {a : Nat → Nat} {j v : Nat} (h : ∀ i, i < 6 → a i < 16) (hv : v < 16) : ∀ i, i < 6 → va_up a j v i < 16 := by
  intro i hi
  by_cases g : i = j
  · subst g; rw [vu_eq]; exact hv
  · rw [vu_ne _ _ g]; exact h i hi
theorem pk_fld {a : Nat → Nat} {V U j : Nat} (h : ∀ i, i < 6 → a i < 16) (hj : j < 6) : pk a V U / 2 ^ (4 * j) % 2 ^ 4 = a j := by
  obtain ⟨lo, hi, h1, h2⟩ := pk_cat (V := V) (U := U) h hj
  have e := h2 (a j)
  rw [up_self] at e
  have hpos : 0 < 2 ^ (4 * j) := Nat.pow_pos (by decide)
  rw [e]
  unfold cat3
  rw [Nat.mul_add_div hpos, Nat.div_eq_of_lt h1, Nat.add_zero, Nat.mul_add_mod, Nat.mod_eq_of_lt (h j hj)]
section LOPS
variable {c : St} {Q : St → Int → Prop} {a : Nat → Nat} {V U : Nat}
theorem l_fld {j : Nat} {k : Int} (h : ∀ i, i < 6 → a i < 16) (hV : V < 4096) (hU : U < 8192) (hj : j < 6) (hk : k = ((4 * j : Nat) : Int)) : l2i32 (land64 (lshr64 ((pk a V U : Nat) : Int) k) 15) = (a j : Int) := by
  have hlt := pkn_lt h hV hU
  have e : l2i32 (land64 (lshr64 ((pk a V U : Nat) : Int) ((4 * j : Nat) : Int)) 15) = ((pk a V U / 2 ^ (4 * j) % 2 ^ 4 : Nat) : Int) := lfield (k := 4 * j) (b := 4) (by omega) (by decide) (Nat.lt_trans hlt (by decide))
  rw [hk, e, pk_fld h hj]
theorem t_low {x : Nat} (h : ∀ i, i < 6 → a i < 16) (hV : V < 4096) (hU : U < 8192) (hx : x < 3) (hQ : Q c (a x : Int)) : f_X3_low ((pk a V U : Nat) : Int) (x : Int) c Q := by
  unfold f_X3_low
  rw [l_fld (j := x) h hV hU (by omega) (by omega)]; exact hQ
theorem t_high {x : Nat} (h : ∀ i, i < 6 → a i < 16) (hV : V < 4096) (hU : U < 8192) (hx : x < 3) (hQ : Q c (a (3 + x) : Int)) : f_X3_high ((pk a V U : Nat) : Int) (x : Int) c Q := by
  unfold f_X3_high
  rw [l_fld (j := 3 + x) h hV hU (by omega) (by omega)]; exact hQ
/-- low and high of what is no meter: any number will do -/
theorem t_lowx {x : Nat} (h : ∀ i, i < 6 → a i < 16) (hV : V < 4096) (hU : U < 8192) (hx : x < 6) (hQ : ∀ r : Int, 0 ≤ r → r < 16 → Q c r) : f_X3_low ((pk a V U : Nat) : Int) (x : Int) c Q := by
  have hlt := pkn_lt h hV hU
  have e : l2i32 (land64 (lshr64 ((pk a V U : Nat) : Int) ((4 * x : Nat) : Int)) 15) = ((pk a V U / 2 ^ (4 * x) % 2 ^ 4 : Nat) : Int) := lfield (k := 4 * x) (b := 4) (by omega) (by decide) (Nat.lt_trans hlt (by decide))
  unfold f_X3_low
  rw [show (4 : Int) * (x : Int) = ((4 * x : Nat) : Int) by omega, e]
  have : pk a V U / 2 ^ (4 * x) % 2 ^ 4 < 2 ^ 4 := Nat.mod_lt _ (by decide)
  exact hQ _ (by omega) (by omega)
theorem t_highx {x : Nat} (h : ∀ i, i < 6 → a i < 16) (hV : V < 4096) (hU : U < 8192) (hx : x < 6) (hQ : ∀ r : Int, 0 ≤ r → r < 16 → Q c r) : f_X3_high ((pk a V U : Nat) : Int) (x : Int) c Q := by
  have hlt := pkn_lt h hV hU
  have e : l2i32 (land64 (lshr64 ((pk a V U : Nat) : Int) ((12 + 4 * x : Nat) : Int)) 15) = ((pk a V U / 2 ^ (12 + 4 * x) % 2 ^ 4 : Nat) : Int) := lfield (k := 12 + 4 * x) (b := 4) (by omega) (by decide) (Nat.lt_trans hlt (by decide))
  unfold f_X3_high
  rw [show 12 + (4 : Int) * (x : Int) = ((12 + 4 * x : Nat) : Int) by omega, e]
  have : pk a V U / 2 ^ (12 + 4 * x) % 2 ^ 4 < 2 ^ 4 := Nat.mod_lt _ (by decide)
  exact hQ _ (by omega) (by omega)
theorem t_withRange {x l u : Nat} (h : ∀ i, i < 6 → a i < 16) (hV : V < 4096) (hU : U < 8192) (hx : x < 3) (hl : l < 16) (hu : u < 16) (hlu : l ≤ u) (hQ : Q c ((pk (va_up (va_up a x l) (3 + x) u) V U : Nat) : Int)) : f_X3_withRange ((pk a V U : Nat) : Int) (x : Int) (l : Int) (u : Int) c Q := by
  have hlt := pkn_lt h hV hU
  have p63 : (2 : Nat) ^ 63 = 9223372036854775808 := rfl
  have px : 2 ^ (4 * x) ≤ 2 ^ 8 := Nat.pow_le_pow_right (by decide) (by omega)
  have px3 : 2 ^ (4 * (3 + x)) ≤ 2 ^ 20 := Nat.pow_le_pow_right (by decide) (by omega)
  have p8 : (2 : Nat) ^ 8 = 256 := rfl
  have p20 : (2 : Nat) ^ 20 = 1048576 := rfl
  unfold f_X3_withRange
  refine ⟨⟨by omega, by omega⟩, ⟨by omega, by omega⟩, fun _ => ?_, fun g => by omega⟩
  intro x1 e1 x2 e2 x3 e3
  have e1' : x1 = ((4 * x : Nat) : Int) := by omega
  have e2' : x2 = ((4 * (3 + x) : Nat) : Int) := by omega
  have m15 : ∀ y : Nat, y < 16 → y * 2 ^ (4 * x) < 2 ^ 63 ∧ y * 2 ^ (4 * (3 + x)) < 2 ^ 63 := by
    intro y hy
    constructor
    · exact Nat.lt_of_le_of_lt (Nat.mul_le_mul (Nat.le_of_lt_succ (Nat.lt_succ_of_lt hy)) px) (by decide)
    · exact Nat.lt_of_le_of_lt (Nat.mul_le_mul (Nat.le_of_lt_succ (Nat.lt_succ_of_lt hy)) px3) (by decide)
  have s1 : lshl64 15 ((4 * x : Nat) : Int) = ((15 * 2 ^ (4 * x) : Nat) : Int) := lshl_nat (x := 15) (by omega) (m15 15 (by decide)).1
  have s2 : lshl64 15 ((4 * (3 + x) : Nat) : Int) = ((15 * 2 ^ (4 * (3 + x)) : Nat) : Int) := lshl_nat (x := 15) (by omega) (m15 15 (by decide)).2
  rw [e1', e2', s1, s2, lor_nat (m15 15 (by decide)).1 (m15 15 (by decide)).2, lclr_nat (by omega), clr_or, pk_clr h (show x < 6 by omega), pk_clr (up_16 h (by decide)) (show 3 + x < 6 by omega)] at e3
  have h' : ∀ i, i < 6 → va_up (va_up a x 0) (3 + x) 0 i < 16 := up_16 (up_16 h (by decide)) (by decide)
  have z0 : va_up (va_up a x 0) (3 + x) 0 x = 0 := by rw [vu_ne _ _ (by omega), vu_eq]
  have l1 := pkn_lt h' hV hU
  rw [e1', e2', e3, i2l_eq ⟨by omega, by omega⟩, i2l_eq ⟨by omega, by omega⟩, lshl_nat (by omega) (m15 l hl).1, lshl_nat (by omega) (m15 u hu).2, lor_nat (by omega) (m15 l hl).1, pk_or h' (show x < 6 by omega) z0 hl]
  have h'' : ∀ i, i < 6 → va_up (va_up (va_up a x 0) (3 + x) 0) x l i < 16 := up_16 h' hl
  have z1 : va_up (va_up (va_up a x 0) (3 + x) 0) x l (3 + x) = 0 := by rw [vu_ne _ _ (by omega), vu_eq]
  have l2 := pkn_lt h'' hV hU
  rw [lor_nat (by omega) (m15 u hu).2, pk_or h'' (show 3 + x < 6 by omega) z1 hu]
  have ee : va_up (va_up (va_up (va_up a x 0) (3 + x) 0) x l) (3 + x) u = va_up (va_up a x l) (3 + x) u := by
    funext i
    by_cases g1 : i = 3 + x
    · rw [g1, vu_eq, vu_eq]
    · rw [vu_ne _ _ g1, vu_ne _ _ g1]
      by_cases g2 : i = x
      · rw [g2, vu_eq, vu_eq]
      · rw [vu_ne _ _ g2, vu_ne _ _ g2, vu_ne _ _ g1, vu_ne _ _ g2]
  rw [ee]; exact hQ
theorem t_withRange0 {x l u z : Int} (hl : inR l) (hu : inR u) (hlu : u < l) (hQ : Q c 0) : f_X3_withRange z x l u c Q := by
  unfold f_X3_withRange
  exact ⟨hl, hu, fun g => by omega, fun _ => hQ⟩
/-! the values of flags, the hubs -/
theorem pk_V (h : ∀ i, i < 6 → a i < 16) : pk a V U = cat3 (R6 a) V U 24 12 := by
  unfold pk cat3
  rw [show (2 : Nat) ^ 24 = 16777216 from rfl, show (2 : Nat) ^ 12 = 4096 from rfl]
  omega
theorem pk_clrV {y : Nat} (h : ∀ i, i < 6 → a i < 16) (hV : V < 4096) (hy : y < 4096) : clr (pk a V U) (y * 2 ^ 24) = pk a (clr V y) U := by
  rw [pk_V h, pk_V h]
  exact cat3_clr (R6_lt h) hV hy
theorem pk_orV {y : Nat} (h : ∀ i, i < 6 → a i < 16) (hV : V < 4096) (hy : y < 4096) : pk a V U ||| (y * 2 ^ 24) = pk a (V ||| y) U := by
  rw [pk_V h, pk_V h]
  exact cat3_or (R6_lt h) hV hy
theorem flag_sh {y o : Nat} (ho : o < 6) (hy : y < 4) : y * 2 ^ (24 + 2 * o) = (y * 2 ^ (2 * o)) * 2 ^ 24 ∧ y * 2 ^ (2 * o) < 4096 ∧ y * 2 ^ (24 + 2 * o) < 2 ^ 63 := by
  have p : 2 ^ (2 * o) ≤ 2 ^ 10 := Nat.pow_le_pow_right (by decide) (by omega)
  have p10 : (2 : Nat) ^ 10 = 1024 := rfl
  have e : y * 2 ^ (24 + 2 * o) = (y * 2 ^ (2 * o)) * 2 ^ 24 := by rw [Nat.pow_add, Nat.mul_assoc, Nat.mul_comm (2 ^ 24)]
  have l : y * 2 ^ (2 * o) ≤ 3 * 1024 := Nat.mul_le_mul (by omega) (by omega)
  have p63 : (2 : Nat) ^ 63 = 9223372036854775808 := rfl
  have p24 : (2 : Nat) ^ 24 = 16777216 := rfl
  refine ⟨e, by omega, ?_⟩
  rw [e]; omega
theorem t_withFlag {o b : Nat} (h : ∀ i, i < 6 → a i < 16) (hV : V < 4096) (hU : U < 8192) (ho : o < 6) (hb : b = 1 ∨ b = 2) (hQ : Q c ((pk a (clr V (3 * 2 ^ (2 * o)) ||| b * 2 ^ (2 * o)) U : Nat) : Int)) : f_X3_withFlag ((pk a V U : Nat) : Int) (o : Int) (b : Int) c Q := by
  have hlt := pkn_lt h hV hU
  have p63 : (2 : Nat) ^ 63 = 9223372036854775808 := rfl
  obtain ⟨f1, f2, f3⟩ := flag_sh (y := 3) ho (by decide)
  obtain ⟨g1, g2, g3⟩ := flag_sh (y := b) ho (by omega)
  have hc : clr V (3 * 2 ^ (2 * o)) < 4096 := clr_lt (k := 12) hV
  unfold f_X3_withFlag
  intro x1 e1
  have e1' : x1 = ((24 + 2 * o : Nat) : Int) := by omega
  have s1 : lshl64 3 ((24 + 2 * o : Nat) : Int) = ((3 * 2 ^ (24 + 2 * o) : Nat) : Int) := lshl_nat (x := 3) (by omega) f3
  have l1 := pkn_lt h hc hU
  rw [e1', s1, lclr_nat (by omega), f1, pk_clrV h hV f2, i2l_eq ⟨by omega, by omega⟩, lshl_nat (by omega) g3, lor_nat (by omega) g3, g1, pk_orV h hc g2]
  exact hQ
theorem pk_pair {o : Nat} (h : ∀ i, i < 6 → a i < 16) (hV : V < 4096) (ho : o < 6) : pk a V U / 2 ^ (24 + 2 * o) % 2 ^ 2 = V / 2 ^ (2 * o) % 4 := by
  have hr := R6_lt h
  have e : pk a V U / 2 ^ (24 + 2 * o) = (V + 4096 * U) / 2 ^ (2 * o) := by
    rw [Nat.pow_add, ← Nat.div_div_eq_div_mul]
    have : pk a V U / 2 ^ 24 = V + 4096 * U := by
      unfold pk
      rw [show (2 : Nat) ^ 24 = 16777216 from rfl]
      omega
    rw [this]
  rw [e]
  have : o = 0 ∨ o = 1 ∨ o = 2 ∨ o = 3 ∨ o = 4 ∨ o = 5 := by omega
  rcases this with rfl | rfl | rfl | rfl | rfl | rfl
  · rw [show (2 : Nat) ^ (2 * 0) = 1 from rfl, show (2 : Nat) ^ 2 = 4 from rfl]; omega
  · rw [show (2 : Nat) ^ (2 * 1) = 4 from rfl]; omega
  · rw [show (2 : Nat) ^ (2 * 2) = 16 from rfl, show (2 : Nat) ^ 2 = 4 from rfl]; omega
  · rw [show (2 : Nat) ^ (2 * 3) = 64 from rfl, show (2 : Nat) ^ 2 = 4 from rfl]; omega
  · rw [show (2 : Nat) ^ (2 * 4) = 256 from rfl, show (2 : Nat) ^ 2 = 4 from rfl]; omega
  · rw [show (2 : Nat) ^ (2 * 5) = 1024 from rfl, show (2 : Nat) ^ 2 = 4 from rfl]; omega
theorem t_flagSet {o : Nat} (h : ∀ i, i < 6 → a i < 16) (hV : V < 4096) (hU : U < 8192) (ho : o < 6) (hQ : Q c ((V / 2 ^ (2 * o) % 4 : Nat) : Int)) : f_X3_flagSet ((pk a V U : Nat) : Int) (o : Int) c Q := by
  have hlt := pkn_lt h hV hU
  have e : l2i32 (land64 (lshr64 ((pk a V U : Nat) : Int) ((24 + 2 * o : Nat) : Int)) 3) = ((pk a V U / 2 ^ (24 + 2 * o) % 2 ^ 2 : Nat) : Int) := lfield (k := 24 + 2 * o) (b := 2) (by omega) (by decide) (Nat.lt_trans hlt (by decide))
  unfold f_X3_flagSet
  rw [show 24 + 2 * (o : Int) = ((24 + 2 * o : Nat) : Int) by omega, e, pk_pair h hV ho]; exact hQ
theorem t_keepingFlag {o b : Nat} (h : ∀ i, i < 6 → a i < 16) (hV : V < 4096) (hU : U < 8192) (ho : o < 6) (hb : b < 2) (h1 : clr V (2 ^ (2 * o + b)) / 2 ^ (2 * o) % 4 ≠ 0 → Q c ((pk a (clr V (2 ^ (2 * o + b))) U : Nat) : Int)) (h0 : clr V (2 ^ (2 * o + b)) / 2 ^ (2 * o) % 4 = 0 → Q c 0) : f_X3_keepingFlag ((pk a V U : Nat) : Int) (o : Int) ((2 - b : Nat) : Int) c Q := by
  have hlt := pkn_lt h hV hU
  have p63 : (2 : Nat) ^ 63 = 9223372036854775808 := rfl
  obtain ⟨f1, f2, f3⟩ := flag_sh (y := 1 + b) ho (by omega)
  have ey : (1 + b) * 2 ^ (2 * o) = 2 ^ (2 * o + b) := by
    have : b = 0 ∨ b = 1 := by omega
    rcases this with rfl | rfl
    · rw [Nat.add_zero, Nat.one_mul, Nat.add_zero]
    · rw [Nat.pow_succ, Nat.mul_comm]
  rw [ey] at f1 f2
  have hc : clr V (2 ^ (2 * o + b)) < 4096 := clr_lt (k := 12) hV
  have l1 := pkn_lt h hc hU
  unfold f_X3_keepingFlag
  intro x1 e1 x2 e2
  have e1' : x1 = ((24 + 2 * o : Nat) : Int) := by omega
  have s3 : (3 : Int) - ((2 - b : Nat) : Int) = ((1 + b : Nat) : Int) := by omega
  rw [e1', s3, i2l_eq ⟨by omega, by omega⟩, lshl_nat (by omega) f3, lclr_nat (by omega), f1, pk_clrV h hV f2] at e2
  have a3 : land64 (lshr64 ((pk a (clr V (2 ^ (2 * o + b))) U : Nat) : Int) ((24 + 2 * o : Nat) : Int)) 3 = ((clr V (2 ^ (2 * o + b)) / 2 ^ (2 * o) % 4 : Nat) : Int) := by
    rw [lshr_nat (by omega) (by omega)]
    have := land_nat (x := pk a (clr V (2 ^ (2 * o + b))) U / 2 ^ (24 + 2 * o)) (y := 3) (by decide)
    rw [show ((3 : Nat) : Int) = 3 from rfl] at this
    rw [this, show pk a (clr V (2 ^ (2 * o + b))) U / 2 ^ (24 + 2 * o) &&& 3 = pk a (clr V (2 ^ (2 * o + b))) U / 2 ^ (24 + 2 * o) % 2 ^ 2 from Nat.and_two_pow_sub_one_eq_mod _ 2, pk_pair h hc ho]
  rw [e2, e1', a3]
  have hm : clr V (2 ^ (2 * o + b)) / 2 ^ (2 * o) % 4 < 4 := Nat.mod_lt _ (by decide)
  have li := lcmp_iff (x := clr V (2 ^ (2 * o + b)) / 2 ^ (2 * o) % 4) (y := 0) (by omega) (by decide)
  rw [show ((0 : Nat) : Int) = 0 from rfl] at li
  exact ⟨lcmp_r _ _, fun g => h1 (fun u => g (li.2 u)), fun g => h0 (li.1 g)⟩
theorem t_hubSet (h : ∀ i, i < 6 → a i < 16) (hV : V < 4096) (hU : U < 8192) (hQ : Q c (U : Int)) : f_X3_hubSet ((pk a V U : Nat) : Int) c Q := by
  have hlt := pkn_lt h hV hU
  have e : l2i32 (land64 (lshr64 ((pk a V U : Nat) : Int) ((36 : Nat) : Int)) 8191) = ((pk a V U / 2 ^ 36 % 2 ^ 13 : Nat) : Int) := lfield (k := 36) (b := 13) (by decide) (by decide) (Nat.lt_trans hlt (by decide))
  have e2 : pk a V U / 2 ^ 36 % 2 ^ 13 = U := by
    have hr := R6_lt h
    unfold pk
    rw [show (2 : Nat) ^ 36 = 68719476736 from rfl, show (2 : Nat) ^ 13 = 8192 from rfl]
    omega
  rw [e2] at e
  unfold f_X3_hubSet
  rw [show (36 : Int) = ((36 : Nat) : Int) from rfl, e]; exact hQ
theorem t_withHubs {y : Nat} (h : ∀ i, i < 6 → a i < 16) (hV : V < 4096) (hU : U < 8192) (hy : y < 8192) (hQ : Q c ((pk a V y : Nat) : Int)) : f_X3_withHubs ((pk a V U : Nat) : Int) (y : Int) c Q := by
  have hlt := pkn_lt h hV hU
  have hlt0 := pkn_lt h hV (show 0 < 8192 by decide)
  have p63 : (2 : Nat) ^ 63 = 9223372036854775808 := rfl
  have p36 : (2 : Nat) ^ 36 = 68719476736 := rfl
  have em : (-562881233944577 : Int) = lxor64 ((8191 * 2 ^ 36 : Nat) : Int) (-1) := by decide
  have hr := R6_lt h
  have c1 : ∀ W : Nat, pk a V W = cat3 (R6 a + 16777216 * V) W 0 36 13 := by
    intro W
    unfold pk cat3
    rw [p36, Nat.mul_zero, Nat.zero_add]
    omega
  have lo : R6 a + 16777216 * V < 2 ^ 36 := by rw [p36]; omega
  have z : clr U 8191 = 0 := by
    apply Nat.eq_of_testBit_eq
    intro i
    rw [clr_tb, Nat.zero_testBit, show (8191 : Nat) = 2 ^ 13 - 1 from rfl, Nat.testBit_two_pow_sub_one]
    by_cases g : i < 13
    · rw [decide_eq_true g]; simp
    · rw [tb_hi (ck := 13) hU (by omega)]; rfl
  unfold f_X3_withHubs
  have hys : y * 2 ^ 36 < 2 ^ 63 := by rw [p36, p63]; omega
  have s1 : lshl64 (y : Int) 36 = ((y * 2 ^ 36 : Nat) : Int) := lshl_nat (x := y) (k := 36) (by decide) hys
  rw [em, lclr_nat (by omega), c1 U, cat3_clr lo hU (by decide), z, ← c1 0, i2l_eq ⟨by omega, by omega⟩, s1, lor_nat (by omega) hys, c1 0, cat3_or lo (by decide) hy, Nat.zero_or, ← c1 y]
  exact hQ
end LOPS
