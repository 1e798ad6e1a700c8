/-! ===== pure layer: offers: how many, which; the reference's set of offered choices ===== -/
/-- the position's set bit from k on -/
def nthb (O : Nat) : Nat → Nat → Nat → Int
  | 0, _, _ => -1
  | j + 1, k, pos => if O.testBit k then (if pos = 0 then (k : Int) else nthb O j (k + 1) (pos - 1)) else nthb O j (k + 1) pos
/-- how many bits are set from k on -/
def pcr (O : Nat) : Nat → Nat → Nat
  | 0, _ => 0
  | j + 1, k => (if O.testBit k then 1 else 0) + pcr O j (k + 1)
theorem nthb_none {O : Nat} : ∀ (j k pos : Nat), (∀ i, k ≤ i → O.testBit i = false) → nthb O j k pos = -1 := by
  intro j
  induction j with
  | zero => intro k pos _; rfl
  | succ j ih =>
    intro k pos h
    unfold nthb
    rw [if_neg (by rw [h k (Nat.le_refl _)]; decide)]
    exact ih (k + 1) pos (fun i hi => h i (by omega))
theorem nthb_ext {O : Nat} : ∀ (a b k pos : Nat), (∀ i, k + a ≤ i → O.testBit i = false) → nthb O (a + b) k pos = nthb O a k pos := by
  intro a
  induction a with
  | zero => intro b k pos h; rw [Nat.zero_add]; exact nthb_none b k pos (fun i hi => h i (by omega))
  | succ a ih =>
    intro b k pos h
    rw [show a + 1 + b = (a + b) + 1 by omega]
    unfold nthb
    rw [ih b (k + 1) pos (fun i hi => h i (by omega)), ih b (k + 1) (pos - 1) (fun i hi => h i (by omega))]
theorem nthb_iff {O : Nat} : ∀ (j k pos : Nat), nthb O j k pos = -1 ↔ pcr O j k ≤ pos := by
  intro j
  induction j with
  | zero => intro k pos; exact ⟨fun _ => Nat.zero_le _, fun _ => rfl⟩
  | succ j ih =>
    intro k pos
    unfold nthb pcr
    by_cases g : O.testBit k = true
    · rw [if_pos g, if_pos g]
      by_cases g2 : pos = 0
      · rw [if_pos g2]; constructor <;> intro u <;> omega
      · rw [if_neg g2, ih (k + 1) (pos - 1)]; constructor <;> intro u <;> omega
    · rw [if_neg g, if_neg g, ih (k + 1) pos]; constructor <;> intro u <;> omega
theorem nthb_r {O : Nat} : ∀ (j k pos : Nat), nthb O j k pos = -1 ∨ ∃ i : Nat, nthb O j k pos = (i : Int) ∧ k ≤ i ∧ i < k + j ∧ O.testBit i = true := by
  intro j
  induction j with
  | zero => intro k pos; exact Or.inl rfl
  | succ j ih =>
    intro k pos
    unfold nthb
    by_cases g : O.testBit k = true
    · rw [if_pos g]
      by_cases g2 : pos = 0
      · rw [if_pos g2]; exact Or.inr ⟨k, rfl, Nat.le_refl _, by omega, g⟩
      · rw [if_neg g2]
        rcases ih (k + 1) (pos - 1) with u | ⟨i, u1, u2, u3, u4⟩
        · exact Or.inl u
        · exact Or.inr ⟨i, u1, by omega, by omega, u4⟩
    · rw [if_neg g]
      rcases ih (k + 1) pos with u | ⟨i, u1, u2, u3, u4⟩
      · exact Or.inl u
      · exact Or.inr ⟨i, u1, by omega, by omega, u4⟩
theorem tb_hi {O ck i : Nat} (h : O < 2 ^ ck) (hi : ck ≤ i) : O.testBit i = false := Nat.testBit_lt_two_pow (Nat.lt_of_lt_of_le h (Nat.pow_le_pow_right (by decide) hi))
theorem nthb_16 {O ck pos : Nat} (h : O < 2 ^ ck) (hc : ck ≤ 16) : nthb O 16 0 pos = nthb O ck 0 pos := by
  have := nthb_ext (O := O) ck (16 - ck) 0 pos (fun i hi => tb_hi h (by omega))
  rw [show ck + (16 - ck) = 16 by omega] at this
  exact this
theorem r_offeredAt {m : St} {O ck pos : Nat} {Q : St → Int → Prop} (h9 : m 26 9 = (O : Int)) (hO : O < 65536) (h32 : m 0 32 = (ck : Int)) (hck : ck ≤ 16) (hp : pos < 2147483648) (hQ : Q m (nthb O ck 0 pos)) : f_X10_offeredAt (pos : Int) m Q := by
  have key : ∀ (j k pos fu : Nat), k + j = ck → pos < 2147483648 → j < fu → Q m (nthb O j k pos) → f_X10_offeredAt_L4 Q fu m (pos : Int) (k : Int) := by
    intro j
    induction j with
    | zero =>
      intro k pos fu hk hp hf h
      cases fu with
      | zero => omega
      | succ fu =>
        unfold f_X10_offeredAt_L4
        rw [h32]
        exact ⟨⟨by omega, by omega⟩, ⟨by omega, by omega⟩, fun _ => h, fun g => by omega⟩
    | succ j ih =>
      intro k pos fu hk hp hf h
      cases fu with
      | zero => omega
      | succ fu =>
        unfold f_X10_offeredAt_L4
        rw [h32, h9, bit_nat (by omega) (by omega)]
        unfold nthb at h
        by_cases g : O.testBit k = true
        · rw [if_pos g] at h ⊢
          refine ⟨⟨by omega, by omega⟩, ⟨by omega, by omega⟩, fun g => by omega, fun _ => ⟨⟨by decide, by decide⟩, fun g => absurd rfl g, fun _ => ⟨⟨by omega, by omega⟩, fun g2 => ?_, fun g2 => ?_⟩⟩⟩
          · rw [if_neg (by omega)] at h
            have := ih (k + 1) (pos - 1) fu (by omega) (by omega) (by omega) h
            rw [show ((pos - 1 : Nat) : Int) = (pos : Int) + -1 by omega] at this
            exact this
          · rw [if_pos (by omega)] at h; exact h
        · rw [if_neg g] at h ⊢
          refine ⟨⟨by omega, by omega⟩, ⟨by omega, by omega⟩, fun g => by omega, fun _ => ⟨⟨by decide, by decide⟩, fun _ => ?_, fun g => absurd g (by decide)⟩⟩
          exact ih (k + 1) pos fu (by omega) hp (by omega) h
  exact key ck 0 pos FU (by omega) hp (by show ck < 100000; omega) hQ
theorem t_choiceAt {c : St} {P O pos : Nat} {Q : St → Int → Prop} (hP : isP P) (h8 : c P 8 = (O : Int)) (hO : O < 65536) (hp : pos < 2147483648) (hQ : Q c (nthb O 16 0 pos)) : f_X5_choiceAt P (pos : Int) c Q := by
  have key : ∀ (j k pos fu : Nat), k + j = 16 → pos < 2147483648 → j < fu → Q c (nthb O j k pos) → f_X5_choiceAt_L4 Q fu c P (pos : Int) (k : Int) := by
    intro j
    induction j with
    | zero =>
      intro k pos fu hk hp hf h
      cases fu with
      | zero => omega
      | succ fu =>
        unfold f_X5_choiceAt_L4
        exact ⟨⟨by omega, by omega⟩, fun _ => h, fun g => by omega⟩
    | succ j ih =>
      intro k pos fu hk hp hf h
      cases fu with
      | zero => omega
      | succ fu =>
        unfold f_X5_choiceAt_L4
        rw [h8, bit_nat (by omega) (by omega)]
        unfold nthb at h
        by_cases g : O.testBit k = true
        · rw [if_pos g] at h ⊢
          refine ⟨⟨by omega, by omega⟩, fun g => by omega, fun _ => ⟨hP, ⟨by decide, by decide⟩, fun g => absurd rfl g, fun _ => ⟨⟨by omega, by omega⟩, fun g2 => ?_, fun g2 => ?_⟩⟩⟩
          · rw [if_neg (by omega)] at h
            have := ih (k + 1) (pos - 1) fu (by omega) (by omega) (by omega) h
            rw [show ((pos - 1 : Nat) : Int) = (pos : Int) + -1 by omega] at this
            exact this
          · rw [if_pos (by omega)] at h; exact h
        · rw [if_neg g] at h ⊢
          refine ⟨⟨by omega, by omega⟩, fun g => by omega, fun _ => ⟨hP, ⟨by decide, by decide⟩, fun _ => ?_, fun g => absurd g (by decide)⟩⟩
          exact ih (k + 1) pos fu (by omega) hp (by omega) h
  exact key 16 0 pos FU (by omega) hp (by show 16 < 100000; omega) hQ
/-- the reference counts offers -/
theorem r_bits {m : St} {O : Nat} {Q : St → Int → Prop} (hO : O < 65536) (hQ : Q m ((pcr O 16 0 : Nat) : Int)) : f_X10_bits (O : Int) m Q := by
  have key : ∀ (j k n fu : Nat), k + j = 16 → j < fu → Q m ((n + pcr O j k : Nat) : Int) → f_X10_bits_L4 Q fu m (O : Int) (n : Int) (k : Int) := by
    intro j
    induction j with
    | zero =>
      intro k n fu hk hf h
      cases fu with
      | zero => omega
      | succ fu =>
        unfold f_X10_bits_L4
        exact ⟨⟨by omega, by omega⟩, fun _ => h, fun g => by omega⟩
    | succ j ih =>
      intro k n fu hk hf h
      cases fu with
      | zero => omega
      | succ fu =>
        unfold f_X10_bits_L4
        rw [bit_nat (by omega) (by omega)]
        unfold pcr at h
        refine ⟨⟨by omega, by omega⟩, fun g => by omega, fun _ x1 hx => ?_⟩
        by_cases g : O.testBit k = true
        · rw [if_pos g] at h hx
          have := ih (k + 1) (n + 1) fu (by omega) (by omega) (by rw [show n + 1 + pcr O j (k + 1) = n + (1 + pcr O j (k + 1)) by omega]; exact h)
          rw [hx]; exact this
        · rw [if_neg g] at h hx
          rw [Nat.zero_add] at h
          rw [hx, Int.add_zero]
          exact ih (k + 1) n fu (by omega) (by omega) h
  have := key 16 0 0 FU (by omega) (by show 16 < 100000; omega) (by rw [Nat.zero_add]; exact hQ)
  exact this
/-! the class counts offers with the library's bitCount -/
def bcN (x : Nat) : Nat :=
  (fun x5 => x5 &&& 63) ((fun x4 => x4 + (x4 >>> 16)) ((fun x3 => x3 + (x3 >>> 8)) ((fun x2 => (x2 + (x2 >>> 4)) &&& 252645135) ((fun x1 => (x1 &&& 858993459) + ((x1 >>> 2) &&& 858993459)) (x - ((x >>> 1) &&& 1431655765))))))
def pcs (x : Nat) : Nat := (x >>> 0) % 2 + ((x >>> 1) % 2 + ((x >>> 2) % 2 + ((x >>> 3) % 2 + ((x >>> 4) % 2 + ((x >>> 5) % 2 + ((x >>> 6) % 2 + ((x >>> 7) % 2 + ((x >>> 8) % 2 + ((x >>> 9) % 2 + ((x >>> 10) % 2 + ((x >>> 11) % 2 + ((x >>> 12) % 2 + ((x >>> 13) % 2 + ((x >>> 14) % 2 + ((x >>> 15) % 2 + 0)))))))))))))))
def bck : Nat → Nat → Bool
  | 0, b => Nat.beq (bcN b) (pcs b)
  | k + 1, b => bck k b && bck k (b + 2 ^ k)
theorem bck_all : ∀ (k b : Nat), bck k b = true → ∀ x, b ≤ x → x < b + 2 ^ k → bcN x = pcs x := by
  intro k
  induction k with
  | zero =>
    intro b h x h1 h2
    have : x = b := by
      have : (2 : Nat) ^ 0 = 1 := rfl
      omega
    rw [this]
    exact Nat.eq_of_beq_eq_true h
  | succ k ih =>
    intro b h x h1 h2
    have h' : (bck k b && bck k (b + 2 ^ k)) = true := h
    rw [Bool.and_eq_true] at h'
    have e : 2 ^ (k + 1) = 2 ^ k + 2 ^ k := by rw [Nat.pow_succ]; omega
    by_cases g : x < b + 2 ^ k
    · exact ih b h'.1 x h1 g
    · exact ih (b + 2 ^ k) h'.2 x (by omega) (by omega)
theorem bcN_pcs {x : Nat} (h : x < 65536) : bcN x = pcs x := bck_all 16 0 (by decide +kernel) x (Nat.zero_le _) (by rw [show (2 : Nat) ^ 16 = 65536 from rfl]; omega)
theorem tb_mod (x k : Nat) : (if x.testBit k then 1 else 0) = (x >>> k) % 2 := by
  have tb : x.testBit k = decide (x / 2 ^ k % 2 = 1) := Nat.testBit_eq_decide_div_mod_eq
  rw [tb, Nat.shiftRight_eq_div_pow]
  by_cases g : x / 2 ^ k % 2 = 1
  · rw [g]; rfl
  · have : x / 2 ^ k % 2 = 0 := by omega
    rw [this]; rfl
theorem pcr_step (x j k : Nat) : pcr x (j + 1) k = (x >>> k) % 2 + pcr x j (k + 1) := by
  show (if x.testBit k then 1 else 0) + pcr x j (k + 1) = _
  rw [tb_mod]
theorem pcr_pcs (x : Nat) : pcr x 16 0 = pcs x := by
  rw [pcr_step, pcr_step, pcr_step, pcr_step, pcr_step, pcr_step, pcr_step, pcr_step, pcr_step, pcr_step, pcr_step, pcr_step, pcr_step, pcr_step, pcr_step, pcr_step]
  rfl
theorem iushr_nat {x k : Nat} (hx : x < 2147483648) (hk : k < 32) : iushr32 (x : Int) (k : Int) = ((x >>> k : Nat) : Int) := by
  have hle : x >>> k ≤ x := by rw [Nat.shiftRight_eq_div_pow]; exact Nat.div_le_self _ _
  unfold iushr32
  have e : ((Int32.ofInt (x : Int)).toUInt32 >>> ((Int32.ofInt (k : Int)).toUInt32 &&& Int32.toUInt32 31)).toInt32 = Int32.ofInt ((x >>> k : Nat) : Int) := by
    apply Int32.toBitVec_inj.1
    rw [ofI_nat]
    show ((Int32.ofInt (x : Int)).toUInt32 >>> ((Int32.ofInt (k : Int)).toUInt32 &&& Int32.toUInt32 31)).toBitVec = _
    rw [UInt32.toBitVec_shiftRight, UInt32.toBitVec_and]
    show (Int32.ofInt (x : Int)).toBitVec >>> (((Int32.ofInt (k : Int)).toBitVec &&& 31#32) % 32#32) = _
    rw [ofI_nat, ofI_nat]
    have : (BitVec.ofNat 32 k &&& 31#32) % 32#32 = BitVec.ofNat 32 k := by
      have : ∀ i : Fin 32, (BitVec.ofNat 32 i.val &&& 31#32) % 32#32 = BitVec.ofNat 32 i.val := by decide +kernel
      exact this ⟨k, hk⟩
    rw [this]
    apply BitVec.eq_of_toNat_eq
    rw [BitVec.ushiftRight_eq', BitVec.toNat_ushiftRight, BitVec.toNat_ofNat, BitVec.toNat_ofNat, BitVec.toNat_ofNat, Nat.mod_eq_of_lt (by omega), Nat.mod_eq_of_lt (by omega), Nat.mod_eq_of_lt (by omega)]
  rw [e]
  generalize x >>> k = w at hle
  exact toI_ofI ⟨by omega, by omega⟩
theorem t_bitCount {c : St} {O : Nat} {Q : St → Int → Prop} (hO : O < 65536) (hQ : Q c ((pcr O 16 0 : Nat) : Int)) : f_JI_bitCount (O : Int) c Q := by
  rw [pcr_pcs, ← bcN_pcs hO] at hQ
  have sh : ∀ (x k : Nat), x >>> k ≤ x := fun x k => by rw [Nat.shiftRight_eq_div_pow]; exact Nat.div_le_self _ _
  unfold f_JI_bitCount
  intro x1 h1 x2 h2 x3 h3 x4 h4 x5 h5
  obtain ⟨n1, e1⟩ : ∃ n1 : Nat, n1 = O - ((O >>> 1) &&& 1431655765) := ⟨_, rfl⟩
  have a1 : x1 = (n1 : Int) := by
    have s := iushr_nat (x := O) (k := 1) (by omega) (by decide)
    have a := iand_nat (x := O >>> 1) (y := 1431655765) (by have := sh O 1; omega) (by decide)
    have l : (O >>> 1) &&& 1431655765 ≤ O := Nat.le_trans Nat.and_le_left (sh O 1)
    have s' : iushr32 (O : Int) 1 = ((O >>> 1 : Nat) : Int) := s
    have a' : iand32 ((O >>> 1 : Nat) : Int) 1431655765 = (((O >>> 1) &&& 1431655765 : Nat) : Int) := a
    rw [h1, s', a']; omega
  have l1 : n1 ≤ O := by omega
  obtain ⟨n2, e2⟩ : ∃ n2 : Nat, n2 = (n1 &&& 858993459) + ((n1 >>> 2) &&& 858993459) := ⟨_, rfl⟩
  have a2 : x2 = (n2 : Int) := by
    have s : iushr32 (n1 : Int) 2 = ((n1 >>> 2 : Nat) : Int) := iushr_nat (x := n1) (k := 2) (by omega) (by decide)
    have a : iand32 (n1 : Int) 858993459 = ((n1 &&& 858993459 : Nat) : Int) := iand_nat (x := n1) (y := 858993459) (by omega) (by decide)
    have a' : iand32 ((n1 >>> 2 : Nat) : Int) 858993459 = (((n1 >>> 2) &&& 858993459 : Nat) : Int) := iand_nat (x := n1 >>> 2) (y := 858993459) (by have := sh n1 2; omega) (by decide)
    rw [h2, a1, s, a, a', e2]; omega
  have l2 : n2 ≤ 200000 := by
    have u1 : n1 &&& 858993459 ≤ n1 := Nat.and_le_left
    have u2 : (n1 >>> 2) &&& 858993459 ≤ n1 := Nat.le_trans Nat.and_le_left (sh n1 2)
    omega
  obtain ⟨n3, e3⟩ : ∃ n3 : Nat, n3 = (n2 + (n2 >>> 4)) &&& 252645135 := ⟨_, rfl⟩
  have a3 : x3 = (n3 : Int) := by
    have s : iushr32 (n2 : Int) 4 = ((n2 >>> 4 : Nat) : Int) := iushr_nat (x := n2) (k := 4) (by omega) (by decide)
    have u := sh n2 4
    have a : iand32 ((n2 + (n2 >>> 4) : Nat) : Int) 252645135 = (((n2 + (n2 >>> 4)) &&& 252645135 : Nat) : Int) := iand_nat (x := n2 + (n2 >>> 4)) (y := 252645135) (by omega) (by decide)
    rw [h3, a2, s, show (n2 : Int) + ((n2 >>> 4 : Nat) : Int) = ((n2 + (n2 >>> 4) : Nat) : Int) by omega, a, e3]
  have l3 : n3 ≤ 400000 := by
    have u := sh n2 4
    have u1 : (n2 + (n2 >>> 4)) &&& 252645135 ≤ n2 + (n2 >>> 4) := Nat.and_le_left
    omega
  obtain ⟨n4, e4⟩ : ∃ n4 : Nat, n4 = n3 + (n3 >>> 8) := ⟨_, rfl⟩
  have a4 : x4 = (n4 : Int) := by
    have s : iushr32 (n3 : Int) 8 = ((n3 >>> 8 : Nat) : Int) := iushr_nat (x := n3) (k := 8) (by omega) (by decide)
    rw [h4, a3, s, e4]; omega
  have l4 : n4 ≤ 800000 := by have u := sh n3 8; omega
  obtain ⟨n5, e5⟩ : ∃ n5 : Nat, n5 = n4 + (n4 >>> 16) := ⟨_, rfl⟩
  have a5 : x5 = (n5 : Int) := by
    have s : iushr32 (n4 : Int) 16 = ((n4 >>> 16 : Nat) : Int) := iushr_nat (x := n4) (k := 16) (by omega) (by decide)
    rw [h5, a4, s, e5]; omega
  have l5 : n5 ≤ 1600000 := by have u := sh n4 16; omega
  have a6 : iand32 (n5 : Int) 63 = ((n5 &&& 63 : Nat) : Int) := iand_nat (x := n5) (y := 63) (by omega) (by decide)
  have eb : bcN O = n5 &&& 63 := by rw [e5, e4, e3, e2, e1]; rfl
  rw [a5, a6, ← eb]; exact hQ
/-- the reference notes which choices were offered -/
theorem r_L54 {ck O : Nat} : ∀ (j k : Nat) (m : St), k + j = ck → ck ≤ 16 → m 0 32 = (ck : Int) → m 26 9 = (O : Int) → O < 65536 → 0 ≤ m 26 0 ∧ m 26 0 ≤ 4 → (m 0 44 = 0 ∨ m 0 44 = 1) → (∀ v, v < 16 → m 31 v = 0 ∨ m 31 v = 1) → ∃ m1 : St, (∀ q, q ≠ 31 → m1 q = m q) ∧ (∀ i, m1 31 i = if k ≤ i ∧ i < ck ∧ m 0 44 ≠ 0 ∧ m 26 0 = 1 ∧ O.testBit i = true then 1 else m 31 i) ∧ ∀ (Q : St → Prop) (fu : Nat), j < fu → Q m1 → f_X10_flows_L54 Q fu m (k : Int) := by
  intro j
  induction j with
  | zero =>
    intro k m hk hck h32 h9 hO h0 h44 h31
    refine ⟨m, fun _ _ => rfl, fun i => by rw [if_neg (by omega)], fun Q fu hf hQ => ?_⟩
    cases fu with
    | zero => omega
    | succ fu =>
      unfold f_X10_flows_L54
      rw [h32]
      exact ⟨⟨by omega, by omega⟩, ⟨by omega, by omega⟩, fun _ => hQ, fun g => by omega⟩
  | succ j ih =>
    intro k m hk hck h32 h9 hO h0 h44 h31
    obtain ⟨w, hw⟩ : ∃ w : Int, w = if m 0 44 ≠ 0 ∧ m 26 0 = 1 ∧ O.testBit k = true then 1 else m 31 k := ⟨_, rfl⟩
    have hk31 := h31 k (by omega)
    have w01 : w = 0 ∨ w = 1 := by rw [hw]; split; exact Or.inr rfl; exact hk31
    obtain ⟨m2, hm2⟩ : ∃ m2 : St, m2 = sset m 31 k w := ⟨_, rfl⟩
    have rr : ∀ q, q ≠ 31 → m2 q = m q := fun q hq => by rw [hm2, sset_row _ _ _ hq]
    have r31 : m2 31 = va_up (m 31) k w := by rw [hm2, sset_at]
    have r0 := rr 0 (by decide)
    have r26 := rr 26 (by decide)
    obtain ⟨m1, i1, i2, i3⟩ := ih (k + 1) m2 (by omega) hck (by rw [r0]; exact h32) (by rw [r26]; exact h9) hO (by rw [r26]; exact h0) (by rw [r0]; exact h44) (fun v hv => by
      rw [r31]
      by_cases g : v = k
      · subst g; rw [vu_eq]; exact w01
      · rw [vu_ne _ _ g]; exact h31 v hv)
    rw [r0, r26, r31] at i2
    refine ⟨m1, fun q hq => by rw [i1 q hq, rr q hq], fun i => ?_, fun Q fu hf hQ => ?_⟩
    · rw [i2 i]
      by_cases g : i = k
      · subst g
        rw [if_neg (by omega), vu_eq, hw]
        by_cases g2 : m 0 44 ≠ 0 ∧ m 26 0 = 1 ∧ O.testBit i = true
        · rw [if_pos g2, if_pos ⟨Nat.le_refl _, by omega, g2⟩]
        · rw [if_neg g2, if_neg (fun u => g2 u.2.2)]
      · rw [vu_ne _ _ g]
        by_cases g2 : k + 1 ≤ i ∧ i < ck ∧ m 0 44 ≠ 0 ∧ m 26 0 = 1 ∧ O.testBit i = true
        · rw [if_pos g2, if_pos ⟨by omega, g2.2⟩]
        · rw [if_neg g2, if_neg (fun u => g2 ⟨by omega, u.2⟩)]
    · cases fu with
      | zero => omega
      | succ fu =>
        have go := i3 Q fu (by omega) hQ
        have go' : f_X10_flows_L54 Q fu m2 ((k : Int) + 1) := go
        rw [hm2] at go'
        unfold f_X10_flows_L54 f_X10_flows_J108 f_X10_flows_J112
        rw [h32, h9, bit_nat (by omega) (by omega), Int.toNat_natCast]
        refine ⟨⟨by omega, by omega⟩, ⟨by omega, by omega⟩, fun g => by omega, fun _ => ⟨by omega, by omega, inR_01 hk31, fun g => ⟨by omega, by omega, fun σ1 e1 => ?_⟩, fun g => ⟨inR_01 h44, fun g2 => ⟨by omega, by omega, fun σ1 e1 => ?_⟩, fun g2 => ⟨⟨by omega, by omega⟩, fun g3 => ⟨by omega, by omega, fun σ1 e1 => ?_⟩, fun g3 => ⟨by split <;> exact ⟨by decide, by decide⟩, fun g4 => ⟨by omega, by omega, fun σ1 e1 => ?_⟩, fun g4 => ⟨by omega, by omega, fun σ1 e1 => ?_⟩⟩⟩⟩⟩⟩
        · have : w = 1 := by rw [hw]; split; rfl; omega
          rw [this] at go'; rw [e1]; exact go'
        · have : w = 0 := by rw [hw, if_neg (fun u => u.1 g2), g]
          rw [this] at go'; rw [e1]; exact go'
        · have : w = 0 := by rw [hw, if_neg (fun u => g3 u.2.1), g]
          rw [this] at go'; rw [e1]; exact go'
        · have : w = 0 := by rw [hw, if_neg (fun u => g4 (by rw [if_pos u.2.2])), g]
          rw [this] at go'; rw [e1]; exact go'
        · have : O.testBit k = true := by
            cases q : O.testBit k
            · rw [q] at g4; exact absurd g4 (by decide)
            · rfl
          have : w = 1 := by rw [hw, if_pos ⟨g2, g3, this⟩]
          rw [this] at go'; rw [e1]; exact go'
