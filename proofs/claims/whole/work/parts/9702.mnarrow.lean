/-! ===== pure layer: the reference narrows ===== -/
theorem ishr_m4 {x o : Nat} (hx : x < 2147483648) (ho : 2 * o < 32) : iand32 (ishr32 (x : Int) (2 * (o : Int))) 3 = ((x / 2 ^ (2 * o) % 4 : Nat) : Int) := by
  have e2 : (2 * (o : Int)) = ((2 * o : Nat) : Int) := by omega
  have e3 : (3 : Int) = ((3 : Nat) : Int) := rfl
  have le := Nat.div_le_self x (2 ^ (2 * o))
  rw [e2, ishr_nat hx ho, Nat.shiftRight_eq_div_pow, e3, iand_nat (by omega) (by decide)]
  exact congrArg (fun n : Nat => (n : Int)) (Nat.and_two_pow_sub_one_eq_mod _ 2)
theorem MRg_noth {m1 : St} {r a : Nat} {g : Nat → Nat} (h : m1 r a = 0) : MRg m1 r a (noth g) := ⟨by rw [h, noth_0]; rfl, fun u => absurd (noth_0 g) u⟩
section MNARROW
variable {m : St} {a o : Nat} {g : Nat → Nat}
/-- a range is looked at -/
theorem r_checks {m' : St} {l : Nat} {hI : Int} (ho : o < 3) (ha : a + 9 ≤ 150) (hg0 : g 0 = 1) (mg : MRg m 37 a g) (f1 : ∀ q, q ≠ 37 → m' q = m q) (f2 : ∀ i, i ≠ a + 1 + o → i ≠ a + 4 + o → m' 37 i = m 37 i) (hl : m' 37 (a + 1 + o) = (l : Int)) (hl2 : l ≤ 20) (hh : m' 37 (a + 4 + o) = hI) (hr : -5 ≤ hI ∧ hI ≤ 20) : ∃ m1 : St, (∀ q, q ≠ 37 → m1 q = m q) ∧ (∀ i, i < a ∨ a + 9 ≤ i → m1 37 i = m 37 i) ∧ (hI < l → m1 37 a = 0) ∧ (∀ h : Nat, hI = (h : Int) → l ≤ h → MRg m1 37 a (va_up (va_up g (1 + o) l) (4 + o) h)) ∧ ∀ Q : St → Prop, Q m1 → f_X10_checks (a : Int) (o : Int) m' Q := by
  have e0 : ((a : Int) + 0).toNat = a := by omega
  have e1 : ((a : Int) + 1 + (o : Int)).toNat = a + 1 + o := by omega
  have e4 : ((a : Int) + 4 + (o : Int)).toNat = a + 4 + o := by omega
  by_cases u : (l : Int) ≤ hI
  · refine ⟨sset m' 37 a (m' 37 a), fun q hq => by rw [sset_row _ _ _ hq, f1 q hq], fun i hi => by rw [sset_place _ _ _ (by omega), f2 i (by omega) (by omega)], fun w => by omega, fun h eh lh => ?_, fun Q hQ => ?_⟩
    · have v0 : m' 37 a = ((1 : Nat) : Int) := by rw [f2 a (by omega) (by omega), mg.1, hg0]
      refine ⟨by rw [sset_at, vu_eq, v0, vu_ne _ _ (by omega), vu_ne _ _ (by omega), hg0], fun _ i hi => ?_⟩
      by_cases w0 : i = 0
      · subst w0
        rw [Nat.add_zero, sset_at, vu_eq, v0, vu_ne _ _ (by omega), vu_ne _ _ (by omega), hg0]
      · rw [sset_place _ _ _ (by omega)]
        by_cases w4 : i = 4 + o
        · rw [w4, vu_eq, ← Nat.add_assoc, hh, eh]
        · rw [vu_ne _ _ w4]
          by_cases w1 : i = 1 + o
          · rw [w1, vu_eq, ← Nat.add_assoc, hl]
          · rw [vu_ne _ _ w1, f2 (a + i) (by omega) (by omega)]
            exact mg.2 (by omega) i hi
    · unfold f_X10_checks
      rw [e0, e1, e4, hl, hh]
      refine ⟨by omega, by omega, by omega, by omega, ⟨by omega, by omega⟩, ⟨by omega, by omega⟩, fun _ => ⟨by omega, by omega, by omega, by omega, ?_⟩, fun w => absurd u w⟩
      rintro σ1 rfl
      exact hQ
  · refine ⟨sset m' 37 a 0, fun q hq => by rw [sset_row _ _ _ hq, f1 q hq], fun i hi => by rw [sset_place _ _ _ (by omega), f2 i (by omega) (by omega)], fun w => by rw [sset_at, vu_eq], fun h eh lh => by omega, fun Q hQ => ?_⟩
    unfold f_X10_checks
    rw [e0, e1, e4, hl, hh]
    refine ⟨by omega, by omega, by omega, by omega, ⟨by omega, by omega⟩, ⟨by omega, by omega⟩, fun w => absurd w u, fun _ => ⟨by omega, by omega, ?_⟩⟩
    rintro σ1 rfl
    exact hQ
/-- a value of a flag is taken out -/
theorem r_cut {b : Nat} (ho : o < 6) (hb : b < 2) (ha : a + 9 ≤ 150) (hg : KV g) (hg0 : g 0 = 1) (mg : MRg m 37 a g) : ∃ m1 : St, (∀ q, q ≠ 37 → m1 q = m q) ∧ (∀ i, i < a ∨ a + 9 ≤ i → m1 37 i = m 37 i) ∧ MRg m1 37 a (kfl g o b) ∧ ∀ Q : St → Prop, Q m1 → f_X10_narrows_J67 Q m (a : Int) (o : Int) ((a : Int) + 7) (m 37 ((a : Int) + 7).toNat) 1 (2 * (o : Int)) (b : Int) ∧ f_X10_widensNot_J67 Q m (a : Int) (o : Int) ((a : Int) + 7) (m 37 ((a : Int) + 7).toNat) 1 (2 * (o : Int)) (b : Int) := by
  have e0 : ((a : Int) + 0).toNat = a := by omega
  have e7 : ((a : Int) + 7).toNat = a + 7 := by omega
  have g7 : g 7 < 4096 := by
    rcases hg with w | w
    · omega
    · exact w.2.2.1
  have m7 := mg.2 (by omega) 7 (by decide)
  have c7 : clr (g 7) (2 ^ (2 * o + b)) < 2 ^ 12 := clr_lt (k := 12) g7
  have p12 : (2 : Nat) ^ 12 = 4096 := rfl
  have val : iand32 (m 37 (a + 7)) (ixor32 (ishl32 1 (2 * (o : Int) + (b : Int))) (-1)) = ((clr (g 7) (2 ^ (2 * o + b)) : Nat) : Int) := by
    have e2 : 2 * (o : Int) + (b : Int) = ((2 * o + b : Nat) : Int) := by omega
    rw [m7, e2, ishl_1 (by omega), iclr_nat (by omega)]
  have rd : iand32 (ishr32 (sset m 37 (a + 7) ((clr (g 7) (2 ^ (2 * o + b)) : Nat) : Int) 37 (a + 7)) (2 * (o : Int))) 3 = ((clr (g 7) (2 ^ (2 * o + b)) / 2 ^ (2 * o) % 4 : Nat) : Int) := by
    rw [sset_at, vu_eq, ishr_m4 (by omega) (by omega)]
  have lt4 : clr (g 7) (2 ^ (2 * o + b)) / 2 ^ (2 * o) % 4 < 4 := Nat.mod_lt _ (by decide)
  by_cases z : clr (g 7) (2 ^ (2 * o + b)) / 2 ^ (2 * o) % 4 = 0
  · refine ⟨sset (sset m 37 (a + 7) ((clr (g 7) (2 ^ (2 * o + b)) : Nat) : Int)) 37 a 0, fun q hq => by rw [sset_row _ _ _ hq, sset_row _ _ _ hq], fun i hi => by rw [sset_place _ _ _ (by omega), sset_place _ _ _ (by omega)], ?_, fun Q hQ => ?_⟩
    · unfold kfl
      rw [if_pos z]
      exact MRg_noth (by rw [sset_at, vu_eq])
    · unfold f_X10_narrows_J67 f_X10_widensNot_J67
      rw [e0, e7, val]
      constructor
      · refine ⟨by omega, by omega, ?_⟩
        rintro σ1 rfl
        rw [rd]
        refine ⟨by omega, by omega, ⟨by omega, by omega⟩, fun w => by omega, fun _ => ⟨by omega, by omega, ?_⟩⟩
        rintro σ2 rfl
        exact hQ
      · refine ⟨by omega, by omega, ?_⟩
        rintro σ1 rfl
        rw [rd]
        refine ⟨by omega, by omega, ⟨by omega, by omega⟩, fun w => by omega, fun _ => ⟨by omega, by omega, ?_⟩⟩
        rintro σ2 rfl
        exact hQ
  · refine ⟨sset (sset m 37 (a + 7) ((clr (g 7) (2 ^ (2 * o + b)) : Nat) : Int)) 37 a (sset m 37 (a + 7) ((clr (g 7) (2 ^ (2 * o + b)) : Nat) : Int) 37 a), fun q hq => by rw [sset_row _ _ _ hq, sset_row _ _ _ hq], fun i hi => by rw [sset_place _ _ _ (by omega), sset_place _ _ _ (by omega)], ?_, fun Q hQ => ?_⟩
    · unfold kfl
      rw [if_neg z]
      have v0 : sset m 37 (a + 7) ((clr (g 7) (2 ^ (2 * o + b)) : Nat) : Int) 37 a = ((1 : Nat) : Int) := by rw [sset_place _ _ _ (by omega), mg.1, hg0]
      refine ⟨by rw [sset_at, vu_eq, v0, vu_ne _ _ (by decide), hg0], fun _ i hi => ?_⟩
      by_cases w0 : i = 0
      · subst w0
        show sset _ 37 a _ 37 a = _
        rw [sset_at, vu_eq, v0, vu_ne _ _ (by decide), hg0]
      · rw [sset_place _ _ _ (by omega)]
        by_cases w7 : i = 7
        · rw [w7, sset_at, vu_eq, vu_eq]
        · rw [sset_place _ _ _ (by omega), vu_ne _ _ w7]
          exact mg.2 (by omega) i hi
    · unfold f_X10_narrows_J67 f_X10_widensNot_J67
      rw [e0, e7, val]
      constructor
      · refine ⟨by omega, by omega, ?_⟩
        rintro σ1 rfl
        rw [rd]
        refine ⟨by omega, by omega, ⟨by omega, by omega⟩, fun w => ⟨by omega, by omega, by omega, by omega, ?_⟩, fun w => by omega⟩
        rintro σ2 rfl
        exact hQ
      · refine ⟨by omega, by omega, ?_⟩
        rintro σ1 rfl
        rw [rd]
        refine ⟨by omega, by omega, ⟨by omega, by omega⟩, fun w => ⟨by omega, by omega, by omega, by omega, ?_⟩, fun w => by omega⟩
        rintro σ2 rfl
        exact hQ
end MNARROW
