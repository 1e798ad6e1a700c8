/-! ===== pure layer: whether a state was found before ===== -/
def anyn (f : Nat → Bool) : Nat → Nat → Bool
  | _, 0 => false
  | a, n + 1 => f a || anyn f (a + 1) n
theorem anyn_congr {f g : Nat → Bool} : ∀ (n a : Nat), (∀ t, a ≤ t → t < a + n → f t = g t) → anyn f a n = anyn g a n := by
  intro n
  induction n with
  | zero => intro a _; rfl
  | succ n ih =>
    intro a h
    show (f a || anyn f (a + 1) n) = (g a || anyn g (a + 1) n)
    rw [h a (by omega) (by omega), ih (a + 1) (fun t h1 h2 => h t (by omega) (by omega))]
theorem alln_true {f : Nat → Bool} : ∀ (n a : Nat), alln f a n = true ↔ ∀ t, a ≤ t → t < a + n → f t = true := by
  intro n
  induction n with
  | zero => intro a; exact ⟨fun _ t h1 h2 => by omega, fun _ => rfl⟩
  | succ n ih =>
    intro a
    show (f a && alln f (a + 1) n) = true ↔ _
    rw [Bool.and_eq_true, ih (a + 1)]
    constructor
    · intro h t h1 h2
      by_cases g : t = a
      · rw [g]; exact h.1
      · exact h.2 t (by omega) (by omega)
    · intro h
      exact ⟨h a (by omega) (by omega), fun t h1 h2 => h t (by omega) (by omega)⟩
theorem lcmp_iff {x y : Nat} (hx : x < 9223372036854775808) (hy : y < 9223372036854775808) : lcmp64 (x : Int) (y : Int) = 0 ↔ x = y := by
  constructor
  · intro h
    unfold lcmp64 lg_cmp at h
    by_cases g1 : Int64.ofInt (x : Int) > Int64.ofInt (y : Int)
    · rw [if_pos g1] at h; exact absurd h (by decide)
    · rw [if_neg g1] at h
      by_cases g2 : Int64.ofInt (x : Int) = Int64.ofInt (y : Int)
      · have := congrArg Int64.toInt g2
        rw [toL_nat hx, toL_nat hy] at this
        omega
      · rw [if_neg g2] at h; exact absurd h (by decide)
  · intro h; rw [h]; exact lcmp_self _
theorem lcmp_r (x y : Int) : inR (lcmp64 x y) := by
  unfold lcmp64 lg_cmp
  split
  · exact ⟨by decide, by decide⟩
  · split <;> exact ⟨by decide, by decide⟩
/-- the class looks a key up -/
theorem t_wasFound {c : St} {n ky : Nat} {Q : St → Int → Prop} (hn : n ≤ 300) (h5 : c 52 5 = (n : Int)) (hky : ky < 9223372036854775808) {kk : Nat → Nat} (hk : ∀ s, s < n → c 53 s = (kk s : Int) ∧ kk s < 9223372036854775808) (hQ : Q c (bi (anyn (fun s => decide (kk s = ky)) 0 n))) : f_X1_wasFound (ky : Int) c Q := by
  have key : ∀ (j s fu : Nat), s + j = n → j < fu → Q c (bi (anyn (fun s => decide (kk s = ky)) s j)) → f_X1_wasFound_L2 Q fu c (ky : Int) (s : Int) := by
    intro j
    induction j with
    | zero =>
      intro s fu hs hf h
      cases fu with
      | zero => omega
      | succ fu =>
        unfold f_X1_wasFound_L2
        rw [h5]
        exact ⟨⟨by omega, by omega⟩, fun _ => h, fun _ => ⟨⟨by omega, by omega⟩, ⟨by omega, by omega⟩, fun _ => h, fun g => by omega⟩⟩
    | succ j ih =>
      intro s fu hs hf h
      cases fu with
      | zero => omega
      | succ fu =>
        obtain ⟨k1, k2⟩ := hk s (by omega)
        have e : anyn (fun s => decide (kk s = ky)) s (j + 1) = (decide (kk s = ky) || anyn (fun s => decide (kk s = ky)) (s + 1) j) := rfl
        rw [e] at h
        unfold f_X1_wasFound_L2
        rw [h5, Int.toNat_natCast, k1]
        refine ⟨⟨by omega, by omega⟩, fun g => by omega, fun _ => ⟨⟨by omega, by omega⟩, ⟨by omega, by omega⟩, fun g => by omega, fun _ => ⟨by omega, by omega, lcmp_r _ _, fun g => ?_, fun g => ?_⟩⟩⟩
        · rw [lcmp_iff k2 hky] at g
          rw [decide_eq_false g, Bool.false_or] at h
          exact ih (s + 1) fu (by omega) (by omega) h
        · rw [lcmp_iff k2 hky] at g
          rw [decide_eq_true g, Bool.true_or] at h
          exact h
  exact key n 0 FU (by omega) (by show n < 100000; omega) hQ
/-- what the reference compares -/
def yst (p : Nat → Int) (t : Int) (k : Nat) : Int := if k = 0 then p 2 else if k = 1 then p 3 else if k = 2 then p 4 else if k < 6 then p (k + 2) else if k = 6 then t else p 9
section FND
variable {D N S B nd ck ts tm H : Nat} {c m : St} {φ : Nat → Nat} {e : Nat → Int}
theorem r_hubChoices {Q : St → Int → Prop} (h : SRx D c m φ e N S B nd ck ts tm) (hH : HM c D ck H) (hHc : H < 2 ^ ck) (hQ : Q m (H : Int)) : f_X10_hubChoices m Q := by
  obtain ⟨⟨-, -, -, -, n32, -, -, -, -, -, -, -, nd12, ck16, -, nS, nB, -⟩, ⟨hYP, hYA, -, -, hYD, -, hYF, -⟩, -, -, -, -, -, -, -, -, hYH, hYQ, -⟩ := h
  obtain ⟨hH1, hh, hh1, hh2, hh3⟩ := hH
  obtain ⟨hh', y1, y2, y3⟩ := hYH
  have ehh : hh' = hh := by rw [hh1] at y1; omega
  subst ehh
  have hpow : ∀ k, k ≤ 16 → 2 ^ k ≤ 2 ^ 16 := fun k hk => Nat.pow_le_pow_right (by decide) hk
  have hpow3 : (2 : Nat) ^ 16 = 65536 := rfl
  have key : ∀ (j k fu : Nat), k + j = ck → j < fu → f_X10_hubChoices_L4 Q fu m ((H % 2 ^ k : Nat) : Int) (k : Int) := by
    intro j
    induction j with
    | zero =>
      intro k fu hk hf
      cases fu with
      | zero => omega
      | succ fu =>
        unfold f_X10_hubChoices_L4
        rw [n32]
        have : H % 2 ^ k = H := Nat.mod_eq_of_lt (by rw [show k = ck by omega]; exact hHc)
        rw [this]
        exact ⟨⟨by omega, by omega⟩, ⟨by omega, by omega⟩, fun _ => hQ, fun g => by omega⟩
    | succ j ih =>
      intro k fu hk hf
      cases fu with
      | zero => omega
      | succ fu =>
        have next := ih (k + 1) fu (by omega) (by omega)
        obtain ⟨f1, f2, f3, f4⟩ := hYF.1 k (by omega)
        have hge := phi_ge hYP (m 24 k).toNat (by omega)
        have hφ := hYP.1 (m 24 k).toNat (by omega)
        have a7 := hYA (m 24 k).toNat (by omega)
        have d := hYD.1 (m 7 (m 24 k).toNat).toNat (by omega)
        have y := y3 (m 19 (m 7 (m 24 k).toNat).toNat).toNat (by omega)
        have hb := hh3 k (by omega)
        rw [(hYQ k (by omega)).2] at hb
        have hm1 : H % 2 ^ (k + 1) = H % 2 ^ k + 2 ^ k * (H / 2 ^ k % 2) := Nat.mod_pow_succ
        have tb : H.testBit k = decide (H / 2 ^ k % 2 = 1) := Nat.testBit_eq_decide_div_mod_eq
        have hlt : H % 2 ^ k < 2 ^ k := Nat.mod_lt _ (Nat.pow_pos (by decide))
        have hp := hpow k (by omega)
        have hp1 := hpow (k + 1) (by omega)
        unfold f_X10_hubChoices_L4 f_X10_nodeOfChoice
        dsimp only
        rw [n32, Int.toNat_natCast, y]
        refine ⟨⟨by omega, by omega⟩, ⟨by omega, by omega⟩, fun g => by omega, fun _ => ⟨by omega, by omega, f1, by omega, a7.1, by omega, d.1, by omega, ?_⟩⟩
        rw [← hb]
        cases q : H.testBit k
        · rw [q] at tb
          have tb0 : H / 2 ^ k % 2 = 0 := by
            have := of_decide_eq_false tb.symm
            omega
          have hm2 : H % 2 ^ (k + 1) = H % 2 ^ k := by rw [hm1, tb0]; simp
          rw [hm2] at next
          refine ⟨⟨by decide, by decide⟩, fun _ x1 hx1 => ?_, fun g => absurd rfl g⟩
          rw [ior_0 ⟨by omega, by omega⟩] at hx1
          rw [hx1]; exact next
        · rw [q] at tb
          have tb1 : H / 2 ^ k % 2 = 1 := of_decide_eq_true tb.symm
          have hm2 : H % 2 ^ (k + 1) = H % 2 ^ k ||| 2 ^ k := by
            rw [hm1, tb1, Nat.or_comm, Nat.mul_one, Nat.add_comm]
            have := Nat.two_pow_add_eq_or_of_lt hlt 1
            rw [Nat.mul_one] at this
            exact this
          rw [hm2] at next
          refine ⟨⟨by decide, by decide⟩, fun g => absurd g (by decide), fun _ x2 hx2 => ?_⟩
          rw [ishl_1 (by omega), ior_nat (by omega) (by omega)] at hx2
          rw [hx2]; exact next
  have := key ck 0 FU (by omega) (by show ck < 100000; omega)
  rw [show H % 2 ^ 0 = 0 by simp [Nat.mod_one]] at this
  exact this
theorem r_ofState {Q : St → Int → Prop} {k T : Nat} (h : SRx D c m φ e N S B nd ck ts tm) (hH : HM c D ck H) (hHc : H < 2 ^ ck) (hT : m 26 8 = (T : Int)) (hT2 : T < 65536) (hk : k < 8) (hQ : Q m (yst (m 26) ((T &&& H : Nat) : Int) k)) : f_X10_ofState (k : Int) m Q := by
  unfold f_X10_ofState
  unfold yst at hQ
  refine ⟨⟨by omega, by omega⟩, fun g0 => ⟨⟨by omega, by omega⟩, fun g1 => ⟨⟨by omega, by omega⟩, fun g2 => ⟨⟨by omega, by omega⟩, fun g6 => ⟨⟨by omega, by omega⟩, fun g7 => ?_, fun g7 => ?_⟩, fun g6 => ⟨by omega, by omega, ?_⟩⟩, fun g2 => ?_⟩, fun g1 => ?_⟩, fun g0 => ?_⟩
  · rw [if_neg (by omega), if_neg (by omega), if_neg (by omega), if_neg (by omega), if_neg (by omega)] at hQ; exact hQ
  · rw [if_neg (by omega), if_neg (by omega), if_neg (by omega), if_neg (by omega), if_pos (by omega)] at hQ
    refine r_hubChoices h hH hHc ?_
    rw [hT, iand_nat (by omega) (by have := hH.1; omega)]
    exact hQ
  · rw [if_neg (by omega), if_neg (by omega), if_neg (by omega), if_pos (by omega)] at hQ
    rw [show (5 + (k : Int) - 3).toNat = k + 2 by omega]; exact hQ
  · rw [if_neg (by omega), if_neg (by omega), if_pos (by omega)] at hQ; exact hQ
  · rw [if_neg (by omega), if_pos (by omega)] at hQ; exact hQ
  · rw [if_pos (by omega)] at hQ; exact hQ
/-- the reference looks a state up -/
theorem r_isFound {Q : St → Int → Prop} {n T : Nat} (h : SRx D c m φ e N S B nd ck ts tm) (hH : HM c D ck H) (hHc : H < 2 ^ ck) (hT : m 26 8 = (T : Int)) (hT2 : T < 65536) (hn : n ≤ 300) (h51 : m 0 51 = (n : Int)) (hx : ∀ s k, s < n → k < 8 → inR (m 32 (11 * s + k))) (hy : ∀ k, k < 8 → inR (yst (m 26) ((T &&& H : Nat) : Int) k)) (hQ : Q m (bi (anyn (fun s => alln (fun k => decide (m 32 (11 * s + k) = yst (m 26) ((T &&& H : Nat) : Int) k)) 0 8) 0 n))) : f_X10_isFound m Q := by
  have dead : ∀ (j k fu s : Nat) (k2 : St → Int → Prop), k + j = 8 → j < fu → k2 m ((s : Int) + 1) → f_X10_isFound_L14 k2 Q fu m (s : Int) 0 (k : Int) := by
    intro j
    induction j with
    | zero =>
      intro k fu s k2 hk hf hq
      cases fu with
      | zero => omega
      | succ fu =>
        unfold f_X10_isFound_L14
        exact ⟨⟨by omega, by omega⟩, fun _ => ⟨⟨by decide, by decide⟩, fun _ => hq, fun g => absurd rfl g⟩, fun g => by omega⟩
    | succ j ih =>
      intro k fu s k2 hk hf hq
      cases fu with
      | zero => omega
      | succ fu =>
        unfold f_X10_isFound_L14 f_X10_isFound_J47
        exact ⟨⟨by omega, by omega⟩, fun g => by omega, fun _ => ⟨⟨by decide, by decide⟩, fun _ => ih (k + 1) fu s k2 (by omega) (by omega) hq, fun g => absurd rfl g⟩⟩
  have live : ∀ (j k fu s : Nat) (k2 : St → Int → Prop), k + j = 8 → j < fu → s < n → (alln (fun k => decide (m 32 (11 * s + k) = yst (m 26) ((T &&& H : Nat) : Int) k)) k j = false → k2 m ((s : Int) + 1)) → (alln (fun k => decide (m 32 (11 * s + k) = yst (m 26) ((T &&& H : Nat) : Int) k)) k j = true → Q m 1) → f_X10_isFound_L14 k2 Q fu m (s : Int) 1 (k : Int) := by
    intro j
    induction j with
    | zero =>
      intro k fu s k2 hk hf hs hq0 hq1
      cases fu with
      | zero => omega
      | succ fu =>
        unfold f_X10_isFound_L14
        exact ⟨⟨by omega, by omega⟩, fun _ => ⟨⟨by decide, by decide⟩, fun g => absurd g (by decide), fun _ => hq1 rfl⟩, fun g => by omega⟩
    | succ j ih =>
      intro k fu s k2 hk hf hs hq0 hq1
      cases fu with
      | zero => omega
      | succ fu =>
        have e : alln (fun k => decide (m 32 (11 * s + k) = yst (m 26) ((T &&& H : Nat) : Int) k)) k (j + 1) = (decide (m 32 (11 * s + k) = yst (m 26) ((T &&& H : Nat) : Int) k) && alln (fun k => decide (m 32 (11 * s + k) = yst (m 26) ((T &&& H : Nat) : Int) k)) (k + 1) j) := rfl
        rw [e] at hq0 hq1
        unfold f_X10_isFound_L14 f_X10_isFound_J47
        rw [show (11 * (s : Int) + (k : Int)).toNat = 11 * s + k by omega]
        refine ⟨⟨by omega, by omega⟩, fun g => by omega, fun _ => ⟨⟨by decide, by decide⟩, fun g => absurd g (by decide), fun _ => ⟨by omega, by omega, ?_⟩⟩⟩
        refine r_ofState h hH hHc hT hT2 (by omega) ⟨hx s k hs (by omega), hy k (by omega), fun g => ?_, fun g => ?_⟩
        · rw [decide_eq_false g, Bool.false_and] at hq0
          exact dead j (k + 1) fu s k2 (by omega) (by omega) (hq0 rfl)
        · rw [decide_eq_true g, Bool.true_and] at hq0 hq1
          exact ih (k + 1) fu s k2 (by omega) (by omega) hs hq0 hq1
  have key : ∀ (j s fu : Nat), s + j = n → j < fu → Q m (bi (anyn (fun s => alln (fun k => decide (m 32 (11 * s + k) = yst (m 26) ((T &&& H : Nat) : Int) k)) 0 8) s j)) → f_X10_isFound_L2 Q fu m (s : Int) := by
    intro j
    induction j with
    | zero =>
      intro s fu hs hf hq
      cases fu with
      | zero => omega
      | succ fu =>
        unfold f_X10_isFound_L2
        rw [h51]
        exact ⟨⟨by omega, by omega⟩, ⟨by omega, by omega⟩, fun _ => hq, fun g => by omega⟩
    | succ j ih =>
      intro s fu hs hf hq
      cases fu with
      | zero => omega
      | succ fu =>
        have e : anyn (fun s => alln (fun k => decide (m 32 (11 * s + k) = yst (m 26) ((T &&& H : Nat) : Int) k)) 0 8) s (j + 1) = (alln (fun k => decide (m 32 (11 * s + k) = yst (m 26) ((T &&& H : Nat) : Int) k)) 0 8 || anyn (fun s => alln (fun k => decide (m 32 (11 * s + k) = yst (m 26) ((T &&& H : Nat) : Int) k)) 0 8) (s + 1) j) := rfl
        rw [e] at hq
        unfold f_X10_isFound_L2
        rw [h51]
        refine ⟨⟨by omega, by omega⟩, ⟨by omega, by omega⟩, fun g => by omega, fun _ => ?_⟩
        refine live 8 0 FU s _ (by omega) (by show 8 < 100000; decide) (by omega) (fun g => ?_) (fun g => ?_)
        · rw [g, Bool.false_or] at hq
          exact ih (s + 1) fu (by omega) (by omega) hq
        · rw [g, Bool.true_or] at hq
          exact hq
  exact key n 0 FU (by omega) (by show n < 100000; omega) hQ
end FND
