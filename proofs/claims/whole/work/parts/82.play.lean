/-! ===== pure layer: a play of the class beside the reference's: small steps ===== -/
theorem sset_at (σ : St) (c j : Nat) (v : Int) : sset σ c j v c = va_up (σ c) j v := by unfold sset; exact vu_eq _ _ _
theorem up_same {f : Nat → Int} {k : Nat} {v : Int} (h : f k = v) : va_up f k v = f := by
  funext j
  by_cases g : j = k
  · subst g; rw [vu_eq, h]
  · rw [vu_ne _ _ g]
theorem irem_20 {K : Nat} (h : K < 2147483648) : irem32 (K : Int) 20 = ((K % 20 : Nat) : Int) := by
  unfold irem32
  have mi : Int32.minValue.toInt = -2147483648 := by decide
  have ma : Int32.maxValue.toInt = 2147483647 := by decide
  have e1 : Int32.ofInt (K : Int) / Int32.ofInt 20 = Int32.ofInt ((K : Int).tdiv 20) := (Int32.ofInt_tdiv (by omega) (by omega) (by decide) (by decide)).symm
  have e2 : (K : Int).tdiv 20 = ((K / 20 : Nat) : Int) := by
    rw [Int.tdiv_eq_ediv_of_nonneg (by omega)]; omega
  rw [e1, e2, ← Int32.ofInt_mul, ← Int32.ofInt_sub]
  have e3 : (K : Int) - ((K / 20 : Nat) : Int) * 20 = ((K % 20 : Nat) : Int) := by omega
  rw [e3, toI_ofI ⟨by omega, by omega⟩]
theorem t_floorMod {K : Nat} {c : St} {Q : St → Int → Prop} (h : K < 2147483648) (hQ : Q c ((K % 20 : Nat) : Int)) : f_JM_floorMod (K : Int) 20 c Q := by
  unfold f_JM_floorMod
  have hx : ixor32 (K : Int) 20 = ((K ^^^ 20 : Nat) : Int) := ixor_nat (x := K) (y := 20) h (by decide)
  have hlt : K ^^^ 20 < 2 ^ 31 := Nat.xor_lt_two_pow h (by decide)
  rw [irem_20 h, hx]
  generalize K ^^^ 20 = w at hlt
  refine ⟨⟨by decide, by decide⟩, by decide, ?_⟩
  rintro x1 rfl
  exact ⟨⟨by omega, by omega⟩, fun _ => hQ, fun g => by omega⟩
/-- the class says a line -/
def cSay (c : St) (P v K : Nat) : St := sset (sset (sset c (P + 2) (K % 20) (v : Int)) (P + 1) 0 ((K : Int) + 1)) (P + 3) v 1
theorem t_sayApp {P v K : Nat} {c : St} {Q : St → Prop} (hP : isP P) (hv : v < 100) (hK : c (P + 1) 0 = (K : Int)) (hK2 : K < 1000000000) (hQ : Q (cSay c P v K)) : f_X4_append (P + 1) (v : Int) c Q := by
  have hN : isN (P + 1) := by rcases hP with rfl | rfl; exact Or.inl rfl; exact Or.inr rfl
  unfold f_X4_append
  rw [hK]
  refine ⟨hN, t_floorMod (by omega) ⟨by omega, by omega, ?_⟩⟩
  intro σ2 e2 σ3 e3
  rw [Int.toNat_natCast] at e2
  have a : σ2 (P + 1) 0 = (K : Int) := by rw [e2, sset_cell _ _ _ _ (by omega), hK]
  rw [a, e2] at e3
  refine ⟨⟨by omega, by omega⟩, fun g => by omega, fun _ => ⟨⟨by omega, by omega⟩, fun g => by omega, fun _ => ⟨by omega, by omega, fun σ4 e4 => ?_⟩⟩⟩
  rw [Int.toNat_natCast, e3] at e4
  rw [e4]; exact hQ
/-- the reference's row behind a line -/
def shp (p : Nat → Int) (v : Int) (k : Nat) : Nat → Int := fun i => if i = 10 then p 10 + 1 else if i = 11 then v else if 12 ≤ i ∧ i ≤ 11 + k then p (i - 1) else p i
theorem r_says {v : Nat} {m : St} (hv : v < 100) (h29 : m 29 v = 0 ∨ m 29 v = 1) (h44 : m 0 44 = 0 ∨ m 0 44 = 1) : ∃ m1 : St, (m1 26 = shp (m 26) v 19 ∧ m1 29 = (if m 0 44 = 0 then m 29 else va_up (m 29) v 1) ∧ ∀ q, q ≠ 26 → q ≠ 29 → m1 q = m q) ∧ ∀ Q : St → Prop, Q m1 → f_X10_says (v : Int) m Q := by
  have key : ∀ k : Nat, k ≤ 19 → ∀ m : St, (m 29 v = 0 ∨ m 29 v = 1) → (m 0 44 = 0 ∨ m 0 44 = 1) → ∃ m1 : St, (m1 26 = shp (m 26) v k ∧ m1 29 = (if m 0 44 = 0 then m 29 else va_up (m 29) v 1) ∧ ∀ q, q ≠ 26 → q ≠ 29 → m1 q = m q) ∧ ∀ (Q : St → Prop) (fu : Nat), k < fu → Q m1 → f_X10_says_L3 Q fu m (v : Int) (k : Int) := by
    intro k
    induction k with
    | zero =>
      intro _ m h29 h44
      obtain ⟨s2, hs2⟩ : ∃ s2 : St, s2 = sset (sset m 26 11 (v : Int)) 26 10 (m 26 10 + 1) := ⟨_, rfl⟩
      have r26 : s2 26 = shp (m 26) v 0 := by
        rw [hs2, sset_at, sset_at]
        funext i
        unfold shp va_up
        by_cases g : i = 10
        · rw [if_pos g, if_pos g]
        · rw [if_neg g, if_neg g]
          by_cases g2 : i = 11
          · rw [if_pos g2, if_pos g2]
          · rw [if_neg g2, if_neg g2, if_neg (by omega)]
      have rr : ∀ q, q ≠ 26 → s2 q = m q := fun q hq => by rw [hs2, sset_row _ _ _ hq, sset_row _ _ _ hq]
      have r29 := rr 29 (by decide)
      have r0 := rr 0 (by decide)
      refine ⟨sset s2 29 v (if m 0 44 = 0 then m 29 v else 1), ⟨?_, ?_, fun q h1 h2 => ?_⟩, fun Q fu hf hQ => ?_⟩
      · rw [sset_row _ _ _ (by decide), r26]
      · rw [sset_at, r29]
        by_cases g : m 0 44 = 0
        · rw [if_pos g, if_pos g]; exact up_same rfl
        · rw [if_neg g, if_neg g]
      · rw [sset_row _ _ _ h2, rr q h1]
      · cases fu with
        | zero => omega
        | succ fu =>
          unfold f_X10_says_L3 f_X10_says_J73
          refine ⟨⟨by decide, by decide⟩, fun _ => ?_, fun g => by omega⟩
          intro σ1 e1 σ2 e2
          have a : σ1 26 10 = m 26 10 := by rw [e1, sset_place _ _ _ (by decide)]
          rw [a, e1] at e2
          have es : σ2 = s2 := by rw [e2, hs2]
          rw [es, Int.toNat_natCast, r29, r0]
          refine ⟨by omega, by omega, inR_01 h29, fun g => ⟨by omega, by omega, fun σ3 e3 => ?_⟩, fun g => ⟨inR_01 h44, fun g2 => ⟨by omega, by omega, fun σ3 e3 => ?_⟩, fun g2 => ⟨by omega, by omega, fun σ3 e3 => ?_⟩⟩⟩
          · rw [e3]
            have e5 : (if m 0 44 = 0 then m 29 v else 1) = 1 := by split; omega; rfl
            rw [e5] at hQ; exact hQ
          · rw [e3]
            rw [if_pos g2, g] at hQ; exact hQ
          · rw [e3]
            rw [if_neg g2] at hQ; exact hQ
    | succ k ih =>
      intro hk m h29 h44
      obtain ⟨m2, hm2⟩ : ∃ m2 : St, m2 = sset m 26 (12 + k) (m 26 (11 + k)) := ⟨_, rfl⟩
      have rr : ∀ q, q ≠ 26 → m2 q = m q := fun q hq => by rw [hm2, sset_row _ _ _ hq]
      have r29 := rr 29 (by decide)
      have r0 := rr 0 (by decide)
      obtain ⟨m1, ⟨q1, q2, q3⟩, go⟩ := ih (by omega) m2 (by rw [r29]; exact h29) (by rw [r0]; exact h44)
      refine ⟨m1, ⟨?_, ?_, fun q h1 h2 => ?_⟩, fun Q fu hf hQ => ?_⟩
      · rw [q1, hm2, sset_at]
        funext i
        unfold shp
        rw [vu_ne _ _ (show 10 ≠ 12 + k by omega)]
        by_cases g : i = 10
        · rw [if_pos g, if_pos g]
        · rw [if_neg g, if_neg g]
          by_cases g2 : i = 11
          · rw [if_pos g2, if_pos g2]
          · rw [if_neg g2, if_neg g2]
            by_cases g3 : 12 ≤ i ∧ i ≤ 11 + k
            · rw [if_pos g3, if_pos ⟨g3.1, by omega⟩, vu_ne _ _ (by omega)]
            · rw [if_neg g3]
              by_cases g4 : i = 12 + k
              · rw [g4, vu_eq, if_pos ⟨by omega, by omega⟩, show 12 + k - 1 = 11 + k by omega]
              · rw [vu_ne _ _ g4, if_neg (by omega)]
      · rw [q2, r0, r29]
      · rw [q3 q h1 h2, rr q h1]
      · cases fu with
        | zero => omega
        | succ fu =>
          unfold f_X10_says_L3
          refine ⟨⟨by omega, by omega⟩, fun g => by omega, fun _ => ⟨by omega, by omega, by omega, by omega, fun σ4 e4 => ?_⟩⟩
          have es : σ4 = m2 := by
            rw [e4, hm2, show (11 + ((k + 1 : Nat) : Int)).toNat = 12 + k by omega, show (11 + ((k + 1 : Nat) : Int) - 1).toNat = 11 + k by omega]
          rw [es, show ((k + 1 : Nat) : Int) + -1 = (k : Int) by omega]
          exact go Q fu (by omega) hQ
  obtain ⟨m1, h, go⟩ := key 19 (Nat.le_refl _) m h29 h44
  exact ⟨m1, h, fun Q hQ => go Q FU (by show 19 < 100000; decide) hQ⟩
/-- the reference enters a node -/
theorem r_enters {v : Nat} {m : St} (hv : v < 12) (h21 : m 21 v = 0 ∨ m 21 v = 1) (h22 : 0 ≤ m 22 v ∧ m 22 v < 64) (h30 : m 30 v = 0 ∨ m 30 v = 1) (h44 : m 0 44 = 0 ∨ m 0 44 = 1) : ∃ m1 : St, (m1 26 = va_up (va_up (m 26) 2 (v : Int)) 3 (if m 21 v = 0 then m 26 3 else (v : Int)) ∧ m1 0 = va_up (va_up (m 0) 49 (m 22 v)) 48 (m 17 (m 22 v).toNat) ∧ m1 30 = (if m 0 44 = 0 then m 30 else va_up (m 30) v 1) ∧ ∀ q, q ≠ 0 → q ≠ 26 → q ≠ 30 → m1 q = m q) ∧ ∀ Q : St → Prop, Q m1 → f_X10_enters (v : Int) m Q := by
  obtain ⟨w, hw⟩ : ∃ w : Int, w = (if m 21 v = 0 then m 26 3 else (v : Int)) := ⟨_, rfl⟩
  obtain ⟨s3, hs3⟩ : ∃ s3 : St, s3 = sset (sset (sset (sset m 26 2 (v : Int)) 26 3 w) 0 49 (m 22 v)) 0 48 (m 17 (m 22 v).toNat) := ⟨_, rfl⟩
  have r26 : s3 26 = va_up (va_up (m 26) 2 (v : Int)) 3 w := by rw [hs3, sset_row _ _ _ (by decide), sset_row _ _ _ (by decide), sset_at, sset_at]
  have r0 : s3 0 = va_up (va_up (m 0) 49 (m 22 v)) 48 (m 17 (m 22 v).toNat) := by rw [hs3, sset_at, sset_at, sset_row _ _ _ (by decide), sset_row _ _ _ (by decide)]
  have rr : ∀ q, q ≠ 0 → q ≠ 26 → s3 q = m q := fun q h1 h2 => by rw [hs3, sset_row _ _ _ h1, sset_row _ _ _ h1, sset_row _ _ _ h2, sset_row _ _ _ h2]
  have r30 := rr 30 (by decide) (by decide)
  have r044 : s3 0 44 = m 0 44 := by rw [r0, vu_ne _ _ (by decide), vu_ne _ _ (by decide)]
  have key : ∀ Q : St → Prop, Q (sset s3 30 v (if m 0 44 = 0 then m 30 v else 1)) → f_X10_enters_J31 Q (sset m 26 2 (v : Int)) (v : Int) 3 w := by
    intro Q hQ
    unfold f_X10_enters_J31 f_X10_enters_J76
    refine ⟨by decide, by decide, fun σ1 e1 => ⟨by omega, by omega, fun σ2 e2 => ?_⟩⟩
    have e1' : σ1 = sset (sset m 26 2 (v : Int)) 26 3 w := e1
    have a1 : σ1 22 (v : Int).toNat = m 22 v := by rw [e1', sset_cell _ _ _ _ (by decide), sset_cell _ _ _ _ (by decide), Int.toNat_natCast]
    rw [a1] at e2
    have a2 : σ2 0 49 = m 22 v := by rw [e2, sset_self]
    rw [a2]
    refine ⟨h22.1, h22.2, fun σ3 e3 => ?_⟩
    have a3 : σ2 17 (m 22 v).toNat = m 17 (m 22 v).toNat := by rw [e2, sset_cell _ _ _ _ (by decide), e1', sset_cell _ _ _ _ (by decide), sset_cell _ _ _ _ (by decide)]
    rw [a3] at e3
    have es : σ3 = s3 := by rw [e3, e2, e1', hs3]
    rw [es, Int.toNat_natCast, r30, r044]
    refine ⟨by omega, by omega, inR_01 h30, fun g => ⟨by omega, by omega, fun σ4 e4 => ?_⟩, fun g => ⟨inR_01 h44, fun g2 => ⟨by omega, by omega, fun σ4 e4 => ?_⟩, fun g2 => ⟨by omega, by omega, fun σ4 e4 => ?_⟩⟩⟩
    · rw [e4]
      have e5 : (if m 0 44 = 0 then m 30 v else 1) = 1 := by split; omega; rfl
      rw [e5] at hQ; exact hQ
    · rw [e4]
      rw [if_pos g2, g] at hQ; exact hQ
    · rw [e4]
      rw [if_neg g2] at hQ; exact hQ
  refine ⟨sset s3 30 v (if m 0 44 = 0 then m 30 v else 1), ⟨?_, ?_, ?_, fun q h1 h2 h3 => ?_⟩, fun Q hQ => ?_⟩
  · rw [sset_row _ _ _ (by decide), r26, hw]
  · rw [sset_row _ _ _ (by decide), r0]
  · rw [sset_at, r30]
    by_cases g : m 0 44 = 0
    · rw [if_pos g, if_pos g]; exact up_same rfl
    · rw [if_neg g, if_neg g]
  · rw [sset_row _ _ _ h3, rr q h1 h2]
  · have k := key Q hQ
    unfold f_X10_enters
    intro σ1 e1
    have a21 : σ1 21 (v : Int).toNat = m 21 v := by rw [e1, sset_cell _ _ _ _ (by decide), Int.toNat_natCast]
    have a26 : σ1 26 3 = m 26 3 := by rw [e1, sset_place _ _ _ (by decide)]
    rw [a21, a26, e1]
    refine ⟨by omega, by omega, inR_01 h21, fun g => ?_, fun g => ?_⟩
    · rw [hw, if_pos g] at k; exact k
    · rw [hw, if_neg g] at k; exact k
/-- the class enters a node -/
theorem t_enter {P D v h E : Nat} {c : St} (hP : isP P) (hD : D = 2 ∨ D = 20) (hv : v < 12) (h0 : c P 0 = (D : Int)) (hh : c D 13 = (h : Int)) (hh2 : h < 4096) (hE : c P 9 = (E : Int)) (hE2 : E < 4096) : ∃ c1 : St, (c1 P = va_up (va_up (va_up (va_up (c P) 8 0) 3 (v : Int)) 9 ((E ||| 2 ^ v : Nat) : Int)) 4 (if h.testBit v then (v : Int) else c P 4) ∧ ∀ q, q ≠ P → c1 q = c q) ∧ ∀ Q : St → Int → Prop, Q c1 (c (D + 14) v) → f_X5_enter P (v : Int) c Q := by
  have hPD : D ≠ P := by unfold isP at hP; omega
  have hPD14 : D + 14 ≠ P := by unfold isP at hP; omega
  have hpow : 2 ^ v ≤ 2 ^ 11 := Nat.pow_le_pow_right (by decide) (by omega)
  have hpow2 : (2 : Nat) ^ 11 = 2048 := rfl
  obtain ⟨c3, hc3⟩ : ∃ c3 : St, c3 = sset (sset (sset c P 8 0) P 3 (v : Int)) P 9 ((E ||| 2 ^ v : Nat) : Int) := ⟨_, rfl⟩
  have rP : c3 P = va_up (va_up (va_up (c P) 8 0) 3 (v : Int)) 9 ((E ||| 2 ^ v : Nat) : Int) := by rw [hc3, sset_at, sset_at, sset_at]
  have rr : ∀ q, q ≠ P → c3 q = c q := fun q hq => by rw [hc3, sset_row _ _ _ hq, sset_row _ _ _ hq, sset_row _ _ _ hq]
  have a4 : c3 P 4 = c P 4 := by rw [rP, vu_ne _ _ (by decide), vu_ne _ _ (by decide), vu_ne _ _ (by decide)]
  have a0 : c3 P 0 = (D : Int) := by rw [rP, vu_ne _ _ (by decide), vu_ne _ _ (by decide), vu_ne _ _ (by decide), h0]
  refine ⟨sset c3 P 4 (if h.testBit v then (v : Int) else c P 4), ⟨by rw [sset_at, rP], fun q hq => by rw [sset_row _ _ _ hq, rr q hq]⟩, fun Q hQ => ?_⟩
  have last : ∀ x : Int, Q (sset c3 P 4 x) (c (D + 14) v) → f_X5_enter_J38 Q (sset c3 P 4 x) P (v : Int) := by
    intro x hx
    unfold f_X5_enter_J38
    have b0 : sset c3 P 4 x P 0 = (D : Int) := by rw [sset_place _ _ _ (by decide), a0]
    rw [b0, Int.toNat_natCast]
    refine ⟨hP, hD, t_entry (iaD14 hD) (by decide) ⟨by omega, by omega⟩ (fun _ _ => ?_) (fun g => by omega)⟩
    rw [Int.toNat_natCast, sset_row _ _ _ hPD14, rr _ hPD14]
    exact hx
  unfold f_X5_enter
  refine ⟨hP, fun σ1 e1 σ2 e2 σ3 e3 => ?_⟩
  have a9 : σ2 P 9 = (E : Int) := by rw [e2, sset_place _ _ _ (by decide), e1, sset_place _ _ _ (by decide), hE]
  rw [a9, ishl_1 (by omega), ior_nat (by omega) (by omega)] at e3
  have es : σ3 = c3 := by rw [e3, e2, e1, hc3]
  rw [es, a0, Int.toNat_natCast]
  refine ⟨hD, ?_⟩
  unfold f_X7_standsAsHub
  have a13 : c3 D 13 = (h : Int) := by rw [rr D hPD, hh]
  rw [a13, bit_nat (by omega) (by omega)]
  by_cases g : h.testBit v = true
  · rw [if_pos g] at hQ ⊢
    refine ⟨hD, ⟨by decide, by decide⟩, fun u => absurd rfl u, fun _ => ⟨⟨by decide, by decide⟩, fun u => absurd u (by decide), fun _ σ5 e5 => ?_⟩⟩
    rw [e5]; exact last _ hQ
  · rw [if_neg g] at hQ ⊢
    refine ⟨hD, ⟨by decide, by decide⟩, fun _ => ⟨⟨by decide, by decide⟩, fun _ => ?_, fun u => absurd rfl u⟩, fun u => absurd u (by decide)⟩
    have := last (c P 4) hQ
    rw [sset_id _ _ _ a4] at this
    exact this
/-- the new value of a meter -/
def clm (z : Int) : Int := if z ≤ 9 then (if 0 ≤ z then z else 0) else 9
def nvm (w v y : Int) : Int := clm (if w = 3 then y else if w = 4 then v + y else v - y)
theorem clm_r (z : Int) : 0 ≤ clm z ∧ clm z ≤ 9 := by unfold clm; split; split <;> omega; omega
theorem r_changesMeter {s : Nat} {w : Int} {m : St} {Q : St → Prop} (hs : s < 401) (hx : 0 ≤ m 4 s ∧ m 4 s ≤ 2) (hy : 0 ≤ m 5 s ∧ m 5 s ≤ 9) (hw : (m 8 s = 61 ∧ w = 3) ∨ (m 8 s = 43 ∧ w = 4) ∨ (m 8 s = 45 ∧ w = 5)) (hp : 0 ≤ m 26 (5 + m 4 s).toNat ∧ m 26 (5 + m 4 s).toNat ≤ 9) (hQ : Q (sset m 26 (5 + m 4 s).toNat (nvm w (m 26 (5 + m 4 s).toNat) (m 5 s)))) : f_X10_changesMeter (s : Int) m Q := by
  have j : ∀ z : Int, -100 ≤ z → z ≤ 100 → Q (sset m 26 (5 + m 4 s).toNat (clm z)) → f_X10_changesMeter_J69 Q m (5 + m 4 s) z := by
    intro z z1 z2 h
    unfold f_X10_changesMeter_J69
    unfold clm at h
    refine ⟨⟨by omega, by omega⟩, fun g => ⟨⟨by omega, by omega⟩, fun g2 => ⟨by omega, by omega, fun σ1 e1 => ?_⟩, fun g2 => ⟨by omega, by omega, fun σ1 e1 => ?_⟩⟩, fun g => ⟨by omega, by omega, fun σ1 e1 => ?_⟩⟩
    · rw [if_pos g, if_pos g2] at h; rw [e1]; exact h
    · rw [if_pos g, if_neg g2] at h; rw [e1]; exact h
    · rw [if_neg g] at h; rw [e1]; exact h
  unfold f_X10_changesMeter
  rw [Int.toNat_natCast]
  refine ⟨by omega, by omega, ?_⟩
  rintro x1 rfl
  unfold nvm at hQ
  rcases hw with ⟨w1, w2⟩ | ⟨w1, w2⟩ | ⟨w1, w2⟩
  · rw [if_pos w2] at hQ
    refine ⟨by omega, by omega, ⟨by omega, by omega⟩, fun g => by omega, fun _ => ⟨by omega, by omega, j _ (by omega) (by omega) hQ⟩⟩
  · rw [if_neg (by omega), if_pos w2] at hQ
    refine ⟨by omega, by omega, ⟨by omega, by omega⟩, fun _ => ⟨by omega, by omega, ⟨by omega, by omega⟩, fun g => by omega, fun _ => ⟨by omega, by omega, by omega, by omega, j _ (by omega) (by omega) hQ⟩⟩, fun g => by omega⟩
  · rw [if_neg (by omega), if_neg (by omega)] at hQ
    refine ⟨by omega, by omega, ⟨by omega, by omega⟩, fun _ => ⟨by omega, by omega, ⟨by omega, by omega⟩, fun _ => ⟨by omega, by omega, by omega, by omega, j _ (by omega) (by omega) hQ⟩, fun g => by omega⟩, fun g => by omega⟩
theorem t_changedMeter {w v y : Int} {c : St} {Q : St → Int → Prop} (hw : w = 3 ∨ w = 4 ∨ w = 5) (hv : 0 ≤ v ∧ v ≤ 9) (hy : 0 ≤ y ∧ y ≤ 9) (hQ : Q c (nvm w v y)) : f_X9_changedMeter w v y c Q := by
  unfold f_X9_changedMeter f_JM_min f_JM_max
  unfold nvm at hQ
  refine ⟨⟨by omega, by omega⟩, fun g => ?_, fun g => ?_, fun g1 g2 => ?_⟩
  · rw [if_neg (by omega), if_pos g] at hQ
    unfold clm at hQ
    refine ⟨⟨by omega, by omega⟩, ⟨by decide, by decide⟩, fun u => ?_, fun u => ?_⟩
    · rw [if_neg (by omega)] at hQ; exact hQ
    · rw [if_pos (by omega), if_pos (by omega)] at hQ; exact hQ
  · rw [if_neg (by omega), if_neg (by omega)] at hQ
    unfold clm at hQ
    rw [if_pos (by omega)] at hQ
    refine ⟨⟨by omega, by omega⟩, ⟨by decide, by decide⟩, fun u => ?_, fun u => ?_⟩
    · rw [if_neg (by omega)] at hQ; exact hQ
    · rw [if_pos (by omega)] at hQ; exact hQ
  · rw [if_pos (by omega)] at hQ
    unfold clm at hQ
    rw [if_pos (by omega), if_pos (by omega)] at hQ; exact hQ
/-- the class changes a meter -/
theorem t_changeMeter {P x : Nat} {w y : Int} {c : St} {p : Nat → Int} (hP : isP P) (hx : x < 3) (hw : w = 3 ∨ w = 4 ∨ w = 5) (hy : 0 ≤ y ∧ y ≤ 9) (h6 : c P 6 = p 5 + 16 * p 6 + 256 * p 7) (h5 : 0 ≤ p 5 ∧ p 5 ≤ 9) (h6' : 0 ≤ p 6 ∧ p 6 ≤ 9) (h7 : 0 ≤ p 7 ∧ p 7 ≤ 9) : ∃ v : Int, v = va_up p (5 + x) (nvm w (p (5 + x)) y) 5 + 16 * va_up p (5 + x) (nvm w (p (5 + x)) y) 6 + 256 * va_up p (5 + x) (nvm w (p (5 + x)) y) 7 ∧ ∀ Q : St → Prop, Q (sset c P 6 v) → f_X5_changeMeter P w (x : Int) y c Q := by
  obtain ⟨a, ha⟩ : ∃ a : Nat, p 5 = (a : Int) := ⟨(p 5).toNat, by omega⟩
  obtain ⟨b, hb⟩ : ∃ b : Nat, p 6 = (b : Int) := ⟨(p 6).toNat, by omega⟩
  obtain ⟨d, hd⟩ : ∃ d : Nat, p 7 = (d : Int) := ⟨(p 7).toNat, by omega⟩
  have hmt : c P 6 = ((mt a b d : Nat) : Int) := by rw [h6, ha, hb, hd]; unfold mt; omega
  have mr := mt_read ⟨a, by omega⟩ ⟨b, by omega⟩ ⟨d, by omega⟩
  have mc := mt_clear ⟨a, by omega⟩ ⟨b, by omega⟩ ⟨d, by omega⟩
  refine ⟨_, rfl, fun Q hQ => ?_⟩
  unfold f_X5_changeMeter f_X9_meterIn
  rw [hmt]
  refine ⟨hP, ?_⟩
  have cases3 : x = 0 ∨ x = 1 ∨ x = 2 := by omega
  rcases cases3 with rfl | rfl | rfl
  · obtain ⟨n, hn⟩ : ∃ n : Nat, nvm w (p 5) y = (n : Int) := ⟨(nvm w (p 5) y).toNat, by have := (clm_r (if w = 3 then y else if w = 4 then p 5 + y else p 5 - y)).1; unfold nvm; omega⟩
    have hn9 : n < 16 := by have := (clm_r (if w = 3 then y else if w = 4 then p 5 + y else p 5 - y)).2; unfold nvm at hn; omega
    have e : (4 : Int) * ((0 : Nat) : Int) = 0 := rfl
    rw [e]
    have r1 : iand32 (ishr32 ((mt a b d : Nat) : Int) 0) 15 = (a : Int) := mr.1
    rw [r1]
    refine t_changedMeter hw (by omega) hy ?_
    intro σ3 e3
    rw [hmt] at e3
    have c1 : iand32 ((mt a b d : Nat) : Int) (ixor32 (ishl32 15 0) (-1)) = ((mt 0 b d : Nat) : Int) := mc.1
    rw [c1, ← ha, hn] at e3
    have pu : ior32 ((mt 0 b d : Nat) : Int) (ishl32 (n : Int) 0) = ((mt n b d : Nat) : Int) := mt_put0 ⟨n, hn9⟩ ⟨b, by omega⟩ ⟨d, by omega⟩
    rw [pu] at e3
    have ev : va_up p (5 + 0) (nvm w (p (5 + 0)) y) 5 + 16 * va_up p (5 + 0) (nvm w (p (5 + 0)) y) 6 + 256 * va_up p (5 + 0) (nvm w (p (5 + 0)) y) 7 = ((mt n b d : Nat) : Int) := by
      have q5 : va_up p (5 + 0) (nvm w (p (5 + 0)) y) 5 = (n : Int) := by rw [show va_up p (5 + 0) (nvm w (p (5 + 0)) y) 5 = nvm w (p 5) y from vu_eq _ _ _, hn]
      rw [q5, vu_ne _ _ (by decide), vu_ne _ _ (by decide), hb, hd]; unfold mt; omega
    rw [ev] at hQ
    rw [e3]; exact hQ
  · obtain ⟨n, hn⟩ : ∃ n : Nat, nvm w (p 6) y = (n : Int) := ⟨(nvm w (p 6) y).toNat, by have := (clm_r (if w = 3 then y else if w = 4 then p 6 + y else p 6 - y)).1; unfold nvm; omega⟩
    have hn9 : n < 16 := by have := (clm_r (if w = 3 then y else if w = 4 then p 6 + y else p 6 - y)).2; unfold nvm at hn; omega
    have e : (4 : Int) * ((1 : Nat) : Int) = 4 := rfl
    rw [e]
    have r1 : iand32 (ishr32 ((mt a b d : Nat) : Int) 4) 15 = (b : Int) := mr.2.1
    rw [r1]
    refine t_changedMeter hw (by omega) hy ?_
    intro σ3 e3
    rw [hmt] at e3
    have c1 : iand32 ((mt a b d : Nat) : Int) (ixor32 (ishl32 15 4) (-1)) = ((mt a 0 d : Nat) : Int) := mc.2.1
    rw [c1, ← hb, hn] at e3
    have pu : ior32 ((mt a 0 d : Nat) : Int) (ishl32 (n : Int) 4) = ((mt a n d : Nat) : Int) := mt_put1 ⟨a, by omega⟩ ⟨n, hn9⟩ ⟨d, by omega⟩
    rw [pu] at e3
    have ev : va_up p (5 + 1) (nvm w (p (5 + 1)) y) 5 + 16 * va_up p (5 + 1) (nvm w (p (5 + 1)) y) 6 + 256 * va_up p (5 + 1) (nvm w (p (5 + 1)) y) 7 = ((mt a n d : Nat) : Int) := by
      have q5 : va_up p (5 + 1) (nvm w (p (5 + 1)) y) 6 = (n : Int) := by rw [show va_up p (5 + 1) (nvm w (p (5 + 1)) y) 6 = nvm w (p 6) y from vu_eq _ _ _, hn]
      rw [q5, vu_ne _ _ (by decide), vu_ne _ _ (by decide), ha, hd]; unfold mt; omega
    rw [ev] at hQ
    rw [e3]; exact hQ
  · obtain ⟨n, hn⟩ : ∃ n : Nat, nvm w (p 7) y = (n : Int) := ⟨(nvm w (p 7) y).toNat, by have := (clm_r (if w = 3 then y else if w = 4 then p 7 + y else p 7 - y)).1; unfold nvm; omega⟩
    have hn9 : n < 16 := by have := (clm_r (if w = 3 then y else if w = 4 then p 7 + y else p 7 - y)).2; unfold nvm at hn; omega
    have e : (4 : Int) * ((2 : Nat) : Int) = 8 := rfl
    rw [e]
    have r1 : iand32 (ishr32 ((mt a b d : Nat) : Int) 8) 15 = (d : Int) := mr.2.2
    rw [r1]
    refine t_changedMeter hw (by omega) hy ?_
    intro σ3 e3
    rw [hmt] at e3
    have c1 : iand32 ((mt a b d : Nat) : Int) (ixor32 (ishl32 15 8) (-1)) = ((mt a b 0 : Nat) : Int) := mc.2.2
    rw [c1, ← hd, hn] at e3
    have pu : ior32 ((mt a b 0 : Nat) : Int) (ishl32 (n : Int) 8) = ((mt a b n : Nat) : Int) := mt_put2 ⟨a, by omega⟩ ⟨b, by omega⟩ ⟨n, hn9⟩
    rw [pu] at e3
    have ev : va_up p (5 + 2) (nvm w (p (5 + 2)) y) 5 + 16 * va_up p (5 + 2) (nvm w (p (5 + 2)) y) 6 + 256 * va_up p (5 + 2) (nvm w (p (5 + 2)) y) 7 = ((mt a b n : Nat) : Int) := by
      have q5 : va_up p (5 + 2) (nvm w (p (5 + 2)) y) 7 = (n : Int) := by rw [show va_up p (5 + 2) (nvm w (p (5 + 2)) y) 7 = nvm w (p 7) y from vu_eq _ _ _, hn]
      rw [q5, vu_ne _ _ (by decide), vu_ne _ _ (by decide), ha, hb]; unfold mt; omega
    rw [ev] at hQ
    rw [e3]; exact hQ
