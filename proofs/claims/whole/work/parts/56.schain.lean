/-! ===== pure layer: what follows stands behind ===== -/
section SCHAIN
variable {c c' m m' : St} {D N S B nd ck ts tm tm' dp b ck' ts' : Nat} {φ : Nat → Nat} {e : Nat → Int} {w x y f w' x' y' tmc tmc' : Int}
/-- the statements that own the open blocks -/
def OST (c : St) (D S dp : Nat) : Prop := ∀ d, d + 1 < dp → 0 ≤ c 40 (d + 1) ∧ c 40 (d + 1) < S ∧ c (D + 4) (c 40 (d + 1)).toNat = -1 ∧ c 40 (d + 1) ≠ c 40 dp ∧ (c 42 (c 40 (d + 1)).toNat = -1 ∨ ∃ d', d' + 1 = d ∧ c 42 (c 40 (d + 1)).toNat = c 40 (d' + 1))
theorem SY_bl (hYD : YD m N B nd ck) (hYF : YF m N B nd ck) (hYS : YS m e N B nd dp) {d : Nat} (hd : d + 1 < dp) : 0 ≤ m 18 (m 25 d).toNat := by
  obtain ⟨s0, s1, s2, s3, s4, s5, s6⟩ := hYS
  have := s1 (d + 1) hd
  have hD := (hYD.1 (m 25 (d + 1)).toNat (by omega)).2.2
  rcases s4 d hd with ⟨u1, u2⟩ | ⟨u1, u2⟩
  · omega
  · rcases hD with r | ⟨r1, r2, r3, r4⟩ | r
    · omega
    · have := hYF.1 (m 16 (m 25 (d + 1)).toNat).toNat (by omega); omega
    · omega
theorem SY_ost (hP : YP φ N S) (hYC : YC m N B) (hYD : YD m N B nd ck) (hYF : YF m N B nd ck) (hYS : YS m e N B nd dp) (hYN : YN c m D φ e N) (hYO : YO c m φ N) (hYL : YL c m φ dp) : OST c D S dp := by
  have hbl := fun d hd => SY_bl (d := d) hYD hYF hYS hd
  obtain ⟨s0, s1, s2, s3, s4, s5, s6⟩ := hYS
  intro d hd
  have hne := hbl d hd
  obtain ⟨q1, q2, q3, q4⟩ := s1 d (by omega)
  have l1 := hYL.1 d (by omega)
  rcases hYC (m 25 d).toNat (by omega) with ⟨-, r⟩ | ⟨r1, r2, r3, r4, r5, r6, r7⟩
  · omega
  · rw [lp_p (by omega)] at l1
    have hφ := hP.1 (m 18 (m 25 d).toNat).toNat (by omega)
    have ec : (((m 25 d).toNat : Nat) : Int).toNat = (m 25 d).toNat := by omega
    rw [l1, Int.toNat_natCast]
    refine ⟨by omega, by omega, ?_, ?_, ?_⟩
    · rw [(hYN _ (by omega)).1, r7, r6, lk_n, ec]; exact q3
    · have l2 := hYL.1 (dp - 1) (by omega)
      rw [show dp - 1 + 1 = dp by omega] at l2
      rw [l2]
      have p1 := s1 (dp - 1) (by omega)
      have p2 := s2 d (dp - 1) (by omega) (by omega)
      rcases hYC (m 25 (dp - 1)).toNat (by omega) with ⟨-, t⟩ | ⟨t1, t2, t3, t4, t5, t6, t7⟩
      · rw [t, lp_n]; omega
      · rw [lp_p (by omega)]
        intro u
        have := ph_inj hP (by omega) (by omega) (Int.ofNat.inj u)
        rw [this, t6] at r6
        omega
    · have ho := hYO (m 18 (m 25 d).toNat).toNat (by omega)
      rw [r6, ec] at ho
      by_cases g : m 15 (m 25 d).toNat = 2
      · right
        rw [if_pos g] at ho
        cases d with
        | zero => have := (s3 (by omega)).1; omega
        | succ d =>
          refine ⟨d, rfl, ?_⟩
          have hb2 := hbl d (by omega)
          rcases s4 d (by omega) with ⟨-, u⟩ | ⟨u, -⟩
          · have l2 := hYL.1 d (by omega)
            rw [lp_p (by omega)] at l2
            rw [ho, u, l2]
          · omega
      · left; rw [ho, if_neg g]
theorem ca_old {r r' : Nat → Int} (h42 : ∀ q, q < S → r' q = r q) (h1 : ∀ q : Nat, q < S → -1 ≤ r q ∧ r q < q) {q : Nat} (hq : q < S) : ∀ k, ca r' k q = ca r k q ∧ -1 ≤ ca r k q ∧ ca r k q ≤ q := by
  intro k
  induction k with
  | zero => exact ⟨rfl, by show -1 ≤ (q : Int); omega, by show (q : Int) ≤ q; omega⟩
  | succ k ih =>
    obtain ⟨i1, i2, i3⟩ := ih
    show (if ca r' k q = -1 then -1 else r' (ca r' k q).toNat) = (if ca r k q = -1 then -1 else r (ca r k q).toNat) ∧ -1 ≤ (if ca r k q = -1 then -1 else r (ca r k q).toNat) ∧ (if ca r k q = -1 then -1 else r (ca r k q).toNat) ≤ (q : Int)
    rw [i1]
    by_cases g : ca r k q = -1
    · rw [if_pos g, if_pos g]; omega
    · rw [if_neg g, if_neg g, h42 _ (by omega)]
      have := h1 (ca r k q).toNat (by omega)
      omega
theorem aYZ (hC : AC c c' D S nd dp tmc tmc' w' x' y') (hd : 0 < dp) (hlr : c 40 dp = -1 ∨ (0 ≤ c 40 dp ∧ c 40 dp < S)) (hO : OST c D S dp) (h : YZ c D S) : YZ c' D (S + 1) := by
  obtain ⟨a1, a2, a3⟩ := AC_4 hC hlr
  obtain ⟨-, -, -, -, -, -, -, -, -, -, c42, -⟩ := id hC
  obtain ⟨z1, z2, z3⟩ := h
  have ow : ∀ v, v = (if 2 ≤ dp ∧ c (D + 1) (c 40 (dp - 1)).toNat = 6 then c 40 (dp - 1) else -1) → v = -1 ∨ (2 ≤ dp ∧ v = c 40 (dp - 1) ∧ 0 ≤ v ∧ v < S) := by
    intro v hv
    by_cases g : 2 ≤ dp ∧ c (D + 1) (c 40 (dp - 1)).toNat = 6
    · rw [if_pos g] at hv
      have := hO (dp - 2) (by omega)
      rw [show dp - 2 + 1 = dp - 1 by omega] at this
      exact Or.inr ⟨g.1, hv, by omega, by omega⟩
    · rw [if_neg g] at hv; exact Or.inl hv
  have o42 : ∀ q, q < S → c' 42 q = c 42 q := fun q hq => up_ne c42 (by omega)
  have n42 := ow _ (up_at c42)
  refine ⟨fun q hq => ?_, fun q hq => ?_, fun q k hq hk => ?_⟩
  · by_cases g : q = S
    · rw [g]; omega
    · rw [o42 q (by omega)]; exact z1 q (by omega)
  · by_cases g : q = S
    · rw [g, a1]; omega
    · by_cases g2 : c 40 dp = -1 ∨ q ≠ (c 40 dp).toNat
      · rw [a3 q g g2]; have := z2 q (by omega); omega
      · have := a2 (by omega)
        rw [show (c 40 dp).toNat = q by omega] at this
        rw [this]; omega
  · by_cases g : q = S
    · subst g
      cases k with
      | zero =>
        left
        show c' (D + 4) ((q : Int)).toNat = -1
        rw [Int.toNat_natCast]; exact a1
      | succ k =>
        have key : ∀ k, ca (c' 42) (k + 1) q = -1 ∨ ∃ d, d + 1 < dp ∧ ca (c' 42) (k + 1) q = c 40 (d + 1) := by
          intro k
          induction k with
          | zero =>
            have e1 : ca (c' 42) (0 + 1) q = c' 42 q := by
              show (if (q : Int) = -1 then -1 else c' 42 ((q : Int)).toNat) = c' 42 q
              rw [if_neg (by omega), Int.toNat_natCast]
            rw [e1]
            rcases n42 with u | ⟨u1, u2, -⟩
            · exact Or.inl u
            · right
              exact ⟨dp - 2, by omega, by rw [show dp - 2 + 1 = dp - 1 by omega]; exact u2⟩
          | succ k ih =>
            have e1 : ca (c' 42) (k + 1 + 1) q = if ca (c' 42) (k + 1) q = -1 then -1 else c' 42 (ca (c' 42) (k + 1) q).toNat := rfl
            rcases ih with u | ⟨d, u1, u2⟩
            · left; rw [e1, if_pos u]
            · obtain ⟨v1, v2, v3, v4, v5⟩ := hO d u1
              rw [e1, u2, if_neg (by omega), o42 _ (by omega)]
              rcases v5 with v5 | ⟨d', v5, v6⟩
              · exact Or.inl v5
              · exact Or.inr ⟨d', by omega, v6⟩
        rcases key k with u | ⟨d, u1, u2⟩
        · exact absurd u hk
        · left
          obtain ⟨v1, v2, v3, v4, -⟩ := hO d u1
          rw [u2, a3 _ (by omega) (by omega)]
          exact v3
    · have hq' : q < S := by omega
      obtain ⟨i1, i2, i3⟩ := ca_old o42 z1 hq' k
      rw [i1] at hk ⊢
      by_cases g2 : c 40 dp = -1 ∨ (ca (c 42) k q).toNat ≠ (c 40 dp).toNat
      · rw [a3 _ (by omega) g2]
        exact z3 q k hq' hk
      · right
        have := a2 (by omega)
        rw [show (ca (c 42) k q).toNat = (c 40 dp).toNat by omega, this]
        omega
end SCHAIN
