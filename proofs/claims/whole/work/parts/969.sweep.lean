/-! ===== pure layer: a sweep of the class's analysis ===== -/
section SWEEP
variable {D N S B nd ck ts tm H : Nat} {c m : St} {φ : Nat → Nat} {e : Nat → Int}
/-- what follows a statement -/
theorem nx_ok (h : SRx D c m φ e N S B nd ck ts tm) : ∀ s, s < N → ((φ s : Nat) : Int) < c (D + 4) (φ s) ∧ c (D + 4) (φ s) < S := by
  obtain ⟨-, ⟨hYP, hYA, -, -, hYD, -⟩, hmk, hnx, -, -, -, -, -, -, -, -, -, hor, -⟩ := h
  have key : ∀ s, s < N → c (D + 4) (φ s) ≠ -1 := by
    intro s
    induction s using Nat.strongRecOn with
    | _ s ih =>
      intro hs
      have a7 := hYA s hs
      rw [hnx s hs]
      by_cases g : m 6 s = -1
      · rw [if_pos g]
        by_cases g2 : m 15 (m 7 s).toNat = 2
        · rw [if_pos g2]
          have o := hYD.2 s hs g2
          have o2 : 0 ≤ m 16 (m 7 s).toNat := by
            rcases (hYD.1 (m 7 s).toNat (by omega)).2.2 with ⟨v, -⟩ | ⟨v, -⟩ | ⟨-, v, -⟩
            · omega
            · omega
            · exact v
          exact ih (m 16 (m 7 s).toNat).toNat (by omega) (by omega)
        · rw [if_neg g2]
          have := ((hmk (m 7 s).toNat (by omega)).2 g2).1
          omega
      · rw [if_neg g]; omega
  intro s hs
  rcases hor (φ s) (hYP.1 s hs) with u | u
  · exact absurd u (key s hs)
  · exact u
/-- what is sure of every statement of a story that was read -/
theorem XQ_of (h : SRx D c m φ e N S B nd ck ts tm) : ∀ x, x < S → XQ c D S x := by
  have hnx := nx_ok h
  have h' := h
  obtain ⟨⟨-, -, -, -, -, -, -, ntm, -, n14, -, nd0, nd12, ck16, ts16, nS, nB, ntm2⟩, ⟨hYP, hYA, hYB, hYC, hYD, hYE, hYF, hop⟩, hmk, -, hts, -, -, ⟨hYK, hgo⟩, hYT, -, -, hYQ, hYU, -⟩ := h'
  intro x hx
  rcases hYU x hx with ⟨s, hs, rfl⟩ | ⟨b, hb, hbx⟩
  · have nx := hnx s hs
    have a7 := hYA s hs
    have b19 := hYD.1 (m 7 s).toNat (by omega)
    have tqx : TQ c D (φ s) := by
      obtain ⟨t1, t2, t3, t4, t5⟩ := hYT.2 s hs
      refine ⟨by omega, by omega, by omega, by omega, fun t ht => ?_⟩
      obtain ⟨q1, q2, q3, q4⟩ := hYT.1 t (by omega)
      rw [q1, q2, q3]; exact q4
    have fs : ∀ q : Nat, q < B → m 15 q = 2 → m 16 q = (s : Int) → m 17 q ≠ -1 → ((φ s : Nat) : Int) < ((φ (m 17 q).toNat : Nat) : Int) ∧ ((φ (m 17 q).toNat : Nat) : Int) < S := by
      intro q hq q2 q3 q4
      rcases hYC q hq with ⟨u, -⟩ | ⟨u1, u2, u3, -⟩
      · exact absurd u q4
      · have o := hYD.2 (m 17 q).toNat (by omega) (by rw [u3, Int.toNat_natCast]; exact q2)
        rw [u3, Int.toNat_natCast, q3] at o
        have p1 := hYP.2 s (m 17 q).toNat (by omega) (by omega)
        have p2 := hYP.1 (m 17 q).toNat (by omega)
        omega
    rcases hYK s hs with ⟨u1, u2, u3, u4, u5⟩ | ⟨u1, u2, u3, u4, u5⟩ | ⟨u1, u2, u3, u4, u5, u6, u7, u8⟩ | ⟨u1, u2, u3⟩ | ⟨u1, u2, u3, u4, u5⟩ | ⟨u1, u2, u3, u4, u5, u6, u7⟩ | ⟨u1, u2, u3⟩ | ⟨u1, u2, u3, u4, u5⟩
    · exact ⟨by omega, fun _ => nx, fun w => by omega, fun w => by omega, fun w => by omega, fun w => by omega, fun w => by omega, fun w => by omega, fun w => by omega⟩
    · exact ⟨by omega, fun _ => nx, fun w => by omega, fun w => by omega, fun w => by omega, fun w => by omega, fun w => by omega, fun w => by omega, fun w => by omega⟩
    · exact ⟨by omega, fun _ => nx, fun w => by omega, fun _ _ => ⟨by omega, by omega, by omega, by omega⟩, fun w => by omega, fun w => by omega, fun w => by omega, fun w => by omega, fun w => by omega⟩
    · obtain ⟨v1, v2, v3, v4⟩ := (hYE s hs).1 u1
      have o8 := hop s hs (Or.inl u1)
      obtain ⟨f5, f6⟩ := hts s hs u1
      have x5 : ((φ s : Nat) : Int) < c (D + 5) (φ s) ∧ c (D + 5) (φ s) < S := by
        rw [f5]
        by_cases z : m 17 (m 8 s).toNat = -1
        · rw [if_pos z]; exact nx
        · rw [if_neg z]
          rcases v3 with v | ⟨y1, y2, y3, y4⟩
          · exact absurd v o8
          · exact fs _ (by omega) y3 y4 z
      have x6 : ((φ s : Nat) : Int) < c (D + 6) (φ s) ∧ c (D + 6) (φ s) < S := by
        rw [f6]
        by_cases z : m 9 s = -1 ∨ m 17 (m 9 s).toNat = -1
        · rw [if_pos z]; exact nx
        · rw [if_neg z]
          rcases v4 with v | ⟨y1, y2, y3, y4, -⟩
          · exact absurd (Or.inl v) z
          · exact fs _ (by omega) y3 y4 (fun w => z (Or.inr w))
      exact ⟨by omega, fun w => by omega, fun w => by omega, fun w => by omega, fun _ => ⟨x5.1, x5.2, x6.1, x6.2, by omega, by omega, tqx⟩, fun w => by omega, fun w => by omega, fun w => by omega, fun w => by omega⟩
    · obtain ⟨v1, v2, -⟩ := (hYE s hs).2 u1
      exact ⟨by omega, fun _ => nx, fun w => by omega, fun w => by omega, fun w => by omega, fun _ => ⟨by omega, by omega, tqx⟩, fun w => by omega, fun w => by omega, fun w => by omega⟩
    · have g := hgo s hs u1
      exact ⟨by omega, fun w => by omega, fun w => by omega, fun w => by omega, fun w => by omega, fun w => by omega, fun _ => ⟨by omega, by omega⟩, fun w => by omega, fun w => by omega⟩
    · exact ⟨by omega, fun w => by omega, fun w => by omega, fun w => by omega, fun w => by omega, fun w => by omega, fun _ => ⟨by omega, by omega⟩, fun w => by omega, fun w => by omega⟩
    · exact ⟨by omega, fun w => by omega, fun w => by omega, fun w => by omega, fun w => by omega, fun w => by omega, fun w => by omega, fun _ => ⟨by omega, by omega⟩, fun w => by omega⟩
  · have mk := hmk b hb
    have k2 : m 15 b ≠ 2 := by
      intro u
      have := mk.1 u
      omega
    obtain ⟨e1, e2, e3⟩ := mk.2 k2
    rw [hbx, Int.toNat_natCast] at e3
    have b19 := hYD.1 b hb
    rcases e3 with ⟨v1, v2, v3⟩ | ⟨v1, v2, v3⟩
    · exact ⟨by omega, fun w => by omega, fun w => by omega, fun w => by omega, fun w => by omega, fun w => by omega, fun _ => ⟨by omega, by omega⟩, fun w => by omega, fun w => by omega⟩
    · have kk : 0 ≤ m 16 b ∧ m 16 b < ck := by
        rcases b19.2.2 with ⟨u, -⟩ | ⟨-, u1, u2, -⟩ | ⟨u, -⟩
        · omega
        · exact ⟨u1, u2⟩
        · omega
      obtain ⟨f1, f2, f3, f4⟩ := hYF.1 (m 16 b).toNat (by omega)
      have q16 := (hYQ (m 16 b).toNat (by omega)).2
      have a7 := hYA (m 24 (m 16 b).toNat).toNat (by omega)
      have d19 := hYD.1 (m 7 (m 24 (m 16 b).toNat).toNat).toNat (by omega)
      exact ⟨by omega, fun w => by omega, fun w => by omega, fun w => by omega, fun w => by omega, fun w => by omega, fun w => by omega, fun w => by omega, fun _ => by rw [v3, q16]; exact ⟨by omega, by omega, by omega, by omega⟩⟩
/-- what is sure of the choices of a story that was read -/
theorem HCk_of (h : SRx D c m φ e N S B nd ck ts tm) (hH : HM c D ck H) : HCk c D H := by
  obtain ⟨⟨-, -, -, -, -, -, -, -, -, n14, -, -, nd12, ck16, -, -, -, -⟩, ⟨-, hYA, -, -, hYD, -, hYF, -⟩, -, -, -, -, -, -, -, -, -, hYQ, -⟩ := h
  obtain ⟨-, hh, h1, h2, h3⟩ := hH
  refine ⟨ck, hh, n14, ck16, h1, h2, fun k hk => ⟨h3 k hk, ?_⟩⟩
  obtain ⟨f1, f2, f3, f4⟩ := hYF.1 k hk
  have a7 := hYA (m 24 k).toNat (by omega)
  have d19 := hYD.1 (m 7 (m 24 k).toNat).toNat (by omega)
  rw [(hYQ k hk).2]
  exact ⟨d19.1, by omega⟩
end SWEEP
/-- closedness is kept when things grow -/
theorem CLS_up {c : St} {D H S x : Nat} {A A' E E' : Nat → Nat → Nat} (hq : XQ c D S x) (hS4 : S ≤ 400) (h : CLS c D H A E x) (hx : A' x = A x) (hA : ∀ z, z < 400 → SLE (A z) (A' z)) (hE : ∀ i, i < 28 → KLE (E i) (E' i)) : CLS c D H A' E' x := by
  intro u
  rw [hx] at u ⊢
  obtain ⟨b0, b1, b2, b3, b6, b7, b8, b9, b11, b12⟩ := h u
  obtain ⟨-, q1, -, -, q6, -, q8, -, q12⟩ := hq
  refine ⟨fun w => SLE_trans (b0 w) (hA _ (by have := q1 (by omega); omega)), fun w => SLE_trans (b1 w) (hA _ (by have := q1 (by omega); omega)), fun w => SLE_trans (b2 w) (hA _ (by have := q1 (by omega); omega)), fun w w' => SLE_trans (b3 w w') (hA _ (by have := q1 (by omega); omega)), fun w => ⟨SLE_trans (b6 w).1 (hA _ (by have := q6 w; omega)), SLE_trans (b6 w).2 (hA _ (by have := q6 w; omega))⟩, fun w => SLE_trans (b7 w) (hA _ (by have := q1 (by omega); omega)), fun w => KLE_trans (b8 w) (hE _ (by have := q8 (by omega); omega)), fun w k hk hb => KLE_trans (b9 w k hk hb) (hE _ (by omega)), fun w k hk hb => KLE_trans (b11 w k hk hb) (hE _ (by omega)), fun w z => KLE_trans (b12 w z) (hE _ (by have := q12 w; omega))⟩
theorem CHG_trans {c c1 c2 : St} {E E1 E2 : Nat → Nat → Nat} (hE : ∀ i, i < 28 → KV (E i)) (hE1 : ∀ i, i < 28 → KV (E1 i)) (hE2 : ∀ i, i < 28 → KV (E2 i)) (l1 : ∀ i, i < 28 → KLE (E i) (E1 i)) (l2 : ∀ i, i < 28 → KLE (E1 i) (E2 i)) (h : CHG c c1 E E1) (h' : CHG c1 c2 E1 E2) : CHG c c2 E E2 := by
  obtain ⟨a7, a8, a9, a10⟩ := h
  obtain ⟨b7, b8, b9, b10⟩ := h'
  have m1 := mu_le (E := E) (E' := E1) 28 (fun i hi => ⟨hE i hi, hE1 i hi, l1 i hi⟩)
  have m2 := mu_le (E := E1) (E' := E2) 28 (fun i hi => ⟨hE1 i hi, hE2 i hi, l2 i hi⟩)
  refine ⟨b7, fun u => b8 (a8 u), fun u i hi => ?_, fun u w => ?_⟩
  · have : c1 65 2 = 0 := by
      by_cases z : c1 65 2 = 0
      · exact z
      · exact absurd u (b8 z)
    rw [b9 u i hi, a9 this i hi]
  · by_cases z : c1 65 2 = 0
    · have := b10 z w; omega
    · have := a10 u z; omega
