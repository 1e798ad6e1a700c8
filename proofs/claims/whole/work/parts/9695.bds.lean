/-! ===== pure layer: a story that was read is fit for the analysis ===== -/
section BDSOF
variable {D N S B nd ck ts tm H : Nat} {c m : St} {φ : Nat → Nat} {e : Nat → Int}
/-- a test of the class is one of the reference -/
theorem six_of (h : SRx D c m φ e N S B nd ck ts tm) {x : Nat} (hx : x < S) (hk : c (D + 1) x = 6) : ∃ s, s < N ∧ φ s = x ∧ m 3 s = 3 ∧ c (D + 2) x = m 4 s := by
  obtain ⟨-, -, hmk, -, -, -, -, ⟨hYK, -⟩, -, -, -, -, hYU, -⟩ := h
  rcases hYU x hx with ⟨s, hs, rfl⟩ | ⟨b, hb, hbx⟩
  · refine ⟨s, hs, rfl, ?_⟩
    rcases hYK s hs with ⟨u1, u2, u3, u4, u5⟩ | ⟨u1, u2, u3, u4, u5⟩ | ⟨u1, u2, u3, u4, u5, u6, u7, u8⟩ | ⟨u1, u2, u3⟩ | ⟨u1, u2, u3, u4, u5⟩ | ⟨u1, u2, u3, u4, u5, u6, u7⟩ | ⟨u1, u2, u3⟩ | ⟨u1, u2, u3, u4, u5⟩
    · omega
    · omega
    · omega
    · exact ⟨u1, u3⟩
    · omega
    · omega
    · omega
    · omega
  · have mk := hmk b hb
    have k2 : m 15 b ≠ 2 := by
      intro u
      have := mk.1 u
      omega
    obtain ⟨e1, e2, e3⟩ := mk.2 k2
    rw [hbx, Int.toNat_natCast] at e3
    rcases e3 with ⟨v1, v2, v3⟩ | ⟨v1, v2, v3⟩ <;> omega
theorem DT_of (h : SRx D c m φ e N S B nd ck ts tm) : DT c D S := by
  intro x y hx hy kx ky hw
  obtain ⟨s, s1, s2, s3, s4⟩ := six_of h hx kx
  obtain ⟨t, t1, t2, t3, t4⟩ := six_of h hy ky
  obtain ⟨-, -, -, -, -, -, -, -, -, -, -, -, -, -, δ, hb, -, -, -, hinc⟩ := h
  have : s = t := by
    rcases Nat.lt_trichotomy s t with g | g | g
    · have := hinc s t g t1 s3 t3; omega
    · exact g
    · have := hinc t s g s1 t3 s3; omega
  rw [← s2, ← t2, this]
theorem lk_ok (h : SRx D c m φ e N S B nd ck ts tm) {b : Int} (hb0 : 0 ≤ b) (hb : b < B) (h2 : m 15 b.toNat ≠ 2) : 0 ≤ lk φ e (m 17 b.toNat) b ∧ lk φ e (m 17 b.toNat) b < S := by
  obtain ⟨-, ⟨hYP, -, -, hYC, -⟩, hmk, -⟩ := h
  unfold lk
  by_cases g : m 17 b.toNat = -1
  · rw [if_pos g]
    have := (hmk b.toNat (by omega)).2 h2
    exact ⟨this.1, this.2.1⟩
  · rw [if_neg g]
    rcases hYC b.toNat (by omega) with ⟨u, -⟩ | ⟨u1, u2, -⟩
    · exact absurd u g
    · have := hYP.1 (m 17 b.toNat).toNat (by omega)
      omega
theorem BDSx_of (hD : D = 2 ∨ D = 20) (h : SRx D c m φ e N S B nd ck ts tm) (hH : HM c D ck H) : ∃ hh : Nat, BDSx c D S H nd ck hh := by
  have q1 := XQ_of h
  have q2 := HCk_of h hH
  have q3 := DT_of h
  have q4 := @lk_ok D N S B nd ck ts tm c m φ e h
  obtain ⟨-, hh, h1, h2, -⟩ := hH
  obtain ⟨⟨-, -, -, -, -, -, n0, -, n10, n14, -, nd0, nd12, ck16, -, nS, -, -⟩, ⟨hYP, hYA, -, -, hYD, hYE, hYF, hop⟩, -, -, -, hcf, hnf, -⟩ := h
  refine ⟨hh, hD, n0, nS, ⟨n10, nd12⟩, ⟨n14, ck16⟩, ⟨h1, h2⟩, fun v hv => ?_, fun k hk => ?_, q1, q2, q3⟩
  · rw [hnf v hv]
    obtain ⟨f1, f2, f3, -⟩ := hYF.2 v hv
    exact q4 f1 f2 (by omega)
  · rw [hcf k hk]
    obtain ⟨f1, f2, f3, f4⟩ := hYF.1 k hk
    have o8 := hop (m 24 k).toNat (by omega) (Or.inr f3)
    obtain ⟨-, -, -, v4⟩ := (hYE (m 24 k).toNat (by omega)).2 f3
    rcases v4 with v | ⟨y1, y2, y3, -⟩
    · exact absurd v o8
    · exact q4 y1 y2 (by omega)
/-- how many nodes are reached -/
def rchN (E : Nat → Nat → Nat) : Nat → Nat
  | 0 => 0
  | k + 1 => rchN E k + if E k 0 = 0 then 0 else 1
theorem t_reached {E : Nat → Nat → Nat} (hE : CEr c E) {Q : St → Int → Prop} (hQ : Q c ((rchN E 12 : Nat) : Int)) : f_X0_reachedNodes c Q := by
  have key : ∀ (j k fu : Nat), k + j = 12 → j < fu → f_X0_reachedNodes_L4 Q fu c ((rchN E k : Nat) : Int) (k : Int) := by
    intro j
    induction j with
    | zero =>
      intro k fu hk hf
      cases fu with
      | zero => omega
      | succ fu =>
        have : k = 12 := by omega
        subst this
        unfold f_X0_reachedNodes_L4
        exact ⟨⟨by omega, by omega⟩, fun _ => hQ, fun u => by omega⟩
    | succ j ih =>
      intro k fu hk hf
      cases fu with
      | zero => omega
      | succ fu =>
        have nx := ih (k + 1) fu (by omega) (by omega)
        have ek := hE.2.2 k (by omega)
        unfold f_X0_reachedNodes_L4
        rw [Int.toNat_natCast, hE.1 k (by omega)]
        refine ⟨⟨by omega, by omega⟩, fun u => by omega, fun _ => ⟨by omega, by omega, lcmp_r _ _, fun u => ?_, fun u => ?_⟩⟩
        · rw [lcmp_pkg0 ek] at u
          have : rchN E (k + 1) = rchN E k := by show rchN E k + (if E k 0 = 0 then 0 else 1) = _; rw [if_pos u]; rfl
          rw [this] at nx; exact nx
        · rw [lcmp_pkg0 ek] at u
          have : rchN E (k + 1) = rchN E k + 1 := by show rchN E k + (if E k 0 = 0 then 0 else 1) = _; rw [if_neg u]
          rw [this] at nx
          exact nx
  exact key 12 0 FU (by decide) (by show 12 < 100000; decide)
end BDSOF
