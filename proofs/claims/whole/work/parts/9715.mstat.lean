/-! ===== pure layer: what the story says of a statement of the walk ===== -/
section MSTAT
variable {m0 m c : St} {D N S B nd ck ts tm H d s : Nat} {φ : Nat → Nat} {e : Nat → Int} {g : Nat → Nat} {E : Nat → Nat → Nat}
theorem S_s401 (h : SRx D c m0 φ e N S B nd ck ts tm) (hs : s < N) : s < 400 ∧ φ s < S ∧ S ≤ 400 := by
  obtain ⟨⟨-, -, -, -, -, -, -, -, -, -, -, -, -, -, -, nS, -, -⟩, ⟨hYP, -⟩, -⟩ := h
  have a := phi_ge hYP s hs
  have b := hYP.1 s hs
  omega
theorem S_next (h : SRx D c m0 φ e N S B nd ck ts tm) (hs : s < N) : c (D + 4) (φ s) = psv c m0 D φ e (m0 6 s) (m0 7 s).toNat := by
  obtain ⟨-, -, -, h4, -⟩ := h
  unfold psv ceb
  exact h4 s hs
theorem S_terms (h : SRx D c m0 φ e N S B nd ck ts tm) (hs : s < N) : m0 10 s = (((c (D + 7) (φ s)).toNat : Nat) : Int) ∧ m0 11 s = (((c (D + 7) (φ s)).toNat + tn c D (φ s) : Nat) : Int) ∧ (c (D + 7) (φ s)).toNat + tn c D (φ s) ≤ 401 ∧ MTr m0 (tk c D) (tq c D) (tv c D) (c (D + 7) (φ s)).toNat (tn c D (φ s)) := by
  obtain ⟨⟨-, -, -, -, -, -, -, -, -, -, -, -, -, -, -, -, -, ntm⟩, -, -, -, -, -, -, -, hYT, -⟩ := h
  obtain ⟨t1, t2, t3, t4, t5⟩ := hYT.2 s hs
  have e7 : m0 10 s = (((c (D + 7) (φ s)).toNat : Nat) : Int) := by omega
  have e8 : m0 11 s = (((c (D + 7) (φ s)).toNat + tn c D (φ s) : Nat) : Int) := by unfold tn; omega
  refine ⟨e7, e8, by omega, fun s' u w => ?_⟩
  obtain ⟨a1, a2, a3, a4⟩ := hYT.1 s' (by omega)
  have b := TR_nat a4
  unfold tk tq tv
  rw [a1, a2, a3]
  refine ⟨by omega, by omega, by omega, fun z => ?_, b.2⟩
  rcases a4 with ⟨c1, c2, c3, c4⟩ | ⟨c1, c2, c3, c4, c5, c6⟩ <;> omega
theorem SM_hub (h : SRx D c m0 φ e N S B nd ck ts tm) (hH : HM c D ck H) {ch : Nat} (hch : ch < ck) : 0 ≤ m0 7 (m0 24 ch).toNat ∧ m0 7 (m0 24 ch).toNat < 64 ∧ 0 ≤ m0 19 (m0 7 (m0 24 ch).toNat).toNat ∧ m0 19 (m0 7 (m0 24 ch).toNat).toNat < 12 ∧ m0 21 (m0 19 (m0 7 (m0 24 ch).toNat).toNat).toNat = if H.testBit ch then 1 else 0 := by
  obtain ⟨⟨-, -, -, -, -, -, -, -, -, -, -, -, nd12, -, -, -, nB, -⟩, ⟨-, hYA, -, -, hYD, -, hYF, -⟩, -, -, -, -, -, -, -, -, hYH, hYQ, -⟩ := h
  obtain ⟨f1, f2, -⟩ := hYF.1 ch hch
  have a7 := hYA (m0 24 ch).toNat (by omega)
  obtain ⟨d1, d2, -⟩ := hYD.1 (m0 7 (m0 24 ch).toNat).toNat (by omega)
  obtain ⟨h1, h2, -, h3⟩ := hYH
  obtain ⟨-, h1', h2', h3', h4'⟩ := hH
  have eh : h1 = h1' := by omega
  have q := (hYQ ch hch).2
  refine ⟨by omega, by omega, by omega, by omega, ?_⟩
  rw [h3 _ (by omega), h4' ch hch, q, eh]
/-- a statement that is no test -/
theorem L_any (h : SRx D c m0 φ e N S B nd ck ts tm) (hH : HM c D ck H) (hs : s < N) (h3 : m0 3 s ≠ 3) (hW : WSt m0 m ck g E d (s : Int)) (hg0 : g 0 = 1) : LRN m0 m ck g E d s c D H (φ s) (m0 19 (m0 7 s).toNat) ∧ c (D + 1) (φ s) ≠ 6 ∧ c (D + 1) (φ s) ≠ 11 := by
  have hx := S_s401 h hs
  have hxq := XQ_of h (φ s) hx.2.1
  have hst := S_terms h hs
  have hhb := @SM_hub m0 c D N S B nd ck ts tm H φ e h hH
  obtain ⟨⟨-, -, -, -, -, -, -, -, -, -, -, -, nd12, ck16, -, -, nB, -⟩, ⟨hYP, hYA, -, -, hYD, hYE, hYF, -⟩, -, -, -, -, -, ⟨hYK, hgo⟩, -⟩ := h
  have r : ∀ q, q ≠ 0 → q < 36 → m q = m0 q := fun q a b => hW.1.1 q a (Or.inl b)
  have r3 := r 3 (by decide) (by decide)
  have r4 := r 4 (by decide) (by decide)
  have r5 := r 5 (by decide) (by decide)
  have r8 := r 8 (by decide) (by decide)
  have hs4 : s < 401 := by omega
  have a7 := hYA s hs
  obtain ⟨d1, d2, -⟩ := hYD.1 (m0 7 s).toNat (by omega)
  have hk := hYK s hs
  unfold KR at hk
  rcases hk with ⟨u1, u2, -⟩ | ⟨u1, u2, u3, u4, u5⟩ | ⟨u1, u2, u3, u4, u5, u6, u7, u8⟩ | ⟨u1, u2, u3⟩ | ⟨u1, u2, u3, -⟩ | ⟨u1, u2, u3, u4, u5, -⟩ | ⟨u1, u2, u3⟩ | ⟨u1, u2, u3, u4, u5⟩
  · exact ⟨L_line hW hg0 hs4 (by rw [r3]; exact u1) u2, by omega⟩
  · rcases u5 with ⟨v1, v2⟩ | ⟨v1, v2⟩
    · exact ⟨L_flag (o := (c (D + 2) (φ s)).toNat) (b := 1) hW hg0 hs4 (by rw [r3]; exact u1) (by omega) (by decide) (by rw [r4]; omega) (by rw [r5, v1]; rfl) (LSa_1 v2 hg0) (by omega) (by omega), by omega⟩
    · exact ⟨L_flag (o := (c (D + 2) (φ s)).toNat) (b := 0) hW hg0 hs4 (by rw [r3]; exact u1) (by omega) (by decide) (by rw [r4]; omega) (by rw [r5, v1]; rfl) (LSa_2 v2 hg0) (by omega) (by omega), by omega⟩
  · have kw : 3 ≤ c (D + 1) (φ s) ∧ c (D + 1) (φ s) ≤ 5 := by omega
    exact ⟨L_meter (o := (c (D + 2) (φ s)).toNat) (y := (c (D + 3) (φ s)).toNat) (w := (c (D + 1) (φ s)).toNat) hW hg0 hs4 (by rw [r3]; exact u1) (by omega) (by omega) (by rw [r4]; omega) (by rw [r5]; omega) (by rw [r8]; omega) (LSa_3 kw.1 kw.2 (by omega) hg0) (by omega) (by omega), by omega⟩
  · exact absurd u1 h3
  · obtain ⟨e1, e2, e3, -⟩ := (hYE s hs).2 u1
    have hc : (c (D + 2) (φ s)).toNat < ck := by omega
    have ec : (m0 4 s).toNat = (c (D + 2) (φ s)).toNat := by omega
    rw [ec] at e3
    have q := hhb hc
    rw [e3, Int.toNat_natCast] at q
    obtain ⟨q1, q2, q3, q4, q5⟩ := q
    have tq' := hxq.2.2.2.2.2.1 u2
    refine ⟨L_choice (k := tk c D) (o := tq c D) (v := tv c D) (t := (c (D + 7) (φ s)).toNat) (n := tn c D (φ s)) (ch := (c (D + 2) (φ s)).toNat) (s2 := s) (b2 := (m0 7 s).toNat) (nd := (m0 19 (m0 7 s).toNat).toNat) (hub := H.testBit (c (D + 2) (φ s)).toNat) hW ck16 hg0 hs4 (by rw [r3]; exact u1) (by rw [r 10 (by decide) (by decide)]; exact hst.1) (by rw [r 11 (by decide) (by decide)]; exact hst.2.1) hst.2.2.1 (fun s' a b => by rw [r 12 (by decide) (by decide), r 13 (by decide) (by decide), r 14 (by decide) (by decide)]; exact hst.2.2.2 s' a b) (by rw [r4]; omega) hc (by rw [r 24 (by decide) (by decide)]; exact e3) hs4 (by rw [r 7 (by decide) (by decide)]; omega) (by omega) (by rw [r 19 (by decide) (by decide)]; omega) (by omega) (by rw [r 21 (by decide) (by decide)]; exact q5) (LSa_7 u2 tq'.2.2 hW.2.2.2.1.1 hg0) (by omega) (by omega), by omega⟩
  · have g1 := hgo s hs u1
    exact ⟨L_go (a := (m0 4 s).toNat) hW hg0 hs4 (by rw [r3]; exact u1) (by omega) (by rw [r4]; omega) u2 (by omega), by omega⟩
  · have := L_hub (v := (m0 19 (m0 7 s).toNat).toNat) (c := c) (D := D) (H := H) (x := φ s) hW hg0 hs4 (by rw [r3]; exact u1) (by omega) u2 (by omega)
    rw [show (((m0 19 (m0 7 s).toNat).toNat : Nat) : Int) = m0 19 (m0 7 s).toNat by omega] at this
    exact ⟨this, by omega⟩
  · exact ⟨L_end (a := (m0 4 s).toNat) hW hs4 (by rw [r3]; exact u1) (by omega) (by rw [r4]; omega) u2 (by omega), by omega⟩
/-- a test and its blocks -/
theorem SM_test (h : SRx D c m0 φ e N S B nd ck ts tm) (hs : s < N) (h3 : m0 3 s = 3) : c (D + 1) (φ s) = 6 ∧ TQ c D (φ s) ∧ c (D + 2) (φ s) = m0 4 s ∧ 0 ≤ m0 4 s ∧ m0 4 s < 16 ∧ ∃ q1 : Nat, m0 8 s = (q1 : Int) ∧ q1 < B ∧ m0 15 q1 = 2 ∧ m0 16 q1 = (s : Int) ∧ ceb c m0 D φ e q1 = c (D + 4) (φ s) ∧ psv c m0 D φ e (m0 17 q1) q1 = c (D + 5) (φ s) ∧ ((m0 9 s = -1 ∧ c (D + 6) (φ s) = c (D + 4) (φ s)) ∨ ∃ q2 : Nat, m0 9 s = (q2 : Int) ∧ q2 < B ∧ m0 15 q2 = 2 ∧ m0 16 q2 = (s : Int) ∧ ceb c m0 D φ e q2 = c (D + 4) (φ s) ∧ psv c m0 D φ e (m0 17 q2) q2 = c (D + 6) (φ s)) := by
  have hx := S_s401 h hs
  have hxq := XQ_of h (φ s) hx.2.1
  obtain ⟨⟨-, -, -, -, -, -, -, -, -, -, -, -, -, -, ts16, -, -, -⟩, ⟨-, -, -, -, -, hYE, -, hop⟩, -, -, h5, -, -, ⟨hYK, -⟩, -⟩ := h
  have hk := hYK s hs
  unfold KR at hk
  have k6 : c (D + 1) (φ s) = 6 ∧ c (D + 2) (φ s) = m0 4 s := by omega
  obtain ⟨e1, e2, e3, e4⟩ := (hYE s hs).1 h3
  have n8 := hop s hs (Or.inl h3)
  obtain ⟨p5, p6⟩ := h5 s hs h3
  rcases e3 with e3 | ⟨a1, a2, a3, a4⟩
  · exact absurd e3 n8
  · have ceq : ∀ q : Nat, m0 15 q = 2 → m0 16 q = (s : Int) → ceb c m0 D φ e q = c (D + 4) (φ s) := by
      intro q u1 u2
      unfold ceb
      rw [if_pos u1, u2, Int.toNat_natCast]
    have psq : ∀ q : Nat, ceb c m0 D φ e q = c (D + 4) (φ s) → psv c m0 D φ e (m0 17 q) q = if m0 17 q = -1 then c (D + 4) (φ s) else ((φ (m0 17 q).toNat : Nat) : Int) := by
      intro q u1
      unfold psv
      rw [u1]
    refine ⟨k6.1, (hxq.2.2.2.2.1 k6.1).2.2.2.2.2.2, k6.2, e1, by omega, (m0 8 s).toNat, by omega, by omega, a3, a4, ceq _ a3 a4, ?_, ?_⟩
    · rw [psq _ (ceq _ a3 a4), p5]
    · rcases e4 with e4 | ⟨b1, b2, b3, b4, -⟩
      · left
        exact ⟨e4, by rw [p6, if_pos (Or.inl e4)]⟩
      · right
        refine ⟨(m0 9 s).toNat, by omega, by omega, b3, b4, ceq _ b3 b4, ?_⟩
        rw [psq _ (ceq _ b3 b4), p6]
        by_cases z : m0 17 (m0 9 s).toNat = -1
        · rw [if_pos z, if_pos (Or.inr z)]
        · rw [if_neg z, if_neg (fun u => by rcases u with u | u; omega; exact z u)]
/-- the block around all tests -/
theorem rt_par {δ hb : Nat → Nat} {q : Nat} (h : SRx D c m0 φ e N S B nd ck ts tm) (hY : YWc m0 N B δ hb) (hq : q < B) (hk : m0 15 q = 2) : rtb m0 q = rtb m0 (m0 7 (m0 16 q).toNat).toNat := by
  obtain ⟨-, ⟨-, hYA, -, -, hYD, -⟩, -⟩ := h
  have par : ∀ q, q < B → m0 15 q = 2 → (m0 7 (m0 16 q).toNat).toNat < B ∧ δ q = δ (m0 7 (m0 16 q).toNat).toNat + 1 := by
    intro q hq hk
    obtain ⟨-, -, -, y4, -⟩ := hY.1 q hq
    rcases (hYD.1 q hq).2.2 with ⟨u, -⟩ | ⟨u, -⟩ | ⟨-, u1, u2, -⟩
    · omega
    · omega
    · have := hYA (m0 16 q).toNat (by omega)
      exact ⟨by omega, (y4 hk).1⟩
  have stab : ∀ f q, q < B → δ q ≤ f + 1 → rtF m0 (f + 1) q = rtF m0 f q := by
    intro f
    induction f with
    | zero =>
      intro q hq hd
      show (if m0 15 q = 2 then rtF m0 0 (m0 7 (m0 16 q).toNat).toNat else q) = q
      by_cases z : m0 15 q = 2
      · obtain ⟨p1, p2⟩ := par q hq z
        have := (hY.1 _ p1).1
        omega
      · rw [if_neg z]
    | succ f ih =>
      intro q hq hd
      show (if m0 15 q = 2 then rtF m0 (f + 1) (m0 7 (m0 16 q).toNat).toNat else q) = (if m0 15 q = 2 then rtF m0 f (m0 7 (m0 16 q).toNat).toNat else q)
      by_cases z : m0 15 q = 2
      · obtain ⟨p1, p2⟩ := par q hq z
        rw [if_pos z, if_pos z]
        exact ih _ p1 (by omega)
      · rw [if_neg z, if_neg z]
  obtain ⟨p1, p2⟩ := par q hq hk
  have d6 := (hY.1 q hq).2.1
  unfold rtb
  rw [stab 5 _ p1 (by omega)]
  show (if m0 15 q = 2 then rtF m0 5 (m0 7 (m0 16 q).toNat).toNat else q) = _
  rw [if_pos hk]
end MSTAT
