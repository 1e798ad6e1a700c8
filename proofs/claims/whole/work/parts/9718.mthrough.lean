/-! ===== pure layer: the reference goes through a block from its entry ===== -/
def blk (m : St) (ee : Nat) : Nat := if ee < 12 then (m 22 ee).toNat else (m 8 (m 24 (ee - 12)).toNat).toNat
def stg (hh ee : Nat) (g : Nat → Nat) : Nat → Nat := ent (if ee < 12 then aHb hh ee g else g)
def stp (c : St) (D ee : Nat) : Nat := (if ee < 12 then c (D + 14) ee else c (D + 17) (ee - 12)).toNat
/-- the class's statements that belong to an entry -/
def OWNe (m : St) (φ : Nat → Nat) (e : Nat → Int) (N ee x : Nat) : Prop := (∃ s, s < N ∧ x = φ s ∧ rtb m (m 7 s).toNat = blk m ee) ∨ e (blk m ee) = (x : Int)
/-- a piece of a sweep -/
def SWc (c m0 : St) (D H S nd ck hh N : Nat) (φ : Nat → Nat) (e : Nat → Int) (W : Nat → Prop) (E E1 R : Nat → Nat → Nat) (m m1 : St) : Prop :=
  (∀ x, R x 0 ≠ 0 → x < S ∧ ∃ ee, W ee ∧ OWNe m0 φ e N ee x) ∧ RVk ck R ∧
  (∀ A2 E2 : Nat → Nat → Nat, SOL c D S H nd ck hh A2 E2 → (∀ i, i < 28 → KLE (E i) (E2 i)) → (∀ i, i < 28 → KLE (E1 i) (E2 i)) ∧ ∀ x, SLE (R x) (A2 x)) ∧
  (∀ M Ef : Nat → Nat → Nat, (∀ x, R x 0 ≠ 0 → M x = R x) → (∀ i, i < 28 → KLE (E1 i) (Ef i)) → (∀ x, R x 0 ≠ 0 → CLS c D H M Ef x) ∧ ((∀ i, i < 28 → KLE (Ef i) (E i)) → ∀ ee, W ee → SLE (stg hh ee (Ef ee)) (M (stp c D ee)))) ∧
  GRW m m1 E E1 ∧ OUTw c D R m m1
/-- a state between walks -/
def GSt (m0 m : St) (E : Nat → Nat → Nat) : Prop := FRw m0 m ∧ MEr m E ∧ (m 0 69 = 0 ∨ m 0 69 = 1) ∧ B16 m 72 ∧ B16 m 73
theorem stg_mono {hh ee : Nat} {g g' : Nat → Nat} (h : KLE g g') : SLE (stg hh ee g) (stg hh ee g') := by
  unfold stg
  by_cases z : ee < 12
  · rw [if_pos z, if_pos z]; exact ent_mono (aHb_mono h)
  · rw [if_neg z, if_neg z]; exact ent_mono h
theorem stg_0 {hh ee : Nat} {g : Nat → Nat} : stg hh ee g 0 = g 0 := by
  unfold stg
  rw [ent_lo (by decide)]
  by_cases z : ee < 12
  · rw [if_pos z, aHb_ne (by decide)]
  · rw [if_neg z]
section MTHROUGH
variable {m0 m m5 m6 m7 c : St} {D N S B nd ck ts tm H hh ee : Nat} {φ δ h : Nat → Nat} {e : Nat → Int} {g1 : Nat → Nat} {E E1 E2 R : Nat → Nat → Nat}
/-- what the story says of an entry -/
theorem SE_stat (hS : SRx D c m0 φ e N S B nd ck ts tm) (hY : YWc m0 N B δ h) (hee : ee < nd ∨ (12 ≤ ee ∧ ee < 12 + ck)) : ∃ v xe : Nat, (ee < 28 ∧ v < 12 ∧ blk m0 ee < B ∧ m0 15 (blk m0 ee) ≠ 2 ∧ m0 19 (blk m0 ee) = (v : Int)) ∧ (e (blk m0 ee) = (xe : Int) ∧ xe < S ∧ (ee < 12 → c (D + 1) xe = 11 ∧ c (D + 2) xe = (v : Int) ∧ v = ee) ∧ (12 ≤ ee → c (D + 1) xe = 12 ∧ c (D + 2) xe = ((ee - 12 : Nat) : Int) ∧ c (D + 16) (ee - 12) = (v : Int))) ∧ stp c D ee = (psv c m0 D φ e (m0 17 (blk m0 ee)) (blk m0 ee)).toNat ∧ ceb c m0 D φ e (blk m0 ee) = (xe : Int) := by
  obtain ⟨⟨-, -, -, -, -, -, -, -, -, -, -, -, nd12, ck16, -, -, -, -⟩, ⟨-, hYA, -, -, hYD, hYE, hYF, hop⟩, hmk, -, -, hcf, hnf, -, -, -, -, hYQ, -⟩ := hS
  by_cases z : ee < 12
  · have hn : ee < nd := by omega
    obtain ⟨f1, f2, f3, f4⟩ := hYF.2 ee hn
    have eb : blk m0 ee = (m0 22 ee).toNat := by unfold blk; rw [if_pos z]
    have k2 : m0 15 (blk m0 ee) ≠ 2 := by rw [eb]; omega
    obtain ⟨p1, p2, p3⟩ := (hmk (blk m0 ee) (by omega)).2 k2
    have ec : ceb c m0 D φ e (blk m0 ee) = e (blk m0 ee) := by unfold ceb; rw [if_neg k2]
    refine ⟨ee, (e (blk m0 ee)).toNat, ⟨by omega, z, by omega, k2, by rw [eb]; exact f4⟩, ⟨by omega, by omega, fun _ => ?_, fun u => by omega⟩, ?_, by rw [ec]; omega⟩
    · rcases p3 with ⟨q1, q2, q3⟩ | ⟨q1, q2, q3⟩
      · exact ⟨q2, by rw [q3, eb]; exact f4, rfl⟩
      · rw [eb] at q1; omega
    · unfold stp psv
      rw [if_pos z, hnf ee hn, ec, eb]
      unfold lk
      rfl
  · have hk : ee - 12 < ck := by omega
    obtain ⟨f1, f2, f3, f4⟩ := hYF.1 (ee - 12) hk
    have hs : (m0 24 (ee - 12)).toNat < N := by omega
    obtain ⟨y1, y2, y3, y4⟩ := (hYE _ hs).2 f3
    have n8 := hop _ hs (Or.inr f3)
    rcases y4 with y4 | ⟨w1, w2, w3, w4⟩
    · exact absurd y4 n8
    · have eb : blk m0 ee = (m0 8 (m0 24 (ee - 12)).toNat).toNat := by unfold blk; rw [if_neg z]
      have k1 : m0 15 (blk m0 ee) = 1 := by rw [eb]; exact w3
      have k2 : m0 15 (blk m0 ee) ≠ 2 := by omega
      have hbB : blk m0 ee < B := by rw [eb]; omega
      obtain ⟨p1, p2, p3⟩ := (hmk (blk m0 ee) hbB).2 k2
      obtain ⟨d1, d2, -⟩ := hYD.1 (blk m0 ee) hbB
      have ec : ceb c m0 D φ e (blk m0 ee) = e (blk m0 ee) := by unfold ceb; rw [if_neg k2]
      have e16 : m0 16 (blk m0 ee) = ((ee - 12 : Nat) : Int) := by rw [eb, w4]; exact f4
      have n19 := (hY.1 (blk m0 ee) hbB).2.2.2.2.2 k1
      rw [e16, Int.toNat_natCast] at n19
      have q16 := (hYQ (ee - 12) hk).2
      refine ⟨(m0 19 (blk m0 ee)).toNat, (e (blk m0 ee)).toNat, ⟨by omega, by omega, hbB, k2, by omega⟩, ⟨by omega, by omega, fun u => absurd u z, fun _ => ?_⟩, ?_, by rw [ec]; omega⟩
      · rcases p3 with ⟨q1, q2, q3⟩ | ⟨q1, q2, q3⟩
        · omega
        · exact ⟨q2, by rw [q3]; exact e16, by rw [q16, ← n19]; omega⟩
      · unfold stp psv
        rw [if_neg z, hcf (ee - 12) hk, ec, eb]
        unfold lk
        rfl
theorem rtb_root {b : Nat} (h : m0 15 b ≠ 2) : rtb m0 b = b := by
  unfold rtb
  show (if m0 15 b = 2 then rtF m0 5 (m0 7 (m0 16 b).toNat).toNat else b) = b
  rw [if_neg h]
/-- a walk and its end are a piece of a sweep -/
theorem SW_one {v xe lo hi : Nat} (hS : SRx D c m0 φ e N S B nd ck ts tm) (hee : ee < nd ∨ (12 ≤ ee ∧ ee < 12 + ck)) (hv : v < 12) (hk2 : m0 15 (blk m0 ee) ≠ 2) (hxe : e (blk m0 ee) = (xe : Int)) (hxS : xe < S) (h11 : ee < 12 → c (D + 1) xe = 11 ∧ c (D + 2) xe = (v : Int) ∧ v = ee) (h12 : 12 ≤ ee → c (D + 1) xe = 12 ∧ c (D + 2) xe = ((ee - 12 : Nat) : Int) ∧ c (D + 16) (ee - 12) = (v : Int)) (hst : stp c D ee = (psv c m0 D φ e (m0 17 (blk m0 ee)) (blk m0 ee)).toNat) (hce : ceb c m0 D φ e (blk m0 ee) = (xe : Int)) (hE : ∀ i, i < 28 → KV (E i)) (hE1 : ∀ i, i < 28 → KV (E1 i)) (hE2 : ∀ i, i < 28 → KV (E2 i)) (g1v : SVk ck g1) (g10 : g1 0 = 1) (tq : TRo m m5) (hw : WPc c m0 D H S nd ck hh N φ e lo hi (blk m0 ee) (m0 17 (blk m0 ee)) (stg hh ee (E ee)) g1 E E1 R m5 m6)
    (hP : ∀ i, i < 28 → (12 ≤ i ∧ (g1 9).testBit (i - 12) = true) ∨ (12 ≤ ee ∧ g1 10 = 0 ∧ i = v) → KLE g1 (E2 i)) (hL : ∀ Ex : Nat → Nat → Nat, (∀ i, i < 28 → KLE (E1 i) (Ex i)) → (∀ i, i < 28 → (12 ≤ i ∧ (g1 9).testBit (i - 12) = true) ∨ (12 ≤ ee ∧ g1 10 = 0 ∧ i = v) → KLE g1 (Ex i)) → ∀ i, i < 28 → KLE (E2 i) (Ex i)) (h72 : m7 0 72 = m6 0 72) (h44 : m7 44 = m6 44) (hG : GRW m6 m7 E1 E2) (b73 : BITs m6 m7 73 (fun i => ee < 12 ∧ g1 10 = 0 ∧ i = v)) : SWc c m0 D H S nd ck hh N φ e (fun i => i = ee) E E2 (RUn R (SGL xe g1)) m m7 := by
  have hdt := DT_of hS
  have hXQ := XQ_of hS
  have hYP : YP φ N S := hS.2.1.1
  have nd12 : nd ≤ 12 := hS.1.2.2.2.2.2.2.2.2.2.2.2.2.1
  have ck16 : ck ≤ 16 := hS.1.2.2.2.2.2.2.2.2.2.2.2.2.2.1
  have k0 : ∀ x, x < S → c (D + 1) x = 6 → 0 ≤ c (D + 2) x := fun x hx k => ((hXQ x hx).2.2.2.2.1 k).2.2.2.2.1
  have hYK := hS.2.2.2.2.2.2.2.1.1
  obtain ⟨w1, w2, w3, w4, w5, w6⟩ := hw
  have kx : c (D + 1) xe = 11 ∨ c (D + 1) xe = 12 := by
    rcases Nat.lt_or_ge ee 12 with z | z
    · exact Or.inl (h11 z).1
    · exact Or.inr (h12 z).1
  have k910 := g1v.2.1
  have low : ∀ k : Nat, (g1 9).testBit k = true → k < 16 := by
    intro k hk
    apply Classical.byContradiction
    intro u
    have := tb_ck (i := k) k910 (by omega)
    rw [hk] at this
    exact absurd this (by decide)
  have xs : ∀ x, R x 0 ≠ 0 → x ≠ xe := by
    intro x hx ex
    obtain ⟨s, e1, -, -, s1, -⟩ := w1 x hx
    have := hYK s s1
    unfold KR at this
    rw [← e1, ex] at this
    omega
  have dj : ∀ x, R x 0 ≠ 0 → SGL xe g1 x 0 = 0 := fun x hx => SGL_ne (xs x hx)
  have rz : R xe 0 = 0 := by
    by_cases z : R xe 0 = 0
    · exact z
    · exact absurd rfl (xs xe z)
  have sz : SGL xe g1 xe 0 ≠ 0 := by rw [SGL_at]; omega
  have oz : OUTw c D (SGL xe g1) m6 m7 := by
    refine ⟨fun x hx k => ?_, fun j _ => by rw [h44], BITs_refl h72 ?_, BITs_weak b73 (fun i => ⟨fun u => ?_, ?_⟩)⟩
    · rw [SGL_iff hx] at k; omega
    · rintro i ⟨x, hx, e1, -⟩
      rw [SGL_iff hx] at e1; omega
    · obtain ⟨a1, a2, -⟩ := h11 u.1
      refine ⟨xe, ?_, by rw [a2, u.2.2]⟩
      unfold DEx
      rw [SGL_at]
      exact ⟨by omega, Or.inr ⟨a1, u.2.1⟩⟩
    · rintro ⟨x, hx, e1⟩
      have ex := SGL_iff hx.1
      unfold DEx at hx
      rw [ex, SGL_at] at hx
      rw [ex] at e1
      rcases hx.2 with y | y
      · omega
      · have z : ee < 12 := by
          rcases Nat.lt_or_ge ee 12 with z | z
          · exact z
          · have := (h12 z).1; omega
        obtain ⟨-, a2, -⟩ := h11 z
        exact ⟨z, y.2, by omega⟩
  refine ⟨fun x hx => ?_, RUn_RVk w2 (SGL_RVk g1v), fun A2 Ex hs2 l => ?_, fun M Ef hM l => ?_, GRW_trans hE hE1 hE2 (GRW_q tq.2.2.2 w5) hG, OUT_trans hdt (WP_lt hYP w1) (fun x hx => by rw [SGL_iff hx]; exact hxS) dj k0 (OUT_q tq w6) oz⟩
  · rcases RUn_ne.1 hx with z | z
    · refine ⟨WP_lt hYP w1 x z, ee, rfl, ?_⟩
      obtain ⟨s, e1, -, -, s1, s2⟩ := w1 x z
      rw [rtb_root hk2] at s2
      exact Or.inl ⟨s, s1, e1, s2⟩
    · rw [SGL_iff z]
      exact ⟨hxS, ee, rfl, Or.inr hxe⟩
  · have st : SLE (stg hh ee (E ee)) (A2 (psv c m0 D φ e (m0 17 (blk m0 ee)) (blk m0 ee)).toNat) := by
      rw [← hst]
      refine SLE_trans (stg_mono (l ee (by omega))) ?_
      unfold stg stp
      by_cases z : ee < 12
      · rw [if_pos z, if_pos z]; exact hs2.2.1.1 ee (by omega)
      · rw [if_neg z, if_neg z]
        have := hs2.2.1.2 (ee - 12) (by omega)
        rw [show 12 + (ee - 12) = ee by omega] at this
        exact this
    obtain ⟨a1, a2, a3⟩ := w3 A2 Ex hs2 st l
    rw [hce, Int.toNat_natCast] at a1
    have ne : A2 xe 0 ≠ 0 := SLE_ne a1 (by omega)
    have cl := hs2.1 xe hxS ne
    have sub : sub2 (g1 9) (A2 xe 9) ∧ sub2 (A2 xe 10) (g1 10) := by
      rcases a1 with y | y
      · omega
      · exact y.2
    refine ⟨hL Ex a2 (fun i hi u => ?_), fun x => ?_⟩
    · rcases u with ⟨u1, u2⟩ | ⟨u1, u2, u3⟩
      · have := cl.2.2.2.2.2.2.2.2.1 kx (i - 12) (low _ u2) (sub.1 _ u2)
        rw [show 12 + (i - 12) = i by omega] at this
        exact KLE_trans (SLE_K a1) this
      · obtain ⟨q1, q2, q3⟩ := h12 u1
        have z10 : A2 xe 10 = 0 := by
          refine sub2_antisymm ?_ (fun i hi' => by rw [Nat.zero_testBit] at hi'; exact absurd hi' (by decide))
          have := sub.2
          rw [u2] at this
          exact this
        have := cl.2.2.2.2.2.2.2.2.2 q1 z10
        rw [q2, Int.toNat_natCast, q3, Int.toNat_natCast] at this
        rw [u3]
        exact KLE_trans (SLE_K a1) this
    · by_cases z : R x 0 = 0
      · rw [RUn_r z]
        by_cases y : x = xe
        · rw [y, SGL_at]; exact a1
        · exact Or.inl (SGL_ne y)
      · rw [RUn_l z]; exact a3 x
  · have hM1 : ∀ x, R x 0 ≠ 0 → M x = R x := by
      intro x hx
      have := hM x (RUn_ne.2 (Or.inl hx))
      rw [RUn_l hx] at this; exact this
    have mx : M xe = g1 := by
      have := hM xe (RUn_ne.2 (Or.inr sz))
      rw [RUn_r rz, SGL_at] at this
      exact this
    have l1 : ∀ i, i < 28 → KLE (E1 i) (Ef i) := fun i hi => KLE_trans (hG.1 i hi) (l i hi)
    obtain ⟨a1, a2⟩ := w4 M Ef hM1 (by rw [hce, Int.toNat_natCast, mx]; exact SLE_refl (Or.inr g10)) l1
    refine ⟨fun x hx => ?_, fun l2 ee' he => ?_⟩
    · rcases RUn_ne.1 hx with z | z
      · exact a2 x z
      · rw [SGL_iff z]
        intro u
        rw [mx] at u ⊢
        refine ⟨fun w => by omega, fun w => by omega, fun w => by omega, fun w w' => by omega, fun w => by omega, fun w => by omega, fun w => by omega, fun w => by omega, fun _ k hk hb => ?_, fun w hz => ?_⟩
        · exact KLE_trans (hP (12 + k) (by omega) (Or.inl ⟨by omega, by rw [show 12 + k - 12 = k by omega]; exact hb⟩)) (l (12 + k) (by omega))
        · have z12 : 12 ≤ ee := by
            rcases Nat.lt_or_ge ee 12 with z | z
            · have := (h11 z).1; omega
            · exact z
          obtain ⟨q1, q2, q3⟩ := h12 z12
          rw [q2, Int.toNat_natCast, q3, Int.toNat_natCast]
          exact KLE_trans (hP v (by omega) (Or.inr ⟨z12, hz, rfl⟩)) (l v (by omega))
    · rw [he, hst]
      exact SLE_trans (stg_mono (l2 ee (by omega))) a1
/-- a walk that ends with nothing is a piece of a sweep -/
theorem SW_none {lo hi : Nat} (hS : SRx D c m0 φ e N S B nd ck ts tm) (hee : ee < nd ∨ (12 ≤ ee ∧ ee < 12 + ck)) (hk2 : m0 15 (blk m0 ee) ≠ 2) (hst : stp c D ee = (psv c m0 D φ e (m0 17 (blk m0 ee)) (blk m0 ee)).toNat) (g10 : g1 0 = 0) (tq : TRo m m5) (hw : WPc c m0 D H S nd ck hh N φ e lo hi (blk m0 ee) (m0 17 (blk m0 ee)) (stg hh ee (E ee)) g1 E E1 R m5 m6) : SWc c m0 D H S nd ck hh N φ e (fun i => i = ee) E E1 R m m6 := by
  have hYP : YP φ N S := hS.2.1.1
  have nd12 : nd ≤ 12 := hS.1.2.2.2.2.2.2.2.2.2.2.2.2.1
  have ck16 : ck ≤ 16 := hS.1.2.2.2.2.2.2.2.2.2.2.2.2.2.1
  obtain ⟨w1, w2, w3, w4, w5, w6⟩ := hw
  refine ⟨fun x hx => ?_, w2, fun A2 Ex hs2 l => ?_, fun M Ef hM l => ?_, GRW_q tq.2.2.2 w5, OUT_q tq w6⟩
  · refine ⟨WP_lt hYP w1 x hx, ee, rfl, ?_⟩
    obtain ⟨s, e1, -, -, s1, s2⟩ := w1 x hx
    rw [rtb_root hk2] at s2
    exact Or.inl ⟨s, s1, e1, s2⟩
  · have st : SLE (stg hh ee (E ee)) (A2 (psv c m0 D φ e (m0 17 (blk m0 ee)) (blk m0 ee)).toNat) := by
      rw [← hst]
      refine SLE_trans (stg_mono (l ee (by omega))) ?_
      unfold stg stp
      by_cases z : ee < 12
      · rw [if_pos z, if_pos z]; exact hs2.2.1.1 ee (by omega)
      · rw [if_neg z, if_neg z]
        have := hs2.2.1.2 (ee - 12) (by omega)
        rw [show 12 + (ee - 12) = ee by omega] at this
        exact this
    obtain ⟨a1, a2, a3⟩ := w3 A2 Ex hs2 st l
    exact ⟨a2, a3⟩
  · obtain ⟨a1, a2⟩ := w4 M Ef hM (Or.inl g10) l
    refine ⟨a2, fun l2 ee' he => ?_⟩
    rw [he, hst]
    exact SLE_trans (stg_mono (l2 ee (by omega))) a1
end MTHROUGH
