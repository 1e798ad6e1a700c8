/-! ===== pure layer: the relation of two plays, and where they stand ===== -/
def PWa (c : St) (P D : Nat) (p : Nat → Int) : Prop := c P 0 = (D : Int) ∧ c P 1 = p 0 ∧ c P 3 = p 2 ∧ c P 4 = p 3 ∧ c P 5 = p 4 ∧ c P 6 = p 5 + 16 * p 6 + 256 * p 7 ∧ c P 8 = p 9 ∧ c (P + 1) 0 = p 10 ∧ (p 0 = 2 → c P 2 = p 1 ∧ 0 ≤ p 1 ∧ p 1 ≤ 9)
def PWv (p : Nat → Int) (nd ck : Nat) : Prop := 0 ≤ p 2 ∧ p 2 < nd ∧ -1 ≤ p 3 ∧ p 3 < nd ∧ 0 ≤ p 4 ∧ p 4 < 64 ∧ 0 ≤ p 5 ∧ p 5 ≤ 9 ∧ 0 ≤ p 6 ∧ p 6 ≤ 9 ∧ 0 ≤ p 7 ∧ p 7 ≤ 9 ∧ 0 ≤ p 9 ∧ p 9 < ((2 ^ ck : Nat) : Int) ∧ 0 ≤ p 10
def PWt (c : St) (P : Nat) (p : Nat → Int) (H : Nat) : Prop := ∃ T : Nat, p 8 = (T : Int) ∧ T < 65536 ∧ c P 7 = ((T &&& H : Nat) : Int)
def PWl (c : St) (P : Nat) (p : Nat → Int) : Prop := ∀ j : Nat, j < 20 → (j : Int) < p 10 → c (P + 2) ((p 10 - 1 - j).toNat % 20) = p (11 + j)
def PWx (c m : St) (P nd : Nat) : Prop := ∃ E : Nat, E < 4096 ∧ c P 9 = (E : Int) ∧ (m 0 44 ≠ 0 → (∀ v, v < nd → m 30 v = if E.testBit v then 1 else 0) ∧ ∀ v, v < 100 → c (P + 3) v = m 29 v)
def PW (c m : St) (P D nd ck H : Nat) : Prop := PWa c P D (m 26) ∧ PWv (m 26) nd ck ∧ PWt c P (m 26) H ∧ PWl c P (m 26) ∧ PWx c m P nd
/-- the reference's sets of what has occurred -/
def BX (m : St) : Prop := (m 0 44 = 0 ∨ m 0 44 = 1) ∧ (∀ v, v < 100 → m 29 v = 0 ∨ m 29 v = 1) ∧ (∀ v, v < 12 → m 30 v = 0 ∨ m 30 v = 1) ∧ ∀ v, v < 16 → m 31 v = 0 ∨ m 31 v = 1
/-- the choices that stand in hubs -/
def HM (c : St) (D ck H : Nat) : Prop := H < 65536 ∧ ∃ h : Nat, c D 13 = (h : Int) ∧ h < 4096 ∧ ∀ k, k < ck → H.testBit k = h.testBit (c (D + 16) k).toNat
/-- what a flow leaves alone -/
def FM (m m1 : St) : Prop := (∀ q, q ≠ 0 → q ≠ 26 → q ≠ 29 → q ≠ 30 → q ≠ 31 → m1 q = m q) ∧ (∀ i, i ≠ 48 → i ≠ 49 → m1 0 i = m 0 i) ∧ (m 0 44 = 0 → m1 29 = m 29 ∧ m1 30 = m 30) ∧ m1 31 = m 31
def FRP (P : Nat) (c c1 : St) : Prop := ∀ q, q ≠ P → q ≠ P + 1 → q ≠ P + 2 → q ≠ P + 3 → c1 q = c q
theorem FM_refl {m : St} : FM m m := ⟨fun _ _ _ _ _ _ => rfl, fun _ _ _ => rfl, fun _ => ⟨rfl, rfl⟩, rfl⟩
theorem FM_trans {m m1 m2 : St} (h : FM m m1) (h' : FM m1 m2) : FM m m2 := by
  have e := h.2.1 44 (by decide) (by decide)
  refine ⟨fun q a b d f g => by rw [h'.1 q a b d f g, h.1 q a b d f g], fun i a b => by rw [h'.2.1 i a b, h.2.1 i a b], fun g => ?_, by rw [h'.2.2.2, h.2.2.2]⟩
  obtain ⟨a1, a2⟩ := h.2.2.1 g
  obtain ⟨b1, b2⟩ := h'.2.2.1 (by rw [e]; exact g)
  exact ⟨by rw [b1, a1], by rw [b2, a2]⟩
theorem FRP_refl {P : Nat} {c : St} : FRP P c c := fun _ _ _ _ _ => rfl
theorem FRP_trans {P : Nat} {c c1 c2 : St} (h : FRP P c c1) (h' : FRP P c1 c2) : FRP P c c2 := fun q a b d f => by rw [h' q a b d f, h q a b d f]
theorem phi_ge {φ : Nat → Nat} {N S : Nat} (h : YP φ N S) : ∀ s, s < N → s ≤ φ s := by
  intro s
  induction s with
  | zero => intro _; exact Nat.zero_le _
  | succ s ih =>
    intro hs
    have a := ih (by omega)
    have b := h.2 s (s + 1) (by omega) hs
    omega
section SRF
variable {D P a N S B nd ck ts tm H : Nat} {c m c1 m1 : St} {φ : Nat → Nat} {e : Nat → Int}
theorem SRx_frame (h : SRx D c m φ e N S B nd ck ts tm) (hc : ∀ q, D ≤ q → q ≤ D + 17 → c1 q = c q) (hm : ∀ q, 3 ≤ q → q ≤ 24 → m1 q = m q) (h0 : ∀ i, i = 15 ∨ i = 19 ∨ i = 25 ∨ i = 30 ∨ i = 32 ∨ i = 33 → m1 0 i = m 0 i) : SRx D c1 m1 φ e N S B nd ck ts tm := by
  have c0 := hc D (by omega) (by omega)
  have c1' := hc (D + 1) (by omega) (by omega)
  have c2 := hc (D + 2) (by omega) (by omega)
  have c3 := hc (D + 3) (by omega) (by omega)
  have c4 := hc (D + 4) (by omega) (by omega)
  have c5 := hc (D + 5) (by omega) (by omega)
  have c6 := hc (D + 6) (by omega) (by omega)
  have c7 := hc (D + 7) (by omega) (by omega)
  have c8 := hc (D + 8) (by omega) (by omega)
  have c9 := hc (D + 9) (by omega) (by omega)
  have c10 := hc (D + 10) (by omega) (by omega)
  have c11 := hc (D + 11) (by omega) (by omega)
  have c12 := hc (D + 12) (by omega) (by omega)
  have c13 := hc (D + 13) (by omega) (by omega)
  have c14 := hc (D + 14) (by omega) (by omega)
  have c15 := hc (D + 15) (by omega) (by omega)
  have c16 := hc (D + 16) (by omega) (by omega)
  have c17 := hc (D + 17) (by omega) (by omega)
  have m3 := hm 3 (by omega) (by omega)
  have m4 := hm 4 (by omega) (by omega)
  have m5 := hm 5 (by omega) (by omega)
  have m6 := hm 6 (by omega) (by omega)
  have m7 := hm 7 (by omega) (by omega)
  have m8 := hm 8 (by omega) (by omega)
  have m9 := hm 9 (by omega) (by omega)
  have m10 := hm 10 (by omega) (by omega)
  have m11 := hm 11 (by omega) (by omega)
  have m12 := hm 12 (by omega) (by omega)
  have m13 := hm 13 (by omega) (by omega)
  have m14 := hm 14 (by omega) (by omega)
  have m15 := hm 15 (by omega) (by omega)
  have m16 := hm 16 (by omega) (by omega)
  have m17 := hm 17 (by omega) (by omega)
  have m18 := hm 18 (by omega) (by omega)
  have m19 := hm 19 (by omega) (by omega)
  have m20 := hm 20 (by omega) (by omega)
  have m21 := hm 21 (by omega) (by omega)
  have m22 := hm 22 (by omega) (by omega)
  have m24 := hm 24 (by omega) (by omega)
  have z1 := h0 15 (by omega)
  have z2 := h0 19 (by omega)
  have z3 := h0 25 (by omega)
  have z4 := h0 30 (by omega)
  have z5 := h0 32 (by omega)
  have z6 := h0 33 (by omega)
  unfold SRx YA YB YC YD YE YF YK YT YH YQ YWc at h ⊢
  rw [c0, c1', c2, c4, c5, c6, c7, c8, c9, c10, c11, c12, c13, c14, c15, c16, c17, c3, m3, m4, m5, m6, m7, m8, m9, m10, m11, m12, m13, m14, m15, m16, m17, m18, m19, m20, m21, m22, m24, z1, z2, z3, z4, z5, z6]
  exact h
end SRF
/-- where a flow stands: the reference's statement (or none) and block, the class's place -/
def AT (c m : St) (D : Nat) (φ : Nat → Nat) (e : Nat → Int) (N B : Nat) (now blk x : Int) : Prop := 0 ≤ blk ∧ blk < B ∧ ((∃ s : Nat, now = (s : Int) ∧ s < N ∧ m 7 s = blk ∧ x = ((φ s : Nat) : Int)) ∨ (now = -1 ∧ x = if m 15 blk.toNat = 2 then c (D + 4) (φ (m 16 blk.toNat).toNat) else e blk.toNat))
/-- the kind of the block that is around all tests -/
def rk (a b d : Nat → Int) : Nat → Nat → Int
  | 0, _ => 9
  | f + 1, q => if b q = 2 then rk a b d f (a (d q).toNat).toNat else b q
def GS (m : St) (b : Nat) : Prop := ∃ f, rk (m 7) (m 15) (m 16) f b = 0
theorem GS_node {m : St} {b : Nat} (h : m 15 b = 0) : GS m b := ⟨1, by unfold rk; rw [if_neg (by omega), h]⟩
theorem GS_test {m : St} {b s : Nat} (h : m 15 b = 2) (hs : m 16 b = (s : Int)) (hg : GS m (m 7 s).toNat) : GS m b := by
  obtain ⟨f, hf⟩ := hg
  refine ⟨f + 1, ?_⟩
  unfold rk
  rw [if_pos h, hs, Int.toNat_natCast]; exact hf
theorem GS_up {m : St} {b : Nat} (h : m 15 b = 2) (hg : GS m b) : GS m (m 7 (m 16 b).toNat).toNat := by
  obtain ⟨f, hf⟩ := hg
  cases f with
  | zero => unfold rk at hf; omega
  | succ f =>
    unfold rk at hf
    rw [if_pos h] at hf
    exact ⟨f, hf⟩
theorem GS_no1 {m : St} {b : Nat} (hg : GS m b) : m 15 b ≠ 1 := by
  obtain ⟨f, hf⟩ := hg
  intro h
  cases f with
  | zero => unfold rk at hf; omega
  | succ f =>
    unfold rk at hf
    rw [if_neg (by omega)] at hf
    omega
theorem GS_frame {m m1 : St} {b : Nat} (h7 : m1 7 = m 7) (h15 : m1 15 = m 15) (h16 : m1 16 = m 16) : GS m1 b ↔ GS m b := by unfold GS; rw [h7, h15, h16]
section ATS
variable {D P s N S B nd ck ts tm H : Nat} {c m c1 m1 : St} {φ : Nat → Nat} {e : Nat → Int}
theorem AT_next (h : SRx D c m φ e N S B nd ck ts tm) (hs : s < N) : AT c m D φ e N B (m 6 s) (m 7 s) (c (D + 4) (φ s)) := by
  obtain ⟨-, ⟨-, hYA, hYB, -⟩, -, hnx, -⟩ := h
  have a := hYA s hs
  refine ⟨a.1, a.2, ?_⟩
  by_cases g : m 6 s = -1
  · right
    refine ⟨g, ?_⟩
    rw [hnx s hs, if_pos g]
  · left
    rcases hYB s hs with ⟨u, -⟩ | ⟨u1, u2, u3⟩
    · exact absurd u g
    · exact ⟨(m 6 s).toNat, by omega, by omega, u3, by rw [hnx s hs, if_neg g]⟩
/-- the first statement of a block -/
theorem AT_block (h : SRx D c m φ e N S B nd ck ts tm) {b : Nat} (hb : b < B) {x : Int} (hx : x = if m 17 b = -1 then (if m 15 b = 2 then c (D + 4) (φ (m 16 b).toNat) else e b) else ((φ (m 17 b).toNat : Nat) : Int)) : AT c m D φ e N B (m 17 b) (b : Int) x := by
  obtain ⟨-, ⟨-, hYA, hYB, hYC, -⟩, -⟩ := h
  refine ⟨by omega, by omega, ?_⟩
  by_cases g : m 17 b = -1
  · right
    rw [if_pos g] at hx
    refine ⟨g, ?_⟩
    rw [Int.toNat_natCast]; exact hx
  · left
    rw [if_neg g] at hx
    rcases hYC b hb with ⟨u, -⟩ | ⟨u1, u2, u3, -⟩
    · exact absurd u g
    · exact ⟨(m 17 b).toNat, by omega, by omega, u3, hx⟩
theorem AT_node (h : SRx D c m φ e N S B nd ck ts tm) {v : Nat} (hv : v < nd) : AT c m D φ e N B (m 17 (m 22 v).toNat) (m 22 v) (c (D + 14) v) ∧ m 15 (m 22 v).toNat = 0 := by
  have h' := h
  obtain ⟨-, ⟨-, -, -, -, -, -, hYF, -⟩, -, -, -, -, hno, -⟩ := h'
  obtain ⟨f1, f2, f3, f4⟩ := hYF.2 v hv
  have := AT_block h (b := (m 22 v).toNat) (by omega) (x := c (D + 14) v) (by
    rw [hno v hv]
    unfold lk
    by_cases g : m 17 (m 22 v).toNat = -1
    · rw [if_pos g, if_pos g, if_neg (by omega)]
    · rw [if_neg g, if_neg g])
  rw [show (((m 22 v).toNat : Nat) : Int) = m 22 v by omega] at this
  exact ⟨this, f3⟩
theorem AT_first (h : SRx D c m φ e N S B nd ck ts tm) (hs : s < N) (hk : m 3 s = 3) : AT c m D φ e N B (m 17 (m 8 s).toNat) (m 8 s) (c (D + 5) (φ s)) ∧ m 15 (m 8 s).toNat = 2 ∧ m 16 (m 8 s).toNat = (s : Int) := by
  have h' := h
  obtain ⟨-, ⟨-, -, -, -, -, hYE, -, hop⟩, -, -, hts, -⟩ := h'
  have hop := hop s hs (Or.inl hk)
  obtain ⟨-, -, u, -⟩ := (hYE s hs).1 hk
  rcases u with u | ⟨u1, u2, u3, u4⟩
  · exact absurd u hop
  · have := AT_block h (b := (m 8 s).toNat) (by omega) (x := c (D + 5) (φ s)) (by
      rw [(hts s hs hk).1, if_pos u3, u4, Int.toNat_natCast])
    rw [show (((m 8 s).toNat : Nat) : Int) = m 8 s by omega] at this
    exact ⟨this, u3, u4⟩
theorem AT_second (h : SRx D c m φ e N S B nd ck ts tm) (hs : s < N) (hk : m 3 s = 3) (h9 : m 9 s ≠ -1) : AT c m D φ e N B (m 17 (m 9 s).toNat) (m 9 s) (c (D + 6) (φ s)) ∧ m 15 (m 9 s).toNat = 2 ∧ m 16 (m 9 s).toNat = (s : Int) := by
  have h' := h
  obtain ⟨-, ⟨-, -, -, -, -, hYE, -, hop⟩, -, -, hts, -⟩ := h'
  obtain ⟨-, -, -, u⟩ := (hYE s hs).1 hk
  rcases u with u | ⟨u1, u2, u3, u4, -⟩
  · exact absurd u h9
  · have := AT_block h (b := (m 9 s).toNat) (by omega) (x := c (D + 6) (φ s)) (by
      rw [(hts s hs hk).2, if_pos u3, u4, Int.toNat_natCast]
      by_cases g : m 17 (m 9 s).toNat = -1
      · rw [if_pos (Or.inr g), if_pos g]
      · rw [if_neg (by omega), if_neg g])
    rw [show (((m 9 s).toNat : Nat) : Int) = m 9 s by omega] at this
    exact ⟨this, u3, u4⟩
theorem AT_nosecond (h : SRx D c m φ e N S B nd ck ts tm) (hs : s < N) (hk : m 3 s = 3) (h9 : m 9 s = -1) : c (D + 6) (φ s) = c (D + 4) (φ s) := by
  obtain ⟨-, -, -, -, hts, -⟩ := h
  rw [(hts s hs hk).2, if_pos (Or.inl h9)]
theorem AT_frame {now blk x : Int} (h : AT c m D φ e N B now blk x) (h4 : c1 (D + 4) = c (D + 4)) (h7 : m1 7 = m 7) (h15 : m1 15 = m 15) (h16 : m1 16 = m 16) : AT c1 m1 D φ e N B now blk x := by unfold AT at *; rw [h4, h7, h15, h16]; exact h
theorem AT_choice (h : SRx D c m φ e N S B nd ck ts tm) {k : Nat} (hk : k < ck) : AT c m D φ e N B (m 17 (m 8 (m 24 k).toNat).toNat) (m 8 (m 24 k).toNat) (c (D + 17) k) ∧ m 15 (m 8 (m 24 k).toNat).toNat = 1 := by
  have h' := h
  obtain ⟨-, ⟨-, -, -, -, -, hYE, hYF, hop⟩, -, -, -, hch, -⟩ := h'
  obtain ⟨f1, f2, f3, f4⟩ := hYF.1 k hk
  have hop := hop (m 24 k).toNat (by omega) (Or.inr f3)
  obtain ⟨-, -, -, u⟩ := (hYE (m 24 k).toNat (by omega)).2 f3
  rcases u with u | ⟨u1, u2, u3, u4⟩
  · exact absurd u hop
  · have := AT_block h (b := (m 8 (m 24 k).toNat).toNat) (by omega) (x := c (D + 17) k) (by
      rw [hch k hk]
      unfold lk
      by_cases g : m 17 (m 8 (m 24 k).toNat).toNat = -1
      · rw [if_pos g, if_pos g, if_neg (by omega)]
      · rw [if_neg g, if_neg g])
    rw [show (((m 8 (m 24 k).toNat).toNat : Nat) : Int) = m 8 (m 24 k).toNat by omega] at this
    exact ⟨this, u3⟩
end ATS
