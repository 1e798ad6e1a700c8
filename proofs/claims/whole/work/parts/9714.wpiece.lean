/-! ===== pure layer: pieces of the reference's walk, held against the inequations ===== -/
/-- the class's place behind a block; the class's place of a point of the walk -/
def ceb (c m : St) (D : Nat) (φ : Nat → Nat) (e : Nat → Int) (b : Nat) : Int := if m 15 b = 2 then c (D + 4) (φ (m 16 b).toNat) else e b
def psv (c m : St) (D : Nat) (φ : Nat → Nat) (e : Nat → Int) (v : Int) (b : Nat) : Int := if v = -1 then ceb c m D φ e b else ((φ v.toNat : Nat) : Int)
/-- the block around all tests -/
def rtF (m : St) : Nat → Nat → Nat
  | 0, q => q
  | f + 1, q => if m 15 q = 2 then rtF m f (m 7 (m 16 q).toNat).toNat else q
def rtb (m : St) (q : Nat) : Nat := rtF m 6 q
/-- which statements a piece has seen -/
def SUPw (m : St) (φ : Nat → Nat) (N : Nat) (R : Nat → Nat → Nat) (lo hi b : Nat) : Prop := ∀ x, R x 0 ≠ 0 → ∃ s, x = φ s ∧ lo ≤ s ∧ s < hi ∧ s < N ∧ rtb m (m 7 s).toNat = rtb m b
def RVk (ck : Nat) (R : Nat → Nat → Nat) : Prop := ∀ x, SVk ck (R x)
def RUn (R1 R2 : Nat → Nat → Nat) : Nat → Nat → Nat := fun x => if R1 x 0 = 0 then R2 x else R1 x
def SGL (x0 : Nat) (g : Nat → Nat) : Nat → Nat → Nat := fun x => if x = x0 then g else fun _ => 0
/-- what is told of a piece -/
def OUTw (c : St) (D : Nat) (R : Nat → Nat → Nat) (m m1 : St) : Prop := (∀ x, R x 0 ≠ 0 → c (D + 1) x = 6 → m1 44 (c (D + 2) x).toNat = vdN c D x (R x)) ∧ (∀ j, (∀ x, R x 0 ≠ 0 → c (D + 1) x = 6 → (c (D + 2) x).toNat ≠ j) → m1 44 j = m 44 j) ∧ BITs m m1 72 (fun i => ∃ x, R x 0 ≠ 0 ∧ c (D + 1) x = 10 ∧ c (D + 2) x = (i : Int)) ∧ BITs m m1 73 (fun i => ∃ x, DEx c D R x ∧ c (D + 2) x = (i : Int))
/-- a quiet step -/
def TRo (m m1 : St) : Prop := m1 44 = m 44 ∧ m1 0 72 = m 0 72 ∧ m1 0 73 = m 0 73 ∧ m1 0 69 = m 0 69
section RUNS
variable {R1 R2 : Nat → Nat → Nat} {x : Nat}
theorem RUn_l (h : R1 x 0 ≠ 0) : RUn R1 R2 x = R1 x := by unfold RUn; rw [if_neg h]
theorem RUn_r (h : R1 x 0 = 0) : RUn R1 R2 x = R2 x := by unfold RUn; rw [if_pos h]
theorem RUn_ne : RUn R1 R2 x 0 ≠ 0 ↔ R1 x 0 ≠ 0 ∨ R2 x 0 ≠ 0 := by
  by_cases h : R1 x 0 = 0
  · rw [RUn_r h]
    exact ⟨fun u => Or.inr u, fun u => by rcases u with u | u; exact absurd h u; exact u⟩
  · rw [RUn_l h]
    exact ⟨fun u => Or.inl u, fun _ => h⟩
theorem SGL_at {x0 : Nat} {g : Nat → Nat} : SGL x0 g x0 = g := by unfold SGL; rw [if_pos rfl]
theorem SGL_ne {x0 : Nat} {g : Nat → Nat} (h : x ≠ x0) : SGL x0 g x 0 = 0 := by unfold SGL; rw [if_neg h]
theorem SGL_iff {x0 : Nat} {g : Nat → Nat} (h : SGL x0 g x 0 ≠ 0) : x = x0 := by
  by_cases z : x = x0
  · exact z
  · exact absurd (SGL_ne z) h
theorem RUn_RVk {ck : Nat} (h1 : RVk ck R1) (h2 : RVk ck R2) : RVk ck (RUn R1 R2) := by
  intro x
  by_cases h : R1 x 0 = 0
  · rw [RUn_r h]; exact h2 x
  · rw [RUn_l h]; exact h1 x
theorem zero_SVk {ck : Nat} : SVk ck (fun _ => 0) := ⟨Or.inl rfl, Nat.two_pow_pos ck, Nat.two_pow_pos ck⟩
theorem SGL_RVk {ck x0 : Nat} {g : Nat → Nat} (h : SVk ck g) : RVk ck (SGL x0 g) := by
  intro x
  unfold SGL
  by_cases z : x = x0
  · rw [if_pos z]; exact h
  · rw [if_neg z]; exact zero_SVk
end RUNS
section OUTS
variable {c m m1 m2 : St} {D S : Nat} {R R1 R2 : Nat → Nat → Nat}
theorem BITs_q {k : Nat} {P : Nat → Prop} (h : m1 0 k = m 0 k) (u : BITs m1 m2 k P) : BITs m m2 k P := fun a w => u a (by rw [h]; exact w)
theorem OUT_q (h : TRo m m1) (u : OUTw c D R m1 m2) : OUTw c D R m m2 := ⟨u.1, fun j w => by rw [u.2.1 j w, h.1], BITs_q h.2.1 u.2.2.1, BITs_q h.2.2.1 u.2.2.2⟩
theorem OUT_0 (h : TRo m m1) : OUTw c D (fun _ _ => 0) m m1 := ⟨fun x u => absurd rfl u, fun j _ => by rw [h.1], BITs_refl h.2.1 (fun i u => by obtain ⟨x, u, -⟩ := u; exact u rfl), BITs_refl h.2.2.1 (fun i u => by obtain ⟨x, u, -⟩ := u; exact u.1 rfl)⟩
theorem OUT_trans (hd : DT c D S) (h1 : ∀ x, R1 x 0 ≠ 0 → x < S) (h2 : ∀ x, R2 x 0 ≠ 0 → x < S) (dj : ∀ x, R1 x 0 ≠ 0 → R2 x 0 = 0) (k0 : ∀ x, x < S → c (D + 1) x = 6 → 0 ≤ c (D + 2) x) (u : OUTw c D R1 m m1) (w : OUTw c D R2 m1 m2) : OUTw c D (RUn R1 R2) m m2 := by
  obtain ⟨u1, u2, u3, u4⟩ := u
  obtain ⟨w1, w2, w3, w4⟩ := w
  refine ⟨fun x hx k => ?_, fun j hj => ?_, BITs_trans u3 w3 (fun i => ⟨?_, ?_⟩), BITs_trans u4 w4 (fun i => ⟨?_, ?_⟩)⟩
  · by_cases z : R1 x 0 = 0
    · rw [RUn_r z] at hx ⊢
      exact w1 x hx k
    · rw [RUn_l z]
      rw [w2 _ (fun y hy ky e => ?_)]
      · exact u1 x z k
      · have a1 := k0 x (h1 x z) k
        have a2 := k0 y (h2 y hy) ky
        have := hd x y (h1 x z) (h2 y hy) k ky (by omega)
        rw [← this] at hy
        exact hy (dj x z)
  · rw [w2 j (fun x hx k => hj x (RUn_ne.2 (Or.inr hx)) k), u2 j (fun x hx k => hj x (RUn_ne.2 (Or.inl hx)) k)]
  · rintro ⟨x, hx, e⟩
    rcases RUn_ne.1 hx with z | z
    · exact Or.inl ⟨x, z, e⟩
    · exact Or.inr ⟨x, z, e⟩
  · rintro (⟨x, hx, e⟩ | ⟨x, hx, e⟩)
    · exact ⟨x, RUn_ne.2 (Or.inl hx), e⟩
    · exact ⟨x, RUn_ne.2 (Or.inr hx), e⟩
  · rintro ⟨x, hx, e3⟩
    unfold DEx at hx
    by_cases z : R1 x 0 = 0
    · rw [RUn_r z] at hx
      exact Or.inr ⟨x, hx, e3⟩
    · rw [RUn_l z] at hx
      exact Or.inl ⟨x, hx, e3⟩
  · rintro (⟨x, hx, e3⟩ | ⟨x, hx, e3⟩)
    · refine ⟨x, ?_, e3⟩
      unfold DEx
      rw [RUn_l hx.1]; exact hx
    · have z : R1 x 0 = 0 := by
        by_cases z : R1 x 0 = 0
        · exact z
        · exact absurd (dj x z) hx.1
      refine ⟨x, ?_, e3⟩
      unfold DEx
      rw [RUn_r z]; exact hx
theorem OUT_step {x0 : Nat} {g : Nat → Nat} (hg : g 0 ≠ 0) (h6 : c (D + 1) x0 ≠ 6 ∧ c (D + 1) x0 ≠ 11) (h44 : m1 44 = m 44) (b72 : BITs m m1 72 (fun i => c (D + 1) x0 = 10 ∧ c (D + 2) x0 = (i : Int))) (b73 : BITs m m1 73 (fun i => c (D + 1) x0 = 9 ∧ (g 8).testBit 12 = true ∧ c (D + 2) x0 = (i : Int))) : OUTw c D (SGL x0 g) m m1 := by
  refine ⟨fun x hx k => ?_, fun j _ => by rw [h44], BITs_weak b72 (fun i => ⟨fun u => ⟨x0, by rw [SGL_at]; exact hg, u⟩, ?_⟩), BITs_weak b73 (fun i => ⟨fun u => ⟨x0, by unfold DEx; rw [SGL_at]; exact ⟨hg, Or.inl ⟨u.1, u.2.1⟩⟩, u.2.2⟩, ?_⟩)⟩
  · rw [SGL_iff hx] at k; exact absurd k h6.1
  · rintro ⟨x, hx, e⟩
    rw [SGL_iff hx] at e; exact e
  · rintro ⟨x, hx, e⟩
    have ex := SGL_iff hx.1
    unfold DEx at hx
    rw [ex, SGL_at] at hx
    rw [ex] at e
    rcases hx.2 with y | y
    · exact ⟨y.1, y.2, e⟩
    · exact absurd y.1 h6.2
theorem OUT_test {x0 : Nat} {g : Nat → Nat} (hg : g 0 ≠ 0) (h6 : c (D + 1) x0 = 6) (h44 : m1 44 = va_up (m 44) (c (D + 2) x0).toNat (vdN c D x0 g)) (h72 : m1 0 72 = m 0 72) (h73 : m1 0 73 = m 0 73) : OUTw c D (SGL x0 g) m m1 := by
  refine ⟨fun x hx k => ?_, fun j hj => ?_, BITs_refl h72 ?_, BITs_refl h73 ?_⟩
  · rw [SGL_iff hx, SGL_at, h44, vu_eq]
  · rw [h44, vu_ne]
    intro e
    exact hj x0 (by rw [SGL_at]; exact hg) h6 e.symm
  · rintro i ⟨x, hx, e, -⟩
    rw [SGL_iff hx] at e; omega
  · rintro i ⟨x, hx, -⟩
    have ex := SGL_iff hx.1
    have y := hx.2
    rw [ex] at y
    rcases y with y | y <;> omega
end OUTS
/-- a piece of the walk -/
def WPc (c m0 : St) (D H S nd ck hh N : Nat) (φ : Nat → Nat) (e : Nat → Int) (lo hi b : Nat) (v : Int) (g g1 : Nat → Nat) (E E1 R : Nat → Nat → Nat) (m m1 : St) : Prop :=
  SUPw m0 φ N R lo hi b ∧ RVk ck R ∧
  (∀ A2 E2 : Nat → Nat → Nat, SOL c D S H nd ck hh A2 E2 → SLE g (A2 (psv c m0 D φ e v b).toNat) → (∀ i, i < 28 → KLE (E i) (E2 i)) → SLE g1 (A2 (ceb c m0 D φ e b).toNat) ∧ (∀ i, i < 28 → KLE (E1 i) (E2 i)) ∧ ∀ x, SLE (R x) (A2 x)) ∧
  (∀ M Ef : Nat → Nat → Nat, (∀ x, R x 0 ≠ 0 → M x = R x) → SLE g1 (M (ceb c m0 D φ e b).toNat) → (∀ i, i < 28 → KLE (E1 i) (Ef i)) → SLE g (M (psv c m0 D φ e v b).toNat) ∧ ∀ x, R x 0 ≠ 0 → CLS c D H M Ef x) ∧
  GRW m m1 E E1 ∧ OUTw c D R m m1
section WPS
variable {c m0 m m1 m2 : St} {D H S nd ck hh N lo hi b s : Nat} {φ : Nat → Nat} {e : Nat → Int} {v : Int} {g g1 g2 : Nat → Nat} {E E1 E2 R R1 : Nat → Nat → Nat}
theorem GRW_q (h : m1 0 69 = m 0 69) (u : GRW m1 m2 E E1) : GRW m m2 E E1 := ⟨u.1, fun w => u.2.1 (by rw [h]; exact w), u.2.2.1, fun w => u.2.2.2 (by rw [h]; exact w)⟩
theorem GRW_q2 (h : m2 0 69 = m1 0 69) (u : GRW m m1 E E1) : GRW m m2 E E1 := ⟨u.1, fun w => by rw [h]; exact u.2.1 w, fun w => u.2.2.1 (by rw [h] at w; exact w), fun w y => u.2.2.2 w (by rw [h] at y; exact y)⟩
/-- nothing is done -/
theorem WP_stop (hE : ∀ i, i < 28 → KV (E i)) : WPc c m0 D H S nd ck hh N φ e lo hi b (-1) g g E E (fun _ _ => 0) m m := by
  have ep : psv c m0 D φ e (-1) b = ceb c m0 D φ e b := by unfold psv; rw [if_pos rfl]
  refine ⟨fun x u => absurd rfl u, fun _ => zero_SVk, fun A2 E2 _ h1 h2 => ⟨by rw [ep] at h1; exact h1, h2, fun x => Or.inl rfl⟩, fun M Ef _ h _ => ⟨by rw [ep]; exact h, fun x u => absurd rfl u⟩, GRW_same hE rfl, OUT_0 ⟨rfl, rfl, rfl, rfl⟩⟩
theorem WP_lt (hP : YP φ N S) (h : SUPw m0 φ N R lo hi b) : ∀ x, R x 0 ≠ 0 → x < S := by
  intro x hx
  obtain ⟨s, e1, -, -, s1, -⟩ := h x hx
  rw [e1]; exact hP.1 s s1
theorem SUPw_dj {lo2 hi2 b2 : Nat} (hP : YP φ N S) (h : SUPw m0 φ N R lo hi b) (h' : SUPw m0 φ N R1 lo2 hi2 b2) (hl : hi ≤ lo2) : ∀ x, R x 0 ≠ 0 → R1 x 0 = 0 := by
  intro x hx
  apply Classical.byContradiction
  intro u
  obtain ⟨s, e1, a1, a2, a3, -⟩ := h x hx
  obtain ⟨t, e2, b1, b2, b3, -⟩ := h' x u
  have : s = t := ph_inj hP a3 b3 (by rw [← e1, e2])
  omega
theorem SUPw_up {lo2 hi2 b2 : Nat} (h : SUPw m0 φ N R lo hi b) (h1 : lo2 ≤ lo) (h2 : hi ≤ hi2) (h3 : rtb m0 b = rtb m0 b2) : SUPw m0 φ N R lo2 hi2 b2 := by
  intro x hx
  obtain ⟨s, e1, a1, a2, a3, a4⟩ := h x hx
  exact ⟨s, e1, by omega, by omega, a3, by rw [a4, h3]⟩
theorem SUPw_un (h : SUPw m0 φ N R lo hi b) (h' : SUPw m0 φ N R1 lo hi b) : SUPw m0 φ N (RUn R R1) lo hi b := by
  intro x hx
  rcases RUn_ne.1 hx with z | z
  · exact h x z
  · exact h' x z
theorem SUPw_sg (hs : s < N) (hl : lo ≤ s) (hh' : s < hi) (hb : rtb m0 (m0 7 s).toNat = rtb m0 b) : SUPw m0 φ N (SGL (φ s) g) lo hi b := by
  intro x hx
  exact ⟨s, SGL_iff hx, hl, hh', hs, hb⟩
/-- a statement that is no test, and then a piece -/
theorem WP_step {v1 : Int} (hP : YP φ N S) (hS : S ≤ 400) (hd : DT c D S) (k0 : ∀ x, x < S → c (D + 1) x = 6 → 0 ≤ c (D + 2) x) (hs : s < N) (hb : m0 7 s = (b : Int)) (hsh : s < hi) (hg : g 0 = 1) (hgv : SVk ck g) (h6 : c (D + 1) (φ s) ≠ 6 ∧ c (D + 1) (φ s) ≠ 11) (hnx : c (D + 4) (φ s) = psv c m0 D φ e (m0 6 s) b) (hE : ∀ i, i < 28 → KV (E i)) (hE1 : ∀ i, i < 28 → KV (E1 i)) (hE2 : ∀ i, i < 28 → KV (E2 i)) (la : LSa c D H (φ s) g g1 E E1) (hG : GRW m m1 E E1) (h44 : m1 44 = m 44) (b72 : BITs m m1 72 (fun i => c (D + 1) (φ s) = 10 ∧ c (D + 2) (φ s) = (i : Int))) (b73 : BITs m m1 73 (fun i => c (D + 1) (φ s) = 9 ∧ (g 8).testBit 12 = true ∧ c (D + 2) (φ s) = (i : Int))) (hv1 : v1 = if g1 0 = 1 then m0 6 s else -1) (g1v : g1 0 = 0 ∨ g1 0 = 1) (hlo : s < lo) (hw : WPc c m0 D H S nd ck hh N φ e lo hi b v1 g1 g2 E1 E2 R m1 m2) : WPc c m0 D H S nd ck hh N φ e s hi b (s : Int) g g2 E E2 (RUn (SGL (φ s) g) R) m m2 := by
  have ep : psv c m0 D φ e (s : Int) b = ((φ s : Nat) : Int) := by unfold psv; rw [if_neg (by omega), Int.toNat_natCast]
  obtain ⟨w1, w2, w3, w4, w5, w6⟩ := hw
  have sg : SUPw m0 φ N (SGL (φ s) g) s (s + 1) b := SUPw_sg hs (Nat.le_refl _) (Nat.lt_succ_self _) (by rw [hb, Int.toNat_natCast])
  have dj := SUPw_dj hP sg w1 hlo
  have z0 : SGL (φ s) g (φ s) 0 ≠ 0 := by rw [SGL_at]; omega
  have xs : φ s < S := hP.1 s hs
  have nx : ∀ A : Nat → Nat → Nat, SLE g1 (A (c (D + 4) (φ s)).toNat) ↔ SLE g1 (A (psv c m0 D φ e v1 b).toNat) := by
    intro A
    rcases g1v with z | z
    · exact ⟨fun _ => Or.inl z, fun _ => Or.inl z⟩
    · rw [hv1, if_pos z, hnx]
  refine ⟨SUPw_un (SUPw_up sg (Nat.le_refl _) (by omega) rfl) (SUPw_up w1 (by omega) (Nat.le_refl _) rfl), RUn_RVk (SGL_RVk hgv) w2, fun A2 Ex hs2 l1 l2 => ?_, fun M Ef hM l1 l2 => ?_, GRW_trans hE hE1 hE2 hG w5, OUT_trans hd (fun x hx => by rw [SGL_iff hx]; exact xs) (WP_lt hP w1) dj k0 (OUT_step (by omega) h6 h44 b72 b73) w6⟩
  · rw [ep, Int.toNat_natCast] at l1
    obtain ⟨a1, a2⟩ := la.1 A2 Ex (hs2.1 (φ s) xs) (hs2.2.2.2.1 (φ s) (by omega)) l1 l2
    obtain ⟨a3, a4, a5⟩ := w3 A2 Ex hs2 ((nx A2).1 a1) a2
    refine ⟨a3, a4, fun x => ?_⟩
    by_cases z : SGL (φ s) g x 0 = 0
    · rw [RUn_r z]; exact a5 x
    · rw [RUn_l z, SGL_iff z, SGL_at]; exact l1
  · have ms : M (φ s) = g := by
      have := hM (φ s) (RUn_ne.2 (Or.inl z0))
      rw [RUn_l z0, SGL_at] at this
      exact this
    obtain ⟨a1, a2⟩ := w4 M Ef (fun x hx => by
      have := hM x (RUn_ne.2 (Or.inr hx))
      by_cases z : SGL (φ s) g x 0 = 0
      · rw [RUn_r z] at this; exact this
      · exact absurd (dj x z) hx) l1 l2
    refine ⟨by rw [ep, Int.toNat_natCast, ms]; exact SLE_refl (Or.inr hg), fun x hx => ?_⟩
    rcases RUn_ne.1 hx with z | z
    · rw [SGL_iff z]
      exact la.2 M Ef ms ((nx M).2 a1) (fun i hi' => KLE_trans (w5.1 i hi') (l2 i hi'))
    · exact a2 x z
/-- a test with its blocks, and then a piece -/
theorem WP_test {q1 q2 : Nat} {v1 v2 v3 : Int} {gt gf ga gb : Nat → Nat} {Ea Eb R2 R3 : Nat → Nat → Nat} {ma mb mc md : St} {lo1 hi1 lo2 hi2 : Nat} (hP : YP φ N S) (hS : S ≤ 400) (hd : DT c D S) (k0 : ∀ x, x < S → c (D + 1) x = 6 → 0 ≤ c (D + 2) x) (hs : s < N) (hb : m0 7 s = (b : Int)) (hsh : s < hi) (hg : g 0 = 1) (hgv : SVk ck g) (h6 : c (D + 1) (φ s) = 6) (hq : TQ c D (φ s)) (hnx : c (D + 4) (φ s) = psv c m0 D φ e (m0 6 s) b) (egt : gt = ctp c D (φ s) g) (egf : gf = cfp c D (φ s) g)
    (hc1 : ceb c m0 D φ e q1 = c (D + 4) (φ s)) (hc2 : ceb c m0 D φ e q2 = c (D + 4) (φ s)) (hp1 : gt 0 ≠ 0 → psv c m0 D φ e v1 q1 = c (D + 5) (φ s)) (hp2 : gf 0 ≠ 0 → psv c m0 D φ e v2 q2 = c (D + 6) (φ s)) (hr1 : rtb m0 q1 = rtb m0 b) (hr2 : rtb m0 q2 = rtb m0 b)
    (hE : ∀ i, i < 28 → KV (E i)) (hEa : ∀ i, i < 28 → KV (Ea i)) (hEb : ∀ i, i < 28 → KV (Eb i)) (hE2 : ∀ i, i < 28 → KV (E2 i)) (hga : KV ga) (hgb : KV gb)
    (h44 : m1 44 = va_up (m 44) (c (D + 2) (φ s)).toNat (vdN c D (φ s) g)) (h72 : m1 0 72 = m 0 72) (h73 : m1 0 73 = m 0 73) (h69 : m1 0 69 = m 0 69) (t1 : TRo ma mb) (t2 : TRo mc md) (hv3 : v3 = if jn gb ga 0 = 1 then m0 6 s else -1)
    (l1 : s < lo1) (l2 : hi1 ≤ lo2) (l3 : hi2 ≤ lo) (l4 : hi1 ≤ hi2) (l5 : hi2 ≤ hi) (l6 : lo1 ≤ lo2) (l7 : lo1 ≤ lo) (l8 : hi1 ≤ lo)
    (w1 : WPc c m0 D H S nd ck hh N φ e lo1 hi1 q1 v1 gt ga E Ea R1 m1 ma) (w2 : WPc c m0 D H S nd ck hh N φ e lo2 hi2 q2 v2 gf gb Ea Eb R2 mb mc) (w3 : WPc c m0 D H S nd ck hh N φ e lo hi b v3 (jn gb ga) g2 Eb E2 R3 md m2) : WPc c m0 D H S nd ck hh N φ e s hi b (s : Int) g g2 E E2 (RUn (SGL (φ s) g) (RUn R1 (RUn R2 R3))) m m2 := by
  have ep : psv c m0 D φ e (s : Int) b = ((φ s : Nat) : Int) := by unfold psv; rw [if_neg (by omega), Int.toNat_natCast]
  obtain ⟨a1, a2, a3, a4, a5, a6⟩ := w1
  obtain ⟨b1, b2, b3, b4, b5, b6⟩ := w2
  obtain ⟨d1, d2, d3, d4, d5, d6⟩ := w3
  have sg : SUPw m0 φ N (SGL (φ s) g) s (s + 1) b := SUPw_sg hs (Nat.le_refl _) (Nat.lt_succ_self _) (by rw [hb, Int.toNat_natCast])
  have dj23 := SUPw_dj hP b1 d1 l3
  have s2' : SUPw m0 φ N R2 lo1 hi b := SUPw_up b1 l6 l5 hr2
  have s3' : SUPw m0 φ N R3 lo1 hi b := SUPw_up d1 l7 (Nat.le_refl _) rfl
  have s23 : SUPw m0 φ N (RUn R2 R3) lo1 hi b := SUPw_un s2' s3'
  have dj1 : ∀ x, R1 x 0 ≠ 0 → RUn R2 R3 x 0 = 0 := by
    intro x hx
    have y2 := SUPw_dj hP a1 b1 l2 x hx
    rw [RUn_r y2]
    exact SUPw_dj hP a1 d1 l8 x hx
  have s1' : SUPw m0 φ N R1 lo1 hi b := SUPw_up a1 (Nat.le_refl _) (by omega) hr1
  have s123 : SUPw m0 φ N (RUn R1 (RUn R2 R3)) lo1 hi b := SUPw_un s1' s23
  have dj0 := SUPw_dj hP sg s123 l1
  have xs : φ s < S := hP.1 s hs
  have z0 : SGL (φ s) g (φ s) 0 ≠ 0 := by rw [SGL_at]; omega
  have n3 : ∀ A : Nat → Nat → Nat, SLE (jn gb ga) (A (c (D + 4) (φ s)).toNat) ↔ SLE (jn gb ga) (A (psv c m0 D φ e v3 b).toNat) := by
    intro A
    rcases jn_01 (KV_01 hgb) (KV_01 hga) with z | z
    · exact ⟨fun _ => Or.inl z, fun _ => Or.inl z⟩
    · rw [hv3, if_pos z, hnx]
  have n1 : ∀ A : Nat → Nat → Nat, SLE gt (A (c (D + 5) (φ s)).toNat) ↔ SLE gt (A (psv c m0 D φ e v1 q1).toNat) := by
    intro A
    by_cases z : gt 0 = 0
    · exact ⟨fun _ => Or.inl z, fun _ => Or.inl z⟩
    · rw [hp1 z]
  have n2 : ∀ A : Nat → Nat → Nat, SLE gf (A (c (D + 6) (φ s)).toNat) ↔ SLE gf (A (psv c m0 D φ e v2 q2).toNat) := by
    intro A
    by_cases z : gf 0 = 0
    · exact ⟨fun _ => Or.inl z, fun _ => Or.inl z⟩
    · rw [hp2 z]
  refine ⟨SUPw_un (SUPw_up sg (Nat.le_refl _) (by omega) rfl) (SUPw_up s123 (by omega) (Nat.le_refl _) rfl), RUn_RVk (SGL_RVk hgv) (RUn_RVk a2 (RUn_RVk b2 d2)), fun A2 Ex hs2 e1 e2 => ?_, fun M Ef hM e1 e2 => ?_, ?_, ?_⟩
  · rw [ep, Int.toNat_natCast] at e1
    have cl := (hs2.1 (φ s) xs (SLE_ne e1 (by omega))).2.2.2.2.1 h6
    have kA := hs2.2.2.2.1 (φ s) (by omega)
    have f1 : SLE gt (A2 (c (D + 5) (φ s)).toNat) := by rw [egt]; exact SLE_trans (tpF_mono _ _ _ _ (TQ_trn hq) e1) cl.1
    have f2 : SLE gf (A2 (c (D + 6) (φ s)).toNat) := by rw [egf]; exact SLE_trans (fpF_mono (fun u => TQ_trn hq _ (Nat.le_refl _) (by omega)) hgv.1 kA e1) cl.2
    obtain ⟨p1, p2, p3⟩ := a3 A2 Ex hs2 ((n1 A2).1 f1) e2
    obtain ⟨r1, r2, r3⟩ := b3 A2 Ex hs2 ((n2 A2).1 f2) p2
    rw [hc1] at p1
    rw [hc2] at r1
    obtain ⟨o1, o2, o3⟩ := d3 A2 Ex hs2 ((n3 A2).1 (jn_lub r1 p1)) r2
    refine ⟨o1, o2, fun x => ?_⟩
    by_cases z : SGL (φ s) g x 0 = 0
    · rw [RUn_r z]
      by_cases z1 : R1 x 0 = 0
      · rw [RUn_r z1]
        by_cases z2 : R2 x 0 = 0
        · rw [RUn_r z2]; exact o3 x
        · rw [RUn_l z2]; exact r3 x
      · rw [RUn_l z1]; exact p3 x
    · rw [RUn_l z, SGL_iff z, SGL_at]; exact e1
  · have ms : M (φ s) = g := by
      have := hM (φ s) (RUn_ne.2 (Or.inl z0))
      rw [RUn_l z0, SGL_at] at this
      exact this
    have hM123 : ∀ x, RUn R1 (RUn R2 R3) x 0 ≠ 0 → M x = RUn R1 (RUn R2 R3) x := by
      intro x hx
      have := hM x (RUn_ne.2 (Or.inr hx))
      by_cases z : SGL (φ s) g x 0 = 0
      · rw [RUn_r z] at this; exact this
      · exact absurd (dj0 x z) hx
    have hM1 : ∀ x, R1 x 0 ≠ 0 → M x = R1 x := by
      intro x hx
      have := hM123 x (RUn_ne.2 (Or.inl hx))
      rw [RUn_l hx] at this; exact this
    have hM23 : ∀ x, RUn R2 R3 x 0 ≠ 0 → M x = RUn R2 R3 x := by
      intro x hx
      have := hM123 x (RUn_ne.2 (Or.inr hx))
      by_cases z : R1 x 0 = 0
      · rw [RUn_r z] at this; exact this
      · exact absurd (dj1 x z) hx
    have hM2 : ∀ x, R2 x 0 ≠ 0 → M x = R2 x := by
      intro x hx
      have := hM23 x (RUn_ne.2 (Or.inl hx))
      rw [RUn_l hx] at this; exact this
    have hM3 : ∀ x, R3 x 0 ≠ 0 → M x = R3 x := by
      intro x hx
      have := hM23 x (RUn_ne.2 (Or.inr hx))
      by_cases z : R2 x 0 = 0
      · rw [RUn_r z] at this; exact this
      · exact absurd (dj23 x z) hx
    obtain ⟨o1, o2⟩ := d4 M Ef hM3 e1 e2
    have o1' := (n3 M).2 o1
    have eb : ∀ i, i < 28 → KLE (Eb i) (Ef i) := fun i hi' => KLE_trans (d5.1 i hi') (e2 i hi')
    have ea : ∀ i, i < 28 → KLE (Ea i) (Ef i) := fun i hi' => KLE_trans (b5.1 i hi') (eb i hi')
    obtain ⟨r1, r2⟩ := b4 M Ef hM2 (by rw [hc2]; exact SLE_trans (jn_l (KV_01 hgb) (KV_01 hga)) o1') eb
    obtain ⟨p1, p2⟩ := a4 M Ef hM1 (by rw [hc1]; exact SLE_trans (jn_r (KV_01 hgb) (KV_01 hga)) o1') ea
    have f1 := (n1 M).2 p1
    have f2 := (n2 M).2 r1
    refine ⟨by rw [ep, Int.toNat_natCast, ms]; exact SLE_refl (Or.inr hg), fun x hx => ?_⟩
    rcases RUn_ne.1 hx with z | z
    · rw [SGL_iff z]
      intro u
      rw [ms] at u ⊢
      rw [egt] at f1
      rw [egf] at f2
      exact ⟨fun w => by omega, fun w => by omega, fun w => by omega, fun w w' => by omega, fun _ => ⟨f1, f2⟩, fun w => by omega, fun w => by omega, fun w => by omega, fun w => by omega, fun w => by omega⟩
    · rcases RUn_ne.1 z with z | z
      · exact p2 x z
      · rcases RUn_ne.1 z with z | z
        · exact r2 x z
        · exact o2 x z
  · exact GRW_trans hE hEa hE2 (GRW_q h69 a5) (GRW_q t1.2.2.2 (GRW_trans hEa hEb hE2 b5 (GRW_q t2.2.2.2 d5)))
  · have o3 := OUT_trans hd (WP_lt hP b1) (WP_lt hP d1) dj23 k0 b6 (OUT_q t2 d6)
    have o2 := OUT_trans hd (WP_lt hP a1) (WP_lt hP s23) dj1 k0 a6 (OUT_q t1 o3)
    exact OUT_trans hd (fun x hx => by rw [SGL_iff hx]; exact xs) (WP_lt hP s123) dj0 k0 (OUT_test (by omega) h6 h44 h72 h73) o2
end WPS
