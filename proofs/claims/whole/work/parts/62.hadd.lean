/-! ===== pure layer: a simple statement, read by both ===== -/
section HADD
variable {T : Nat → Int} {n D a a' am : Nat} {z c c' m m' : St} {φ : Nat → Nat} {e : Nat → Int} {N S B nd ck ts tm dp b : Nat} {R : St → St → Prop} {Q : St → Int → Prop} {w x y f w' x' y' : Int}
theorem oc_add {tm' : Nat} (hA : AM m m' N b tm tm' w x y f) (hYD : YD m N B nd ck) (hYS : YS m e N B nd dp) : oc m' dp = oc m dp := by
  obtain ⟨-, -, -, -, -, h8, -, -, -, -, -, -, -, -, -, h15, h16, -, -, -, -, -, h25⟩ := hA
  refine oc_cong dp (fun d hd => ?_)
  rw [h15, h16, h25]
  have := hYS.2.1 d hd
  have hDd := (hYD.1 (m 25 d).toNat (by omega)).2.2
  constructor
  · rintro ⟨g1, g2⟩
    refine ⟨g1, ?_⟩
    rw [up_ne h8 (by omega)] at g2; exact g2
  · rintro ⟨g1, g2⟩
    refine ⟨g1, ?_⟩
    rw [up_ne h8 (by omega)]; exact g2
theorem YR_add {tm' : Nat} (hA : AM m m' N b tm tm' w x y f) (hYD : YD m N B nd ck) (hYS : YS m e N B nd dp) (h : YR m dp) : YR m' dp := by
  obtain ⟨-, -, -, -, -, h8, h9, -, -, -, -, -, -, -, -, h15, h16, -, -, -, -, -, h25⟩ := hA
  intro d hd
  rw [h15, h16, h25]
  have := hYS.2.1 d hd
  have hDd := (hYD.1 (m 25 d).toNat (by omega)).2.2
  intro g1
  rw [up_ne h8 (by omega), up_ne h9 (by omega)]
  exact h d hd g1
theorem YY_add (hD : D = 2 ∨ D = 20) {ck' ts' : Nat} (hY : YY c m D N S B nd ck ts tm dp) (h15 : m' 0 15 = m 0 15 + 1) (h19 : m' 0 19 = m 0 19) (h25 : m' 0 25 = m 0 25) (h30 : m' 0 30 = m 0 30) (h32 : m' 0 32 = (ck' : Int)) (h33 : m' 0 33 = (ts' : Int)) (h39 : m' 0 39 = m 0 39) (hc : ∀ j, j = 10 → c' D j = c D j) (h0 : c' D 0 = c D 0 + 1) (h9 : c' (D + 9) 0 = c (D + 9) 0) (h14 : c' D 14 = (ck' : Int)) (h18 : c' D 18 = (ts' : Int)) (h38 : c' 38 0 = c 38 0) (hk : ck' ≤ 16) (ht : ts' ≤ 16) : YY c' m' D (N + 1) (S + 1) B nd ck' ts' tm dp := by
  obtain ⟨y1, y2, y3, y4, y5, y6, y7, y8, y9, y10, y11, y12, y13, y14, y15, y16⟩ := hY
  exact ⟨by rw [h15, y1]; omega, by rw [h19, y2], by rw [h25, y3], by rw [h30, y4], h32, h33, by rw [h39, y7], by rw [h0, y8]; omega, by rw [h9, y9], by rw [hc 10 rfl, y10], h14, h18, by rw [h38, y13], hk, ht, y16⟩
theorem cAdd_f (hD : D = 2 ∨ D = 20) : cAdd c D w x y D 0 = c D 0 + 1 ∧ (∀ j, j ≠ 0 → cAdd c D w x y D j = c D j) ∧ cAdd c D w x y (D + 9) = c (D + 9) := by
  refine ⟨by rw [cAdd_D hD (Or.inl rfl), cAp_0], fun j hj => by rw [cAdd_D hD (Or.inl rfl), cAp_fld hj], by rw [cAdd_D hD (Or.inr rfl), cAp_row (by omega)]⟩
theorem INV_add (hD : D = 2 ∨ D = 20) (hI : INV T n D c a) (hs : sk T n a = a) (ha : a < n) (haa : a < a') (ha' : a' ≤ n) (hT1 : T a ≠ 125) (hT2 : T a ≠ 61 ∨ c 38 2 ≠ 1) (hw3 : w ≠ 3) (hw4 : w ≠ 4) (hg : w = 5 → ∀ S : Nat, c D 0 = (S : Int) → c 43 S = y)
    (hm : ∀ z m (φ : Nat → Nat) (e : Nat → Int) (N S B nd ck ts tm dp b : Nat), LH T n z D c a m a φ e N S B nd ck ts tm dp → m 25 (dp - 1) = (b : Int) → m 25 ((m 0 39) - 1).toNat = (b : Int) → m 0 15 = (N : Int) → m 0 19 = (tm : Int) → m 19 b + 1 = nd → c D 10 = (nd : Int) → KR w x y f (m 19 b) w' x' y' ∧ ∃ m', AM m m' N b tm tm w x y f ∧ PS T n z m' ∧ m' 0 36 = (a' : Int) ∧ m' 0 37 = 1 ∧ (∀ j, j ≠ 15 → j ≠ 36 → m' 0 j = m 0 j) ∧ m' 0 15 = m 0 15 + 1 ∧ ∀ K : St → Prop, K m' → f_X10_readsStatement (T a) m K) : INV T n D (cAdd c D w' x' y') a' := by
  refine INV_step hI (fun z m am hL => ?_)
  obtain ⟨φ, e, N, S, B, nd, ck, ts, tm, dp, hL⟩ := hL
  have hL1 := LH_at hs (Nat.le_of_lt ha) hL
  obtain ⟨b, b1, b2, b3⟩ := LH_cur hL1
  obtain ⟨n1, n2, n3, n4, n5, n6, n7, n8⟩ := LH_n hL1
  obtain ⟨hCB, hown⟩ := LH_CB hD (Nat.le_of_lt ha) hL1
  have hL0 := hL
  obtain ⟨h1, h2, h3, h4, h5, h6, h7, h8, h9, h10, h11, h12, h13⟩ := id hL1
  obtain ⟨y1, y2, y3, y4, y5, y6, y7, y8, y9, y10, y11, y12, y13, y14, y15, y16⟩ := id h6
  obtain ⟨cb, ce, cn⟩ := SY_cur h8 b1 h9
  obtain ⟨hKR, m', hA, hP', e36, e37, ej, e15, hrun⟩ := hm z (sset m 0 36 (a : Int)) φ e N S B nd ck ts tm dp b hL1 b1 b3 y1 y2 cn y10
  have hC := AC_add (w := w') (x := x') (y := y') hD y8 h7 h8 y10 n3 y9 hown
  obtain ⟨f0, fj, f9⟩ := cAdd_f (c := c) (w := w') (x := x') (y := y') hD
  obtain ⟨k1, k38⟩ := cAdd_38 (c := c) (w := w') (x := x') (y := y') hD
  refine ⟨m', a', ⟨pu φ N S, e, N + 1, S + 1, B, nd, ck, ts, tm, dp, hP', e36, e37, ha', rfl, ?_, ?_, h8, ?_, ?_, ?_, by omega, by omega⟩, fun Qm fu hf hq => ?_⟩
  · exact YY_add hD h6 e15 (ej 19 (by decide) (by decide)) (ej 25 (by decide) (by decide)) (ej 30 (by decide) (by decide)) (by rw [ej 32 (by decide) (by decide)]; exact y5) (by rw [ej 33 (by decide) (by decide)]; exact y6) (ej 39 (by decide) (by decide)) (fun j hj => fj j (by omega)) f0 (by rw [f9]) (by rw [fj 14 (by decide)]; exact y11) (by rw [fj 18 (by decide)]; exact y12) (k38 0 (by decide)) y14 y15
  · rw [k38 2 (by decide)]; exact h7
  · refine SY_add hA hC h8 b1 hKR (fun g => absurd g hw3) (fun g => absurd g hw4) (fun _ => ⟨rfl, cAdd_row hD (by omega) (by omega) (by omega) (by omega), cAdd_row hD (by omega) (by omega) (by omega) (by omega)⟩) (Nat.le_refl _) (fun g => ?_) (fun q _ => by rw [cAdd_row hD (by omega) (by omega) (by omega) (by omega)]) h9
    rw [cAdd_row hD (by omega) (by omega) (by omega) (by omega)]
    exact hg g S y8
  · refine ⟨?_, YR_add hA h9.2.2.2.2.1 h9.2.2.2.2.2.2.2.1 h10.2⟩
    intro s hs2 hs3
    have r3 := hA.1
    have r8 := hA.2.2.2.2.2.1
    by_cases g : s = N
    · rw [g, up_at r3] at hs3
      rcases hs3 with u | u
      · exact absurd u hw3
      · exact absurd u hw4
    · rw [up_ne r3 g] at hs3
      rw [up_ne r8 g]
      exact h10.1 s (by omega) hs3
  · rw [oc_add hA h9.2.2.2.2.1 h9.2.2.2.2.2.2.2.1]; exact h11
  · obtain ⟨fu0, rfl⟩ : ∃ k, fu = k + 2 := ⟨fu - 2, by have := hL0.2.2.2.1; omega⟩
    refine m_stmt hs ha hL0 hT1 ?_ (hrun _ (KA_ok e37 (hq _ ?_)))
    · rcases hT2 with g | g
      · exact Or.inl g
      · right; rw [h7] at g; omega
    · have u1 := hL0.2.2.2.1
      have u2 := hL0.2.2.2.2.1
      have u3 := sk_ge (T := T) u1
      rw [hs] at u2
      omega
/-- all that stands when the class takes the first byte of a statement -/
def HC (R : St → St → Prop) (T : Nat → Int) (n D : Nat) (c0 : St) (Q : St → Int → Prop) (c : St) (a : Nat) (K : St → Int → Prop) : Prop :=
  (D = 2 ∨ D = 20) ∧ CT T n c ∧ FC D c0 c ∧ INV T n D c a ∧ sk T n a = a ∧ a < n ∧ c 38 3 = (a : Int) ∧ c 38 4 = 1 ∧ c 38 5 = ((dg T n a : Nat) : Int) ∧ c 38 6 = nm T n a ∧ (∀ c' (r : Int), FC D c0 c' → PR R T n c' r → Q c' r) ∧ (∀ c' a', a < a' → a' ≤ n → CT T n c' → FC D c0 c' → c' 38 3 = ((a' : Nat) : Int) → AW T n c' a' → INV T n D c' a' → CLB Q n c' a') ∧ (∀ τ, KT Q n a τ 1 → K τ 1) ∧ (∀ τ, KT Q n a τ 0 → K τ 0)
/-- the reader stands somewhere: the canonical state of the reference -/
def z0 (T : Nat → Int) (n : Nat) : St := fun c j => if c = 0 then (n : Int) else T j
theorem INV_some (hT : CT T n c) (hI : INV T n D c a) : ∃ m am φ e N S B nd ck ts tm dp, LH T n (z0 T n) D c a m am φ e N S B nd ck ts tm dp := by
  obtain ⟨m, am, ⟨φ, e, N, S, B, nd, ck, ts, tm, dp, hL⟩, -⟩ := hI 0 (z0 T n) ⟨hT.1, hT.2.1, Or.inl ⟨rfl, rfl, fun j _ => rfl⟩⟩
  exact ⟨m, am, φ, e, N, S, B, nd, ck, ts, tm, dp, hL⟩
theorem INV_CB (hD : D = 2 ∨ D = 20) (hT : CT T n c) (ha : a ≤ n) (hI : INV T n D c a) : CB c D := by
  obtain ⟨m, am, φ, e, N, S, B, nd, ck, ts, tm, dp, hL⟩ := INV_some hT hI
  exact (LH_CB hD ha hL).1
theorem INV_2 (hT : CT T n c) (hI : INV T n D c a) : ∃ dp : Nat, c 38 2 = (dp : Int) ∧ 0 < dp ∧ dp ≤ 6 := by
  obtain ⟨m, am, φ, e, N, S, B, nd, ck, ts, tm, dp, hL⟩ := INV_some hT hI
  exact ⟨dp, hL.2.2.2.2.2.2.1, hL.2.2.2.2.2.2.2.1, (LH_n hL).2.2.2.2.1⟩
/-- the last byte of a statement has been taken -/
theorem H_end {c0 : St} {p w1 : Nat} (hD : D = 2 ∨ D = 20) (hT : CT T n c) (hF : FC D c0 c) (h3 : c 38 3 = (p : Int)) (h4 : c 38 4 = (w1 : Int)) (hw : 0 < w1) (hp : p + w1 ≤ n) (hap : a < p + w1)
    (IH : ∀ c' a', a < a' → a' ≤ n → CT T n c' → FC D c0 c' → c' 38 3 = ((a' : Nat) : Int) → AW T n c' a' → INV T n D c' a' → CLB Q n c' a')
    (hI : INV T n D (cAdd c D w' x' y') (p + w1)) : KT Q n p (cAdd c D w' x' y') 1 := by
  obtain ⟨k1, k38⟩ := cAdd_38 (c := c) (w := w') (x := x') (y := y') hD
  have cx : CX (cAdd c D w' x' y') (sset (cAdd c D w' x' y') 38 3 ((p + w1 : Nat) : Int)) := CX_set (by decide) (by decide)
  refine KT_ok (by rw [k38 3 (by decide)]; exact h3) (by rw [k38 4 (by decide)]; exact h4) hw ?_
  refine IH _ _ hap hp (CT_cx cx (CT_add hD hT)) (FC_cx cx (FC_add hD hF)) (sset_self _ _ _ _) (Or.inl ?_) (INV_cx hD cx hI)
  rw [sset_place _ _ _ (by decide)]; exact k1
/-- the reference's fault at a statement -/
theorem PR_stmt {r : Nat} (hr : r ≤ 400) (hI : INV T n D c a) (hs : sk T n a = a) (ha : a < n) (hT1 : T a ≠ 125) (hT2 : T a ≠ 61 ∨ c 38 2 ≠ 1)
    (h : ∀ z m (φ : Nat → Nat) (e : Nat → Int) (N S B nd ck ts tm dp : Nat), LH T n z D c a m a φ e N S B nd ck ts tm dp → MB m → ∀ K : St → Prop, DE T n z K r → f_X10_readsStatement (T a) m K) : PR R T n c' (r : Int) := by
  refine PR_fault hr hI (fun z m am hL Qm fu hf hd => ?_)
  obtain ⟨φ, e, N, S, B, nd, ck, ts, tm, dp, hL⟩ := hL
  have hL1 := LH_at hs (Nat.le_of_lt ha) hL
  obtain ⟨fu0, rfl⟩ : ∃ k, fu = k + 2 := ⟨fu - 2, by have := hL.2.2.2.1; have := hL.1.1.1; omega⟩
  refine m_stmt hs ha hL hT1 ?_ (h z _ φ e N S B nd ck ts tm dp hL1 (LH_MB (Nat.le_of_lt ha) hL1) _ (DE_KA hd))
  rcases hT2 with g | g
  · exact Or.inl g
  · right; have := hL.2.2.2.2.2.2.1; rw [this] at g; omega
theorem t_number (h5 : inR (c 38 5)) (h1 : (c 38 5 = 1 ∨ c 38 5 = 2) → Q (sset c 38 4 (c 38 5)) 1) (h0 : (c 38 5 ≠ 1 ∧ c 38 5 ≠ 2) → Q (sset c 38 4 (c 38 5)) 0) : f_X6_takesNumber c Q := by
  unfold f_X6_takesNumber
  intro c1 e1
  have g5 : c1 38 5 = c 38 5 := by rw [e1, sset_place _ _ _ (by decide)]
  rw [g5, e1]
  exact ⟨h5, fun g => h1 (Or.inl g), fun g => ⟨h5, fun g2 => h0 ⟨g, g2⟩, fun g2 => h1 (Or.inr g2)⟩⟩
theorem nm_le (h1 : 1 ≤ dg T n a) (h2 : dg T n a ≤ 2) : nm T n a ≤ 99 ∧ 0 ≤ nm T n a := by
  unfold nm
  have d0 := dg_at (T := T) (n := n) 0 a (by omega)
  rw [Nat.add_zero] at d0
  by_cases g : dg T n a = 1
  · rw [if_neg (by omega), if_pos g]; omega
  · rw [if_neg (by omega), if_neg g]
    have := (dg_at (T := T) (n := n) 1 a (by omega))
    omega
/-- a line -/
theorem H_line {c0 : St} {K : St → Int → Prop} (h : HC R T n D c0 Q c a K) (h1 : 48 ≤ T a) (h2 : T a ≤ 57) : f_X6_takesInBlock (T a) c K := by
  obtain ⟨hD, hT, hF, hI, hs, ha, h3, h4, h5, h6, HQ, IH, hK1, hK0⟩ := h
  have hdy := dg_y ha h1 h2
  have hdl := dg_le (T := T) _ a rfl (Nat.le_of_lt ha)
  have hn := hT.1
  refine ib_x ⟨by omega, by omega⟩ (by omega) (by omega) (by omega) (by omega) (by omega) (by omega) (by omega) (by omega) (by omega) ?_
  refine t_isMeter ⟨by omega, by omega⟩ (fun q1 q2 => by omega) (fun _ => ⟨⟨by decide, by decide⟩, fun _ => ?_, fun g => absurd rfl g⟩)
  refine t_isDigit ⟨by omega, by omega⟩ (fun _ _ => ⟨⟨by decide, by decide⟩, fun g => absurd g (by decide), fun _ => ?_⟩) (fun q => by omega)
  have cx : CX c (sset c 38 4 (c 38 5)) := CX_set (by decide) (by decide)
  have g3 : sset c 38 4 (c 38 5) 38 3 = (a : Int) := by rw [sset_place _ _ _ (by decide)]; exact h3
  have g4 : sset c 38 4 (c 38 5) 38 4 = ((dg T n a : Nat) : Int) := by rw [sset_self]; exact h5
  have g6 : sset c 38 4 (c 38 5) 38 6 = nm T n a := by rw [sset_place _ _ _ (by decide)]; exact h6
  have hI1 := INV_cx hD cx hI
  have hTb := hT.2.1 (a + 1)
  unfold f_X6_takesLine
  refine t_number (by rw [h5]; exact ⟨by omega, by omega⟩) (fun hd2 => ?_) (fun hd2 => ?_)
  · rw [h5] at hd2
    refine ⟨⟨by decide, by decide⟩, fun g => absurd g (by decide), fun _ => ?_⟩
    rw [g6]
    refine t_add hD (INV_CB hD (CT_cx cx hT) (Nat.le_of_lt ha) hI1) ⟨⟨by decide, by decide⟩, fun g => absurd g (by decide), fun _ => ⟨⟨by decide, by decide⟩, fun g => absurd g (by decide), fun _ => hK1 _ ?_⟩⟩
    refine H_end hD (CT_cx cx hT) (FC_cx cx hF) g3 g4 (by omega) hdl (by omega) IH ?_
    refine INV_add (w := 0) (x := nm T n a) (y := 0) (f := -1) hD hI1 hs ha (by omega) hdl (by omega) (Or.inl (by omega)) (by decide) (by decide) (fun g => absurd g (by decide)) (fun z m φ e N S B nd ck ts tm dp b hL b1 b3 y1 y2 cn _ => ⟨?_, mSt (sset m 0 36 ((a + dg T n a : Nat) : Int)) 0 (nm T n a) 0, ?_, ?_, ?_, ?_, ?_, ?_, ?_⟩)
    · left
      have hb2 : nm T n a ≤ 99 ∧ 0 ≤ nm T n a := nm_le (by omega) (by omega)
      exact ⟨rfl, rfl, rfl, hb2.2, hb2.1⟩
    · exact AM_rq (AM_st (m := sset m 0 36 ((a + dg T n a : Nat) : Int)) (by rw [at_x (by decide)]; exact y1) (by rw [at_x (by decide), sset_row _ _ _ (by decide)]; exact b3) (by rw [at_x (by decide)]; exact y2) (by decide)) RQ_0 RQ_rfl
    · exact PS_st (PS_at hL.1 _)
    · rw [mSt_fld (by decide), sset_self]
    · rw [mSt_fld (by decide), at_37]; exact hL.2.2.1
    · intro j j1 j2; rw [mSt_fld j1, at_x j2]
    · rw [mSt_15, at_x (by decide)]
    · intro Km hKm
      exact r_line hL.1 (LH_MB (Nat.le_of_lt ha) hL) ha hL.2.1 hL.2.2.1 h1 h2 (fun _ => hKm) (fun g => by omega)
  · rw [h5] at hd2
    refine ⟨⟨by decide, by decide⟩, fun _ => ⟨⟨by decide, by decide⟩, fun _ => hK0 _ (KT_no g3 (HQ _ _ (FC_cx cx hF) (PR_stmt (by have := hT.1; omega) hI hs ha (by omega) (Or.inl (by omega)) (fun z m φ e N S B nd ck ts tm dp hL hB Km hd => ?_)))), fun g => absurd rfl g⟩, fun g => absurd rfl g⟩
    exact r_line hL.1 hB ha hL.2.1 hL.2.2.1 h1 h2 (fun g => by omega) (fun _ => hd)
/-- back to the hub -/
theorem H_hub {c0 : St} {K : St → Int → Prop} (h : HC R T n D c0 Q c a K) (h1 : T a = 60) : f_X6_takesInBlock (T a) c K := by
  obtain ⟨hD, hT, hF, hI, hs, ha, h3, h4, h5, h6, HQ, IH, hK1, hK0⟩ := h
  have hB := INV_CB hD hT (Nat.le_of_lt ha) hI
  rw [h1]
  refine ib_60 ?_
  rw [hB.1, Int.toNat_natCast]
  refine ⟨hD, t_add hD hB ⟨Or.inr rfl, hK1 _ ?_⟩⟩
  refine H_end (w1 := 1) hD hT hF h3 h4 (by omega) (by omega) (by omega) IH ?_
  refine INV_add (w := 6) (x := 0) (y := 0) (f := -1) hD hI hs ha (by omega) (by omega) (by omega) (Or.inl (by omega)) (by decide) (by decide) (fun g => absurd g (by decide)) (fun z m φ e N S B nd ck ts tm dp b hL b1 b3 y1 y2 cn y10 => ⟨?_, mSt (sset m 0 36 ((a + 1 : Nat) : Int)) 6 0 0, ?_, ?_, ?_, ?_, ?_, ?_, ?_⟩)
  · right; right; right; right; right; right; left
    exact ⟨rfl, rfl, by omega⟩
  · exact AM_rq (AM_st (m := sset m 0 36 ((a + 1 : Nat) : Int)) (by rw [at_x (by decide)]; exact y1) (by rw [at_x (by decide), sset_row _ _ _ (by decide)]; exact b3) (by rw [at_x (by decide)]; exact y2) (by decide)) RQ_0 RQ_rfl
  · exact PS_st (PS_at hL.1 _)
  · rw [mSt_fld (by decide), sset_self]
  · rw [mSt_fld (by decide), at_37]; exact hL.2.2.1
  · intro j j1 j2; rw [mSt_fld j1, at_x j2]
  · rw [mSt_15, at_x (by decide)]
  · intro Km hKm
    exact r_hub hL.1 (LH_MB (Nat.le_of_lt ha) hL) ha hL.2.1 hL.2.2.1 h1 hKm
end HADD
