/-! ===== pure layer: tests and choices, read by both ===== -/
section HTEST
variable {T : Nat → Int} {n D a a' am p u u' : Nat} {z c c' c1 m m' : St} {φ : Nat → Nat} {e : Nat → Int} {N S B nd ck ts tm dp b ck' ts' : Nat} {R : St → St → Prop} {Q : St → Int → Prop} {w x y f w' x' y' kk tmc tmc' : Int}
theorem AC_eq (h : AC c c1 D S nd dp tmc tmc' w x y) (hD : D = 2 ∨ D = 20) (hr : ∀ q, q ≠ 38 → q ≠ D → q ≠ D + 15 → q ≠ D + 16 → c' q = c1 q) (h13 : c' D 13 = c1 D 13) : AC c c' D S nd dp tmc tmc' w x y := by
  unfold AC at *
  rw [hr (D + 1) (by omega) (by omega) (by omega) (by omega), hr (D + 2) (by omega) (by omega) (by omega) (by omega), hr (D + 3) (by omega) (by omega) (by omega) (by omega), hr (D + 4) (by omega) (by omega) (by omega) (by omega), hr (D + 5) (by omega) (by omega) (by omega) (by omega), hr (D + 6) (by omega) (by omega) (by omega) (by omega), hr (D + 7) (by omega) (by omega) (by omega) (by omega), hr (D + 8) (by omega) (by omega) (by omega) (by omega), hr (D + 10) (by omega) (by omega) (by omega) (by omega), hr (D + 11) (by omega) (by omega) (by omega) (by omega), hr (D + 12) (by omega) (by omega) (by omega) (by omega), hr (D + 13) (by omega) (by omega) (by omega) (by omega), hr (D + 14) (by omega) (by omega) (by omega) (by omega), hr 39 (by omega) (by omega) (by omega) (by omega), hr 40 (by omega) (by omega) (by omega) (by omega), hr 41 (by omega) (by omega) (by omega) (by omega), hr 42 (by omega) (by omega) (by omega) (by omega), h13]
  exact h
/-- a test or a choice has been added, its block is pending -/
theorem LQ_add (hkk : kk = 3 ∨ kk = 4) (hcur : m 25 (dp - 1) = (b : Int)) (hA : AM m m' N b tm tm kk x y (-1)) (hC : AC c c' D S nd dp tm tm w' x' y') (hK : KR kk x y (-1) (m 19 b) w' x' y') (hw3 : kk = 3 → (ts : Int) ≤ x ∧ x < ts' ∧ ts' = ts + 1 ∧ ck' = ck) (hw4 : kk = 4 → x = ck ∧ ck' = ck + 1 ∧ ts' = ts ∧ c' (D + 15) = va_up (c (D + 15)) ck y ∧ c' (D + 16) = va_up (c (D + 16)) ck (m 19 b)) (hw : kk ≠ 4 → c' (D + 15) = c (D + 15) ∧ c' (D + 16) = c (D + 16)) (h43 : c' 43 = c 43) (hP : PS T n z m') (h36 : m' 0 36 = (a' : Int)) (h37 : m' 0 37 = 1) (hYY : YY c' m' D (N + 1) (S + 1) B nd ck' ts' tm dp) (h2 : c' 38 2 = (dp : Int)) (haa : a < a') (ha' : a' ≤ n) (hu : 2 * tm + u ≤ a') (hL : LH T n z D c a m am φ e N S B nd ck ts tm dp) : LQ T n z D c' a' m' a' (pu φ N S) e (N + 1) (S + 1) B nd ck' ts' tm dp kk u ∧ m' 11 N = (tm : Int) := by
  obtain ⟨h1, e6, e7, h4, h5, h6, h7, h8, h9, h10, h11, h12, h13⟩ := hL
  have hts : ts ≤ ts' := by
    rcases hkk with g | g
    · have := (hw3 g).2.2.1; omega
    · have := (hw4 g).2.2.1; omega
  have hSY := SY_add hA hC h8 hcur hK (fun g => ⟨(hw3 g).1, (hw3 g).2.1, rfl⟩) (fun g => ⟨(hw4 g).1, (hw4 g).2.1, rfl, (hw4 g).2.2.2⟩) (fun g => ⟨(hw3 (by omega)).2.2.2, hw g⟩) hts (fun g => by omega) (fun q _ => by rw [h43]) h9
  obtain ⟨r3, r4, r5, r6, r7, r8, r9, r10, r11, r17, r18, r24, r12, r13, r14, r15, r16, r19, r20, r21, r22, r23, r25⟩ := id hA
  have m11 : m' 11 N = (tm : Int) := up_at r11
  refine ⟨⟨hP, h36, h37, ha', rfl, hYY, h2, h8, ?_, ⟨by omega, ?_, ?_, ?_, ?_⟩, ?_, YR_add hA h9.2.2.2.2.1 h9.2.2.2.2.2.2.2.1 h10.2, ?_, by omega, hu⟩, m11⟩
  · rw [show N + 1 - 1 = N by omega, sset_id _ _ _ m11]; exact hSY
  · rw [r25, hcur, Int.toNat_natCast, up_at r18]; omega
  · rw [show N + 1 - 1 = N by omega]; exact up_at r3
  · rw [show N + 1 - 1 = N by omega]; exact up_at r8
  · rw [show N + 1 - 1 = N by omega]; exact up_at r9
  · intro s hs h3
    rw [up_ne r3 (by omega)] at h3
    rw [up_ne r8 (by omega)]
    exact h10.1 s (by omega) h3
  · rw [oc_add hA h9.2.2.2.2.1 h9.2.2.2.2.2.2.2.1]
    rcases hkk with g | g
    · rw [if_pos g]; have := hw3 g; omega
    · rw [if_neg (by omega)]; have := hw4 g; omega
theorem H_test {c0 : St} {K : St → Int → Prop} (h : HC R T n D c0 Q c a (fun τ r => (r = 0 ∨ r = 1) ∧ K τ r)) (h1 : T a = 63) : f_X6_takesInBlock (T a) c (fun τ r => (r = 0 ∨ r = 1) ∧ K τ r) := by
  obtain ⟨hD, hT, hF, hI, hs, ha, h3, h4, h5, h6, HQ, IH, hK1, hK0⟩ := h
  have hn := hT.1
  obtain ⟨m0, am0, φ0, e0, N0, S0, B0, nd0, ck0, ts, tm0, dp, hL0⟩ := INV_some hT hI
  have hCB := INV_CB hD hT (Nat.le_of_lt ha) hI
  have f18 : c D 18 = (ts : Int) := hL0.2.2.2.2.2.1.2.2.2.2.2.2.2.2.2.2.2.1
  have hts16 := (LH_n hL0).2.2.2.2.2.2.2
  have h2 : c 38 2 = (dp : Int) := hL0.2.2.2.2.2.2.1
  rw [h1]
  refine ib_63 ?_
  unfold f_X6_beginsTest
  rw [hCB.1, Int.toNat_natCast, f18]
  refine ⟨hD, ⟨by omega, by omega⟩, fun g => ?_, fun g => ⟨Or.inl rfl, hK0 c (KT_no h3 (HQ c _ hF ?_))⟩⟩
  · obtain ⟨f0, fj, f9⟩ := cAdd_f (c := c) (w := 6) (x := (ts : Int)) (y := 0) hD
    obtain ⟨k1, k38⟩ := cAdd_38 (c := c) (w := 6) (x := (ts : Int)) (y := 0) hD
    refine t_add hD hCB ?_
    rw [k38 0 (by decide), hCB.1, Int.toNat_natCast]
    refine ⟨hD, fun σ2 e2 => t_await ⟨Or.inr rfl, Or.inr rfl, hK1 _ ?_⟩⟩
    rw [fj 18 (by decide), f18] at e2
    have j38 : ∀ j, j ≠ 1 → sset σ2 38 1 8 38 j = c 38 j := fun j hj => by rw [sset_place _ _ _ hj, e2, sset_row _ _ _ (by omega), k38 j hj]
    have jr : ∀ q, q ≠ 38 → q ≠ D → sset σ2 38 1 8 q = cAdd c D 6 ts 0 q := fun q q1 q2 => by rw [sset_row _ _ _ q1, e2, sset_row _ _ _ q2]
    have jD : ∀ j, j ≠ 18 → sset σ2 38 1 8 D j = cAdd c D 6 ts 0 D j := fun j hj => by rw [sset_row _ _ _ (by omega), e2, sset_place _ _ _ hj]
    have j18 : sset σ2 38 1 8 D 18 = ((ts + 1 : Nat) : Int) := by rw [sset_row _ _ _ (by omega), e2, sset_self]; rfl
    have j1 : sset σ2 38 1 8 38 1 = 8 := sset_self _ _ _ _
    generalize sset σ2 38 1 8 = c2 at j38 jr jD j18 j1
    refine KT_ok (w := 1) (by rw [j38 3 (by decide)]; exact h3) (by rw [j38 4 (by decide)]; exact h4) (by decide) ?_
    have cx : CX c2 (sset c2 38 3 ((a + 1 : Nat) : Int)) := CX_set (by decide) (by decide)
    refine C_cond hD (Or.inl rfl) a HQ IH _ (a + 1) _ (Nat.le_refl _) (by omega) (by omega) (CT_cx cx (CT_row (CT_add hD hT) (jr 1 (by decide) (by omega)))) (FC_cx cx (fun q u1 u2 => by rw [jr q (by omega) (by omega)]; exact FC_add hD hF q u1 u2)) (by rw [sset_place _ _ _ (by decide)]; exact j1) (sset_self _ _ _ _) (CINV_cx hD cx ?_)
    intro bb z hsr
    obtain ⟨m, am, ⟨φ, e, N, S, B, nd, ck, ts', tm, dp', hL⟩, hR⟩ := hI bb z hsr
    have hdd : dp' = dp := by have := hL.2.2.2.2.2.2.1; omega
    have htt : ts' = ts := by have := hL.2.2.2.2.2.1.2.2.2.2.2.2.2.2.2.2.2.1; omega
    subst hdd
    subst htt
    have hL1 := LH_at hs (Nat.le_of_lt ha) hL
    obtain ⟨b, b1, b2, b3⟩ := LH_cur hL1
    obtain ⟨n1, n2, n3, n4, n5, n6, n7, n8⟩ := LH_n hL1
    obtain ⟨-, hown⟩ := LH_CB hD (Nat.le_of_lt ha) hL1
    obtain ⟨y1, y2, y3, y4, y5, y6, y7, y8, y9, y10, y11, y12, y13, y14, y15, y16⟩ := id hL1.2.2.2.2.2.1
    have hC := AC_add (w := 6) (x := (ts' : Int)) (y := 0) hD y8 h2 hL1.2.2.2.2.2.2.2.1 y10 n3 y9 hown
    have hC' : AC c c2 D S nd dp' tm tm 6 ts' 0 := AC_eq hC hD (fun q q1 q2 _ _ => jr q q1 q2) (jD 13 (by decide))
    have gj : ∀ j, j ≠ 15 → j ≠ 33 → j ≠ 36 → sset (mSt (sset (sset m 0 36 (a : Int)) 0 36 ((a + 1 : Nat) : Int)) 3 ts' 0) 0 33 ((ts' : Int) + 1) 0 j = sset m 0 36 (a : Int) 0 j := fun j j1 j2 j3 => by rw [sset_place _ _ _ j2, mSt_fld j1, at_x j3]
    obtain ⟨hQL, m11⟩ := LQ_add (kk := 3) (x := (ts' : Int)) (y := 0) (w' := 6) (x' := (ts' : Int)) (y' := 0) (a' := a + 1) (u := 3) (ts' := ts' + 1) (ck' := ck) (m' := sset (mSt (sset (sset m 0 36 (a : Int)) 0 36 ((a + 1 : Nat) : Int)) 3 ts' 0) 0 33 ((ts' : Int) + 1)) (Or.inl rfl) b1 (AM_rq (AM_st (m := sset (sset m 0 36 (a : Int)) 0 36 ((a + 1 : Nat) : Int)) (by rw [at_x (by decide)]; exact y1) (by rw [at_x (by decide), sset_row _ _ _ (by decide)]; exact b3) (by rw [at_x (by decide)]; exact y2) (by decide)) RQ_0 RQ_0) hC' (Or.inr (Or.inr (Or.inr (Or.inl ⟨rfl, rfl, rfl⟩)))) (fun _ => ⟨by omega, by omega, rfl, rfl⟩) (fun g => absurd g (by decide)) (fun _ => ⟨by rw [jr (D + 15) (by omega) (by omega)]; exact cAdd_row hD (by omega) (by omega) (by omega) (by omega), by rw [jr (D + 16) (by omega) (by omega)]; exact cAdd_row hD (by omega) (by omega) (by omega) (by omega)⟩) (by rw [jr 43 (by decide) (by omega)]; exact cAdd_row hD (by omega) (by omega) (by omega) (by omega)) (PS_fld (PS_st (PS_at hL1.1 _)) 33 _ rfl (by decide) (by decide)) (by rw [sset_place _ _ _ (by decide), mSt_fld (by decide), sset_self]) (by rw [gj 37 (by decide) (by decide) (by decide)]; exact hL1.2.2.1) (by
        unfold YY
        rw [gj 19 (by decide) (by decide) (by decide), gj 25 (by decide) (by decide) (by decide), gj 30 (by decide) (by decide) (by decide), gj 32 (by decide) (by decide) (by decide), gj 39 (by decide) (by decide) (by decide), sset_self, sset_place _ _ _ (by decide), mSt_15, at_x (by decide), jD 0 (by decide), f0, jr (D + 9) (by omega) (by omega), f9, jD 10 (by decide), fj 10 (by decide), jD 14 (by decide), fj 14 (by decide), j18, j38 0 (by decide)]
        exact ⟨by omega, y2, y3, y4, y5, rfl, y7, by omega, y9, y10, y11, rfl, y13, y14, by omega, y16⟩) (by rw [j38 2 (by decide)]; exact h2) (by omega) (by omega) (by have := hL1.2.2.2.2.2.2.2.2.2.2.2.2; omega) hL1
    refine ⟨_, a + 1, _, _, _, _, _, _, _, _, _, _, hQL, fun Qm hq => hR Qm (fun fu hf => ?_)⟩
    obtain ⟨fu0, rfl⟩ : ∃ k, fu = k + 2 := ⟨fu - 2, by have := hL.2.2.2.1; omega⟩
    have y6' : sset m 0 36 (a : Int) 0 33 = (ts' : Int) := y6
    refine m_stmt hs ha hL (by omega) (Or.inl (by omega)) (r_test hL1.1 (LH_MB (Nat.le_of_lt ha) hL1) ha hL1.2.1 hL1.2.2.1 h1 (by rw [y6]; exact ⟨by omega, by omega⟩) (fun _ => ?_) (fun g' => by rw [y6] at g'; omega))
    rw [y6, y1]
    have hle : am ≤ a := by
      have u2 := hL.2.2.2.2.1
      have u3 := sk_ge (T := T) hL.2.2.2.1
      rw [hs] at u2
      omega
    have := hq (fu0 + 1) FU (by omega) (by show 500 ≤ 100000 + (a + 1); omega)
    rw [show N + 1 - 1 = N by omega] at this
    unfold cKK at this
    rw [if_pos rfl] at this
    exact this
  · refine PR_stmt (by have := hT.1; omega) hI hs ha (by omega) (Or.inl (by omega)) (fun z m φ e N S B nd ck ts' tm dp hL hB Km hd => ?_)
    have y6 := hL.2.2.2.2.2.1.2.2.2.2.2.1
    have y12 := hL.2.2.2.2.2.1.2.2.2.2.2.2.2.2.2.2.2.1
    exact r_test hL.1 hB ha hL.2.1 hL.2.2.1 h1 (by rw [y6]; exact ⟨by omega, by omega⟩) (fun g' => by rw [y6] at g'; omega) (fun _ => hd)
end HTEST
