/-! ===== pure layer: choices and nodes, read by both ===== -/
section HCHOICE
variable {T : Nat → Int} {n D a a' am p u u' : Nat} {z c c' c1 m m' : St} {φ : Nat → Nat} {e : Nat → Int} {N S B nd ck ts tm dp b ck' ts' : Nat} {R : St → St → Prop} {Q : St → Int → Prop} {w x y f w' x' y' kk tmc tmc' : Int}
theorem dg_pos {q : Nat} (hq : q < n) (h1 : 48 ≤ T q) (h2 : T q ≤ 57) : 1 ≤ dg T n q := by
  have := dg_y hq h1 h2; omega
theorem H_choice {c0 : St} {K : St → Int → Prop} (h : HC R T n D c0 Q c a (fun τ r => (r = 0 ∨ r = 1) ∧ K τ r)) (h1 : T a = 91) : f_X6_takesInBlock (T a) c (fun τ r => (r = 0 ∨ r = 1) ∧ K τ r) := by
  obtain ⟨hD, hT, hF, hI, hs, ha, h3, h4, h5, h6, HQ, IH, hK1, hK0⟩ := h
  have hn := hT.1
  obtain ⟨m0, am0, φ0, e0, N0, S0, B0, nd, ck, ts0, tm0, dp, hL0⟩ := INV_some hT hI
  have hCB := INV_CB hD hT (Nat.le_of_lt ha) hI
  have f14 : c D 14 = (ck : Int) := hL0.2.2.2.2.2.1.2.2.2.2.2.2.2.2.2.2.1
  have f10 : c D 10 = (nd : Int) := hL0.2.2.2.2.2.1.2.2.2.2.2.2.2.2.2.1
  obtain ⟨-, -, hnd0, -, hdp6, -, hck16, -⟩ := LH_n hL0
  have hdp0 := hL0.2.2.2.2.2.2.2.1
  have h2 : c 38 2 = (dp : Int) := hL0.2.2.2.2.2.2.1
  have hle : ∀ {z m : St} {am : Nat} {φ : Nat → Nat} {e : Nat → Int} {N S B nd ck ts tm dp : Nat}, LH T n z D c a m am φ e N S B nd ck ts tm dp → am ≤ a := by
    intro z m am φ e N S B nd ck ts tm dp hL
    have u2 := hL.2.2.2.2.1
    have u3 := sk_ge (T := T) hL.2.2.2.1
    rw [hs] at u2
    omega
  rw [h1]
  refine ib_91 ?_
  unfold f_X6_beginsChoice
  rw [hCB.1, Int.toNat_natCast]
  refine ⟨hD, ?_⟩
  rintro x1 rfl
  rw [f14, Int.toNat_natCast]
  refine ⟨⟨by omega, by omega⟩, fun g => by omega, fun _ => ⟨⟨by omega, by omega⟩, fun g => ?_, fun g => ⟨Or.inl rfl, hK0 c (KT_no h3 (HQ c _ hF ?_))⟩⟩⟩
  · obtain ⟨f0, fj, f9⟩ := cAdd_f (c := c) (w := 7) (x := (ck : Int)) (y := 0) hD
    obtain ⟨k1, k38⟩ := cAdd_38 (c := c) (w := 7) (x := (ck : Int)) (y := 0) hD
    refine t_add hD hCB ?_
    rw [k38 0 (by decide), hCB.1, Int.toNat_natCast, fj 10 (by decide), f10]
    refine ⟨hD, by omega, by omega, fun σ2 e2 => ?_⟩
    have s38 : σ2 38 = cAdd c D 7 ck 0 38 := by rw [e2, sset_row _ _ _ (by omega)]
    have s14 : σ2 D 14 = (ck : Int) := by rw [e2, sset_row _ _ _ (by omega), fj 14 (by decide)]; exact f14
    rw [s38, k38 0 (by decide), hCB.1, Int.toNat_natCast, s14]
    refine ⟨hD, fun σ3 e3 => t_await ⟨Or.inr rfl, Or.inr rfl, hK1 _ ?_⟩⟩
    have j38 : ∀ j, j ≠ 1 → sset σ3 38 1 13 38 j = c 38 j := fun j hj => by rw [sset_place _ _ _ hj, e3, sset_row _ _ _ (by omega), s38, k38 j hj]
    have jr : ∀ q, q ≠ 38 → q ≠ D → q ≠ D + 16 → sset σ3 38 1 13 q = cAdd c D 7 ck 0 q := fun q q1 q2 q3 => by rw [sset_row _ _ _ q1, e3, sset_row _ _ _ q2, e2, sset_row _ _ _ q3]
    have jD : ∀ j, j ≠ 14 → sset σ3 38 1 13 D j = cAdd c D 7 ck 0 D j := fun j hj => by rw [sset_row _ _ _ (by omega), e3, sset_place _ _ _ hj, e2, sset_row _ _ _ (by omega)]
    have j14 : sset σ3 38 1 13 D 14 = ((ck + 1 : Nat) : Int) := by rw [sset_row _ _ _ (by omega), e3, sset_self]; rfl
    have j16 : sset σ3 38 1 13 (D + 16) = va_up (c (D + 16)) ck ((nd : Int) - 1) := by rw [sset_row _ _ _ (by omega), e3, sset_row _ _ _ (by omega), e2, sset_same, cAdd_row hD (by omega) (by omega) (by omega) (by omega)]
    have j1 : sset σ3 38 1 13 38 1 = 13 := sset_self _ _ _ _
    generalize sset σ3 38 1 13 = c2 at j38 jr jD j14 j16 j1
    refine KT_ok (w := 1) (by rw [j38 3 (by decide)]; exact h3) (by rw [j38 4 (by decide)]; exact h4) (by decide) ?_
    have cx : CX c2 (sset c2 38 3 ((a + 1 : Nat) : Int)) := CX_set (by decide) (by decide)
    have hT2 : CT T n c2 := CT_row (CT_add hD hT) (jr 1 (by decide) (by omega) (by omega))
    have hF2 : FC D c0 c2 := fun q u1 u2 => by rw [jr q (by omega) (by omega) (by omega)]; exact FC_add hD hF q u1 u2
    have hleq : sk T n (a + 1) ≤ n := sk_le (by omega)
    have hgeq : a + 1 ≤ sk T n (a + 1) := sk_ge (by omega)
    have hdl := dg_le (T := T) _ (sk T n (a + 1)) rfl hleq
    have hler : sk T n (sk T n (a + 1) + dg T n (sk T n (a + 1))) ≤ n := sk_le hdl
    have hger : sk T n (a + 1) + dg T n (sk T n (a + 1)) ≤ sk T n (sk T n (a + 1) + dg T n (sk T n (a + 1))) := sk_ge hdl
    have hssr := sk_sk (T := T) hdl
    have bad1 : ∀ c', (dg T n (sk T n (a + 1)) = 0 ∨ 2 < dg T n (sk T n (a + 1))) → PR R T n c' ((sk T n (a + 1) : Nat) : Int) := fun c' hb => PR_stmt (by have := hT.1; have := sk_le (T := T) (n := n) (i := a + 1) (by omega); omega) hI hs ha (by omega) (Or.inl (by omega)) (fun z m φ e N S B nd ck' ts tm dp hL hB Km hd => by
      have y5 := hL.2.2.2.2.2.1.2.2.2.2.1
      have y11 := hL.2.2.2.2.2.1.2.2.2.2.2.2.2.2.2.2.1
      exact r_choice hL.1 hB ha hL.2.1 hL.2.2.1 h1 (by omega) (by omega) (fun g' => by omega) (fun _ _ => hd) (fun _ g1 g2 => by omega) (fun _ g1 g2 => by omega))
    refine c_next (CT_cx cx hT2) (by omega) (sset_self _ _ _ _) (fun hen c3 hc3 h33 => ?_) (fun hlt c3 hc3 h33 h34 h35 h36 K' hK' => ?_)
    · have x3 := CX_tr cx (CX_ce hc3)
      have w1 : c3 38 1 = 13 := by rw [hc3.2 1 (by omega), sset_place _ _ _ (by decide)]; exact j1
      refine j100_no (by rw [x3.2.2, j38 2 (by decide), h2]; exact ⟨by omega, by omega⟩) (by rw [w1]; exact ⟨by decide, by decide⟩) (by rw [w1]; decide) (HQ _ _ (FC_cx x3 hF2) ?_)
      have := bad1 c3 (Or.inl (dg_n (Or.inl (by omega))))
      rw [hen] at this; exact this
    · have x3 := CX_tr cx (CX_ce hc3)
      have w1 : c3 38 1 = 13 := by rw [hc3.2 1 (by omega), sset_place _ _ _ (by decide)]; exact j1
      have w0 : c3 38 0 = (D : Int) := by rw [x3.2.1, j38 0 (by decide)]; exact hCB.1
      have hr := hT.2.1 (sk T n (a + 1))
      refine g_13 w1 ?_
      unfold f_X6_takesLabel
      refine t_isDigit ⟨by omega, by omega⟩ (fun q1 q2 => ⟨⟨by decide, by decide⟩, fun g => absurd g (by decide), fun _ => ?_⟩) (fun qd => ⟨⟨by decide, by decide⟩, fun _ => ⟨Or.inl rfl, hK' _ _ (KT_no h33 (HQ _ _ (FC_cx x3 hF2) (bad1 c3 (Or.inl (dg_n (Or.inr qd))))))⟩, fun g => absurd rfl g⟩)
      have hd1 := dg_pos (T := T) hlt q1 q2
      have x4 : CX c2 (sset c3 38 4 (c3 38 5)) := CX_tr x3 (CX_set (by decide) (by decide))
      have h43 : sset c3 38 4 (c3 38 5) 38 3 = ((sk T n (a + 1) : Nat) : Int) := by rw [sset_place _ _ _ (by decide)]; exact h33
      refine t_number (by rw [h35]; exact ⟨by omega, by omega⟩) (fun hd2 => ⟨⟨by decide, by decide⟩, fun _ => ?_, fun g => absurd g (by decide)⟩) (fun hd2 => ⟨⟨by decide, by decide⟩, fun g => absurd rfl g, fun _ => ⟨Or.inl rfl, hK' _ _ (KT_no h43 (HQ _ _ (FC_cx x4 hF2) (bad1 _ (Or.inr (by omega)))))⟩⟩)
      rw [h35] at hd2
      have hd3 : dg T n (sk T n (a + 1)) ≤ 2 := by omega
      have u0 : sset c3 38 4 (c3 38 5) 38 0 = (D : Int) := by rw [sset_place _ _ _ (by decide)]; exact w0
      have u14 : sset c3 38 4 (c3 38 5) D 14 - 1 = (ck : Int) := by rw [sset_row _ _ _ (by omega), x3.1 D (by omega), j14]; omega
      have u6 : sset c3 38 4 (c3 38 5) 38 6 = nm T n (sk T n (a + 1)) := by rw [sset_place _ _ _ (by decide)]; exact h36
      rw [u0, Int.toNat_natCast, u14, u6]
      refine ⟨hD, t_put (iaD15 hD) (by decide) (by omega) (by omega) (t_await ⟨Or.inr rfl, Or.inr rfl, hK' _ _ ?_⟩)⟩
      rw [Int.toNat_natCast]
      have v38 : ∀ j, j ≠ 1 → j ≠ 4 → sset (sset (sset c3 38 4 (c3 38 5)) (D + 15) ck (nm T n (sk T n (a + 1)))) 38 1 14 38 j = c3 38 j := fun j v1 v2 => by rw [sset_place _ _ _ v1, sset_row _ _ _ (by omega), sset_place _ _ _ v2]
      have v4 : sset (sset (sset c3 38 4 (c3 38 5)) (D + 15) ck (nm T n (sk T n (a + 1)))) 38 1 14 38 4 = ((dg T n (sk T n (a + 1)) : Nat) : Int) := by rw [sset_place _ _ _ (by decide), sset_row _ _ _ (by omega), sset_self]; exact h35
      have v1 : sset (sset (sset c3 38 4 (c3 38 5)) (D + 15) ck (nm T n (sk T n (a + 1)))) 38 1 14 38 1 = 14 := sset_self _ _ _ _
      have vr : ∀ q, q ≠ 38 → q ≠ D + 15 → sset (sset (sset c3 38 4 (c3 38 5)) (D + 15) ck (nm T n (sk T n (a + 1)))) 38 1 14 q = c2 q := fun q v1 v2 => by rw [sset_row _ _ _ v1, sset_row _ _ _ v2, x4.1 q v1]
      have v15 : sset (sset (sset c3 38 4 (c3 38 5)) (D + 15) ck (nm T n (sk T n (a + 1)))) 38 1 14 (D + 15) = va_up (c (D + 15)) ck (nm T n (sk T n (a + 1))) := by rw [sset_row _ _ _ (by omega), sset_same, x4.1 (D + 15) (by omega), jr (D + 15) (by omega) (by omega) (by omega), cAdd_row hD (by omega) (by omega) (by omega) (by omega)]
      generalize sset (sset (sset c3 38 4 (c3 38 5)) (D + 15) ck (nm T n (sk T n (a + 1)))) 38 1 14 = c5 at v38 v4 v1 vr v15
      refine KT_ok (by rw [v38 3 (by decide) (by decide)]; exact h33) v4 (by omega) ?_
      have cx5 : CX c5 (sset c5 38 3 ((sk T n (a + 1) + dg T n (sk T n (a + 1)) : Nat) : Int)) := CX_set (by decide) (by decide)
      have hT5 : CT T n c5 := CT_row hT2 (vr 1 (by decide) (by omega))
      have hF5 : FC D c0 c5 := fun q u1 u2 => by rw [vr q (by omega) (by omega)]; exact hF2 q u1 u2
      have z2 : c5 38 2 = (dp : Int) := by rw [v38 2 (by decide) (by decide), x3.2.2, j38 2 (by decide)]; exact h2
      have z0' : c5 38 0 = (D : Int) := by rw [v38 0 (by decide) (by decide)]; exact w0
      -- the pending relation, at any later place
      have pend : ∀ (z m : St) (am : Nat) (φ : Nat → Nat) (e : Nat → Int) (N S B nd' ck' ts tm dp' : Nat) (p u : Nat), LH T n z D c a m am φ e N S B nd' ck' ts tm dp' → a < p → p ≤ n → 2 * tm + u ≤ p → ck' = ck ∧ dp' = dp ∧ LQ T n z D c5 p (sset (sset (mCh (sset (sset m 0 36 (a : Int)) 0 36 ((a + 1 : Nat) : Int))) 5 N (nm T n (sk T n (a + 1)))) 0 36 (p : Int)) p (pu φ N S) e (N + 1) (S + 1) B nd' (ck + 1) ts tm dp 4 u ∧ sset (sset (mCh (sset (sset m 0 36 (a : Int)) 0 36 ((a + 1 : Nat) : Int))) 5 N (nm T n (sk T n (a + 1)))) 0 36 (p : Int) 11 N = (tm : Int) ∧ sset (sset (mCh (sset (sset m 0 36 (a : Int)) 0 36 ((a + 1 : Nat) : Int))) 5 N (nm T n (sk T n (a + 1)))) 0 36 (p : Int) 4 N = (ck : Int) := by
        intro z m am φ e N S B nd' ck' ts tm dp' p u hL hap hpn hu
        have hdd : dp' = dp := by have := hL.2.2.2.2.2.2.1; omega
        have hcc : ck' = ck := by have := hL.2.2.2.2.2.1.2.2.2.2.2.2.2.2.2.2.1; omega
        have hnn : nd' = nd := by have := hL.2.2.2.2.2.1.2.2.2.2.2.2.2.2.2.1; omega
        subst hdd
        subst hcc
        subst hnn
        refine ⟨rfl, rfl, ?_⟩
        have hL1 := LH_at hs (Nat.le_of_lt ha) hL
        obtain ⟨b, b1, b2, b3⟩ := LH_cur hL1
        obtain ⟨n1, n2, n3, n4, n5, n6, n7, n8⟩ := LH_n hL1
        obtain ⟨-, hown⟩ := LH_CB hD (Nat.le_of_lt ha) hL1
        obtain ⟨y1, y2, y3, y4, y5, y6, y7, y8, y9, y10, y11, y12, y13, y14, y15, y16⟩ := id hL1.2.2.2.2.2.1
        obtain ⟨-, -, cn⟩ := SY_cur hL1.2.2.2.2.2.2.2.1 b1 hL1.2.2.2.2.2.2.2.2.1
        have hC := AC_add (w := 7) (x := (ck' : Int)) (y := 0) hD y8 h2 hL1.2.2.2.2.2.2.2.1 y10 n3 y9 hown
        have hC' : AC c c5 D S nd' dp' tm tm 7 ck' 0 := AC_eq hC hD (fun q q1 q2 q3 q4 => by rw [vr q q1 q3, jr q q1 q2 q4]) (by rw [vr D (by omega) (by omega), jD 13 (by decide)])
        have hAM : AM (sset m 0 36 (a : Int)) (sset (sset (mCh (sset (sset m 0 36 (a : Int)) 0 36 ((a + 1 : Nat) : Int))) 5 N (nm T n (sk T n (a + 1)))) 0 36 (p : Int)) N b tm tm 4 ck' (nm T n (sk T n (a + 1))) (-1) := AM_rq (AM_ch (m := sset (sset m 0 36 (a : Int)) 0 36 ((a + 1 : Nat) : Int)) (by rw [at_x (by decide)]; exact y1) (by rw [at_x (by decide), sset_row _ _ _ (by decide)]; exact b3) (by rw [at_x (by decide)]; exact y2) (by rw [at_x (by decide)]; exact y5)) RQ_0 RQ_0
        have gj : ∀ j, j ≠ 15 → j ≠ 32 → j ≠ 36 → sset (sset (mCh (sset (sset m 0 36 (a : Int)) 0 36 ((a + 1 : Nat) : Int))) 5 N (nm T n (sk T n (a + 1)))) 0 36 (p : Int) 0 j = sset m 0 36 (a : Int) 0 j := fun j w1 w2 w3 => by rw [sset_place _ _ _ w3, sset_row _ _ _ (by decide), mCh_fld w1 w2, at_x w3]
        have g15 : sset (sset (mCh (sset (sset m 0 36 (a : Int)) 0 36 ((a + 1 : Nat) : Int))) 5 N (nm T n (sk T n (a + 1)))) 0 36 (p : Int) 0 15 = sset m 0 36 (a : Int) 0 15 + 1 := by
          rw [sset_place _ _ _ (by decide), sset_row _ _ _ (by decide)]
          unfold mCh
          rw [sset_place _ _ _ (by decide), sset_row _ _ _ (by decide), mSt_15, at_x (by decide)]
        have g32 : sset (sset (mCh (sset (sset m 0 36 (a : Int)) 0 36 ((a + 1 : Nat) : Int))) 5 N (nm T n (sk T n (a + 1)))) 0 36 (p : Int) 0 32 = sset m 0 36 (a : Int) 0 32 + 1 := by
          rw [sset_place _ _ _ (by decide), sset_row _ _ _ (by decide)]
          unfold mCh
          rw [sset_self, at_x (by decide)]
        have hnm := nm_le (T := T) hd1 hd3
        obtain ⟨hQL, m11⟩ := LQ_add (kk := 4) (x := (ck' : Int)) (y := nm T n (sk T n (a + 1))) (w' := 7) (x' := (ck' : Int)) (y' := 0) (a' := p) (u := u) (ts' := ts) (ck' := ck' + 1) (Or.inr rfl) b1 hAM hC' (Or.inr (Or.inr (Or.inr (Or.inr (Or.inl ⟨rfl, rfl, rfl, hnm.2, hnm.1⟩))))) (fun g' => absurd g' (by decide)) (fun _ => ⟨rfl, rfl, rfl, v15, by rw [vr (D + 16) (by omega) (by omega), j16, show (nd' : Int) - 1 = sset m 0 36 (a : Int) 19 b by omega]⟩) (fun g' => absurd rfl g') (by rw [vr 43 (by decide) (by omega), jr 43 (by decide) (by omega) (by omega)]; exact cAdd_row hD (by omega) (by omega) (by omega) (by omega)) (PS_at (PS_cell (PS_ch (PS_at hL1.1 _) (by rw [at_x (by decide), y5]; omega)) _ _ _ (by decide) (by decide)) _) (sset_self _ _ _ _) (by rw [gj 37 (by decide) (by decide) (by decide)]; exact hL1.2.2.1) (by
          unfold YY
          rw [gj 19 (by decide) (by decide) (by decide), gj 25 (by decide) (by decide) (by decide), gj 30 (by decide) (by decide) (by decide), gj 33 (by decide) (by decide) (by decide), gj 39 (by decide) (by decide) (by decide), g15, g32, vr D (by omega) (by omega), vr (D + 9) (by omega) (by omega), jD 0 (by decide), f0, jr (D + 9) (by omega) (by omega) (by omega), f9, jD 10 (by decide), fj 10 (by decide), jD 18 (by decide), fj 18 (by decide), j14, z0']
          exact ⟨by omega, y2, y3, y4, by omega, y6, y7, by omega, y9, y10, rfl, y12, rfl, by omega, y15, y16⟩) z2 hap hpn hu hL1
        exact ⟨hQL, m11, up_at hAM.2.1⟩
      have htm : ∀ {z m : St} {am : Nat} {φ : Nat → Nat} {e : Nat → Int} {N S B nd ck ts tm dp : Nat}, LH T n z D c a m am φ e N S B nd ck ts tm dp → 2 * tm + 2 ≤ a := fun hL => hL.2.2.2.2.2.2.2.2.2.2.2.2
      have bad2 : ∀ c', (ch T n (sk T n (sk T n (a + 1) + dg T n (sk T n (a + 1)))) ≠ 63 ∧ ch T n (sk T n (sk T n (a + 1) + dg T n (sk T n (a + 1)))) ≠ 93) → PR R T n c' ((sk T n (sk T n (a + 1) + dg T n (sk T n (a + 1))) : Nat) : Int) := fun c' hb => PR_stmt (by have := hT.1; have := sk_le (T := T) (n := n) (i := sk T n (a + 1) + dg T n (sk T n (a + 1))) (by omega); omega) hI hs ha (by omega) (Or.inl (by omega)) (fun z m φ e N S B nd ck' ts tm dp' hL hB Km hd => by
        have y5 := hL.2.2.2.2.2.1.2.2.2.2.1
        have y1 := hL.2.2.2.2.2.1.1
        have y11 := hL.2.2.2.2.2.1.2.2.2.2.2.2.2.2.2.2.1
        have ht := htm hL
        obtain ⟨d1, d2, hQ5, -, -⟩ := pend z m a φ e N S B nd ck' ts tm dp' (sk T n (sk T n (a + 1) + dg T n (sk T n (a + 1)))) 2 hL (by omega) hler (by omega)
        obtain ⟨q0, q9, q2', qd1, qd6, -, -, -, -, qN, -, -⟩ := LQ_cl (Or.inr rfl) hQ5
        have em : sset m 0 36 (a : Int) = m := sset_id _ _ _ hL.2.1
        rw [em] at hQ5
        have y7 := hQ5.2.2.2.2.2.1.2.2.2.2.2.2.1
        have hS := hQ5.2.2.2.2.2.2.2.2.2.2.2.2.2.1
        refine r_choice hL.1 hB ha hL.2.1 hL.2.2.1 h1 (by omega) (by omega) (fun g' => by omega) (fun _ g' => by omega) (fun _ _ _ _ => ?_) (fun _ _ _ g' => absurd g' hb.1)
        rw [y1, Int.toNat_natCast]
        exact r_j108 hQ5.1 (by rw [y7]; exact ⟨by omega, by omega⟩) hler hQ5.2.1 hQ5.2.2.1 (by omega) (by omega) (fun g' => by rw [hssr] at g'; exact absurd g' hb.2) (fun _ => by rw [hssr]; exact hd))
      refine c_next (CT_cx cx5 hT5) hdl (sset_self _ _ _ _) (fun hen c6 hc6 h63 => ?_) (fun hlt2 c6 hc6 h63 h64 _ _ K2 hK2 => ?_)
      · have x6 := CX_tr cx5 (CX_ce hc6)
        have w6 : c6 38 1 = 14 := by rw [hc6.2 1 (by omega), sset_place _ _ _ (by decide)]; exact v1
        refine j100_no (by rw [x6.2.2, z2]; exact ⟨by omega, by omega⟩) (by rw [w6]; exact ⟨by decide, by decide⟩) (by rw [w6]; decide) (HQ _ _ (FC_cx x6 hF5) ?_)
        have := bad2 c6 (by rw [hen, ch_ge (by omega)]; omega)
        rw [hen] at this; exact this
      · have x6 := CX_tr cx5 (CX_ce hc6)
        have w6 : c6 38 1 = 14 := by rw [hc6.2 1 (by omega), sset_place _ _ _ (by decide)]; exact v1
        have hr2 := hT.2.1 (sk T n (sk T n (a + 1) + dg T n (sk T n (a + 1))))
        have hch2 := ch_lt (T := T) hlt2
        refine g_14 w6 ⟨⟨by omega, by omega⟩, fun g63 => ⟨⟨by omega, by omega⟩, fun g93 => hK2 _ _ (KT_no h63 (HQ _ _ (FC_cx x6 hF5) (bad2 c6 (by omega)))), fun g93 => ?_⟩, fun g63 => ?_⟩
        · -- no condition
          refine t_await ⟨⟨by decide, by decide⟩, fun g' => absurd g' (by decide), fun _ => hK2 _ _ ?_⟩
          refine KT_ok (w := 1) (by rw [sset_place _ _ _ (by decide)]; exact h63) (by rw [sset_place _ _ _ (by decide)]; exact h64) (by decide) ?_
          have x7 : CX c5 (sset (sset c6 38 1 15) 38 3 ((sk T n (sk T n (a + 1) + dg T n (sk T n (a + 1))) + 1 : Nat) : Int)) := CX_tr x6 (CX_tr (CX_set (by decide) (by decide)) (CX_set (by decide) (by decide)))
          refine C_block hD (CT_cx x7 hT5) (FC_cx x7 hF5) (by rw [sset_place _ _ _ (by decide), sset_self]) (sset_self _ _ _ _) (by omega) (BINV_cx hD x7 ?_) HQ (fun c' a' u1 u2 => IH c' a' (by omega) u2)
          intro bb z hsr
          obtain ⟨m, am, ⟨φ, e, N, S, B, nd', ck', ts, tm, dp', hL⟩, hR⟩ := hI bb z hsr
          have ht := htm hL
          obtain ⟨d1, d2, hQ5, m11, m4⟩ := pend z m am φ e N S B nd' ck' ts tm dp' (sk T n (sk T n (a + 1) + dg T n (sk T n (a + 1))) + 1) 2 hL (by omega) (by omega) (by omega)
          obtain ⟨-, -, hQ6, -, m46⟩ := pend z m am φ e N S B nd' ck' ts tm dp' (sk T n (sk T n (a + 1) + dg T n (sk T n (a + 1)))) 2 hL (by omega) hler (by omega)
          obtain ⟨q0, q9, q2', qd1, qd6, -, -, -, -, qN, -, -⟩ := LQ_cl (Or.inr rfl) hQ6
          have y7 := hQ6.2.2.2.2.2.1.2.2.2.2.2.2.1
          have hS := hQ6.2.2.2.2.2.2.2.2.2.2.2.2.2.1
          have hL1 := LH_at hs (Nat.le_of_lt ha) hL
          have y5 := hL1.2.2.2.2.2.1.2.2.2.2.1
          have y1 := hL1.2.2.2.2.2.1.1
          refine ⟨_, _, _, _, _, _, _, _, _, _, _, _, hQ5, by rw [show N + 1 - 1 = N by omega]; exact m11, fun Qm hq => hR Qm (fun fu hf => ?_)⟩
          obtain ⟨fu0, rfl⟩ : ∃ k, fu = k + 2 := ⟨fu - 2, by have := hL.2.2.2.1; omega⟩
          refine m_stmt hs ha hL (by omega) (Or.inl (by omega)) (r_choice hL1.1 (LH_MB (Nat.le_of_lt ha) hL1) ha hL1.2.1 hL1.2.2.1 h1 (by omega) (by omega) (fun g' => by omega) (fun _ g' => by omega) (fun _ _ _ _ => ?_) (fun _ _ _ g' => by omega))
          rw [y1, Int.toNat_natCast]
          refine r_j108 hQ6.1 (by rw [y7]; exact ⟨by omega, by omega⟩) hler hQ6.2.1 hQ6.2.2.1 (by omega) (by omega) (fun _ => ?_) (fun g' => by rw [hssr] at g'; omega)
          have := hq (fu0 + 1) (by have := hle hL; omega)
          rw [show N + 1 - 1 = N by omega, m4] at this
          rw [hssr, Int.toNat_natCast, m46, sset_twice]
          exact this
        · -- a condition
          refine t_await ⟨Or.inr rfl, hK2 _ _ ?_⟩
          refine KT_ok (w := 1) (by rw [sset_place _ _ _ (by decide)]; exact h63) (by rw [sset_place _ _ _ (by decide)]; exact h64) (by decide) ?_
          have x7 : CX c5 (sset (sset c6 38 1 8) 38 3 ((sk T n (sk T n (a + 1) + dg T n (sk T n (a + 1))) + 1 : Nat) : Int)) := CX_tr x6 (CX_tr (CX_set (by decide) (by decide)) (CX_set (by decide) (by decide)))
          refine C_cond hD (Or.inr rfl) a HQ IH _ _ _ (Nat.le_refl _) (by omega) (by omega) (CT_cx x7 hT5) (FC_cx x7 hF5) (by rw [sset_place _ _ _ (by decide), sset_self]) (sset_self _ _ _ _) (CINV_cx hD x7 ?_)
          intro bb z hsr
          obtain ⟨m, am, ⟨φ, e, N, S, B, nd', ck', ts, tm, dp', hL⟩, hR⟩ := hI bb z hsr
          have ht := htm hL
          obtain ⟨d1, d2, hQ5, m11, m4⟩ := pend z m am φ e N S B nd' ck' ts tm dp' (sk T n (sk T n (a + 1) + dg T n (sk T n (a + 1))) + 1) 3 hL (by omega) (by omega) (by omega)
          have hL1 := LH_at hs (Nat.le_of_lt ha) hL
          have y5 := hL1.2.2.2.2.2.1.2.2.2.2.1
          have y1 := hL1.2.2.2.2.2.1.1
          refine ⟨_, _, _, _, _, _, _, _, _, _, _, _, hQ5, fun Qm hq => hR Qm (fun fu hf => ?_)⟩
          obtain ⟨fu0, rfl⟩ : ∃ k, fu = k + 2 := ⟨fu - 2, by have := hL.2.2.2.1; omega⟩
          refine m_stmt hs ha hL (by omega) (Or.inl (by omega)) (r_choice hL1.1 (LH_MB (Nat.le_of_lt ha) hL1) ha hL1.2.1 hL1.2.2.1 h1 (by omega) (by omega) (fun g' => by omega) (fun _ g' => by omega) (fun _ _ _ g' => by omega) (fun _ _ _ _ => ?_))
          rw [y1, Int.toNat_natCast]
          have := hq (fu0 + 1) FU (by have := hle hL; omega) (by show 500 ≤ 100000 + _; omega)
          rw [show N + 1 - 1 = N by omega] at this
          unfold cKK at this
          rw [if_neg (by decide)] at this
          exact this
  · refine PR_stmt (by have := hT.1; omega) hI hs ha (by omega) (Or.inl (by omega)) (fun z m φ e N S B nd ck' ts tm dp hL hB Km hd => ?_)
    have y5 := hL.2.2.2.2.2.1.2.2.2.2.1
    have y11 := hL.2.2.2.2.2.1.2.2.2.2.2.2.2.2.2.2.1
    exact r_choice hL.1 hB ha hL.2.1 hL.2.2.1 h1 (by omega) (by omega) (fun _ => hd) (fun g' => by omega) (fun g' => by omega) (fun g' => by omega)
end HCHOICE
