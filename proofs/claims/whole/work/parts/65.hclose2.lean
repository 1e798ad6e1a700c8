/-! ===== pure layer: the end of a block, read by both (2) ===== -/
section HCLOSE2
variable {T : Nat → Int} {n D a a' am : Nat} {z c c' m m' : St} {φ : Nat → Nat} {e : Nat → Int} {N S B nd ck ts tm dp b : Nat} {R : St → St → Prop} {Q : St → Int → Prop} {w x y f w' x' y' : Int}
theorem LH_open {s p : Nat} {v k o : Int} (hD : D = 2 ∨ D = 20) (hP : PS T n z m) (h37 : m 0 37 = 1) (hp : p ≤ n) (hYY : YY c m D N S B nd ck ts tm dp) (h2 : c 38 2 = (dp : Int)) (hd : 0 < dp) (hd6 : dp < 6) (hcur : m 25 (dp - 1) = (b : Int)) (hs : m 18 b = s) (hv : v = 0 ∨ v = 1) (hk : OKd m s v k o) (h9s : v = 0 → m 9 s = -1) (hop : ∀ t, t < N → t ≠ s → m 3 t = 3 ∨ m 3 t = 4 → m 8 t ≠ -1) (hYR : YR m dp) (hB : B + 1 + oc m dp + (if v = 0 ∧ k = 2 then 1 else 0) ≤ nd + ck + 2 * ts) (hS : S + 2 ≤ p) (htm : 2 * tm + 2 ≤ p)
    (h : SY c m D φ e N S B nd ck ts tm dp) : LH T n z D (cOp c dp v) p (mBk (sset (sset m 0 36 (p : Int)) (if v = 0 then 8 else 9) s (m 0 25)) k o (m 19 b)) p φ (eu e B (-1)) N S (B + 1) nd ck ts tm (dp + 1) := by
  obtain ⟨hb, he, hbn⟩ := SY_cur hd hcur h
  obtain ⟨y1, y2, y3, y4, y5, y6, y7, y8, y9, y10, y11, y12, y13, y14, y15, y16⟩ := id hYY
  have hA : OM m (mBk (sset (sset m 0 36 (p : Int)) (if v = 0 then 8 else 9) s (m 0 25)) k o (m 19 b)) s B b dp v k o := OM_bk hv y3 y7
  have hC : OC c (cOp c dp v) D dp v := OC_op hD
  obtain ⟨o1, o2, oj⟩ := cOp_38 (c := c) (dp := dp) (v := v)
  have hsN : s < N := by
    rcases SY_bf h.2.2.2.1 hb with g | g <;> omega
  have hYD := h.2.2.2.2.1
  have hYE := h.2.2.2.2.2.1
  have hYS := h.2.2.2.2.2.2.2.1
  have fj : ∀ j, j ≠ 25 → j ≠ 39 → j ≠ 36 → mBk (sset (sset m 0 36 (p : Int)) (if v = 0 then 8 else 9) s (m 0 25)) k o (m 19 b) 0 j = m 0 j := by
    intro j j1 j2 j3
    rw [mBk_fld j1 j2]
    rcases hv with g | g
    · rw [if_pos g, sset_row _ _ _ (by decide), at_x j3]
    · rw [if_neg (by omega), sset_row _ _ _ (by decide), at_x j3]
  have f25 : mBk (sset (sset m 0 36 (p : Int)) (if v = 0 then 8 else 9) s (m 0 25)) k o (m 19 b) 0 25 = m 0 25 + 1 := by
    rw [mBk_25]
    rcases hv with g | g
    · rw [if_pos g, sset_row _ _ _ (by decide), at_x (by decide)]
    · rw [if_neg (by omega), sset_row _ _ _ (by decide), at_x (by decide)]
  have f39 : mBk (sset (sset m 0 36 (p : Int)) (if v = 0 then 8 else 9) s (m 0 25)) k o (m 19 b) 0 39 = m 0 39 + 1 := by
    rw [mBk_39]
    rcases hv with g | g
    · rw [if_pos g, sset_row _ _ _ (by decide), at_x (by decide)]
    · rw [if_neg (by omega), sset_row _ _ _ (by decide), at_x (by decide)]
  have f36 : mBk (sset (sset m 0 36 (p : Int)) (if v = 0 then 8 else 9) s (m 0 25)) k o (m 19 b) 0 36 = (p : Int) := by
    rw [mBk_fld (by decide) (by decide)]
    rcases hv with g | g
    · rw [if_pos g, sset_row _ _ _ (by decide), sset_self]
    · rw [if_neg (by omega), sset_row _ _ _ (by decide), sset_self]
  refine ⟨PS_bk ?_, f36, by rw [fj 37 (by decide) (by decide) (by decide)]; exact h37, hp, rfl, ?_, by rw [o2]; omega, by omega, SY_open hA hC hd hd6 hcur hs hk h, ⟨?_, YR_open hA hsN hk h9s hYD hYE hYS (SY_ns hd hcur hs h.2.2.2.1 hYS hb) hYR⟩, ?_, hS, htm⟩
  · rcases hv with g | g
    · rw [if_pos g]; exact PS_cell (PS_at hP _) _ _ _ (by decide) (by decide)
    · rw [if_neg (by omega)]; exact PS_cell (PS_at hP _) _ _ _ (by decide) (by decide)
  · unfold YY
    rw [fj 15 (by decide) (by decide) (by decide), fj 19 (by decide) (by decide) (by decide), f25, fj 30 (by decide) (by decide) (by decide), fj 32 (by decide) (by decide) (by decide), fj 33 (by decide) (by decide) (by decide), f39, cOp_row (q := D) (by omega), cOp_row (q := D + 9) (by omega), oj 0 (by decide) (by decide)]
    exact ⟨y1, y2, by omega, y4, y5, y6, by omega, y8, y9, y10, y11, y12, y13, y14, y15, y16⟩
  · obtain ⟨e8, e8s, -⟩ := OM_89 hA
    have r3 := hA.2.2.2.2.2.2.2.2 3 (by omega)
    intro t ht h3
    rw [r3] at h3
    by_cases g : t = s
    · rw [g]
      rcases ok_8 hk with ⟨u1, u2⟩ | ⟨u1, u2, u3⟩
      · rw [e8s u1]; omega
      · rw [e8 s (Or.inr u1)]; exact u2
    · rw [e8 t (Or.inl g)]; exact hop t ht g h3
  · rw [oc_open hA hsN hk hYD hYE hYS]; omega
/-- the owner of the innermost block, in both -/
theorem LH_own (hL : LH T n z D c a m am φ e N S B nd ck ts tm dp) (hcur : m 25 (dp - 1) = (b : Int)) (hd : 2 ≤ dp) : 0 ≤ c 40 (dp - 1) ∧ c 40 (dp - 1) < S ∧ ((c (D + 1) (c 40 (dp - 1)).toNat = 7 ∧ m 15 b = 1 ∧ c (D + 2) (c 40 (dp - 1)).toNat = m 16 b) ∨ (c (D + 1) (c 40 (dp - 1)).toNat = 6 ∧ m 15 b = 2 ∧ (c 41 dp ≠ 0 ↔ m 8 (m 16 b).toNat ≠ b) ∧ 0 ≤ m 16 b ∧ m 16 b < N ∧ m 18 (m 25 (dp - 2)).toNat = m 16 b ∧ m 3 (m 16 b).toNat = 3)) := by
  obtain ⟨h1, e6, e7, h4, h5, h6, h7, h8, h9, h10, h11, h12, h13⟩ := hL
  obtain ⟨hb, he, hbn⟩ := SY_cur h8 hcur h9
  obtain ⟨hP, hYA, hYB, hYC, hYD, hYE, hYF, hYS, hYN, hYV, hYO, hYL, hYK, hYG, hYT, hYM, hYH, hYQ, hYX, hYU, hYZ⟩ := h9
  have hO := SY_own h8 hcur hb hYD hYF hYS hYL hYK
  have hr := OWN_r hP hO hd
  refine ⟨hr.1, hr.2, ?_⟩
  rcases hO with ⟨o1, -⟩ | ⟨o1, o, o2, o3, o4, o5⟩
  · omega
  · rw [o3, Int.toNat_natCast]
    rcases o4 with ⟨v1, v2, v3, v4, v5⟩ | ⟨v1, v2, v3, v4, v5, v6⟩
    · right
      have s4 := hYS.2.2.2.2.1 (dp - 2) (by omega)
      rw [show dp - 2 + 1 = dp - 1 by omega, hcur, Int.toNat_natCast] at s4
      refine ⟨v5, v1, ?_, by omega, by omega, by omega, by rw [v2, Int.toNat_natCast]; exact v3⟩
      rw [v2, Int.toNat_natCast, o5]
      exact ⟨fun u => u.2, fun u => ⟨v1, u⟩⟩
    · left
      refine ⟨v6, v1, ?_⟩
      have := hYK o o2
      rcases this with ⟨u, -⟩ | ⟨u, -⟩ | ⟨u, -⟩ | ⟨u, -⟩ | ⟨u1, u2, u3, -⟩ | ⟨u, -⟩ | ⟨u, -⟩ | ⟨u, -⟩
      · omega
      · omega
      · omega
      · omega
      · rw [u3, v4]
      · omega
      · omega
      · omega
theorem H_close {c0 : St} {K : St → Int → Prop} (h : HC R T n D c0 Q c a (fun τ r => (r = 0 ∨ r = 1) ∧ K τ r)) (h1 : T a = 125) : f_X6_takesInBlock (T a) c (fun τ r => (r = 0 ∨ r = 1) ∧ K τ r) := by
  obtain ⟨hD, hT, hF, hI, hs, ha, h3, h4, h5, h6, HQ, IH, hK1, hK0⟩ := h
  have hn := hT.1
  obtain ⟨m0, am0, φ0, e0, N0, S0, B0, nd0, ck0, ts0, tm0, dp, hL0⟩ := INV_some hT hI
  obtain ⟨b0, b01, b02, b03⟩ := LH_cur hL0
  have hdp6 := (LH_n hL0).2.2.2.2.1
  have hd0 := hL0.2.2.2.2.2.2.2.1
  have h2 : c 38 2 = (dp : Int) := hL0.2.2.2.2.2.2.1
  have hCB := INV_CB hD hT (Nat.le_of_lt ha) hI
  rw [h1]
  refine ib_125 ?_
  unfold f_X6_closesBlock
  rw [h2, hCB.1, Int.toNat_natCast, show ((dp : Int) - 1).toNat = dp - 1 by omega]
  refine ⟨⟨by omega, by omega⟩, fun g => ⟨Or.inl rfl, hK0 c (KT_no h3 (HQ c _ hF ?_))⟩, fun g => ⟨⟨by omega, by omega⟩, fun _ => ⟨by omega, by omega, ?_⟩, fun g2 => by omega⟩⟩
  · -- no block is open
    refine PR_fault (by have := hT.1; omega) hI (fun z m am hL Qm fu hf hd => ?_)
    obtain ⟨φ, e, N, S, B, nd, ck, ts, tm, dp', hL⟩ := hL
    have hL1 := LH_at hs (Nat.le_of_lt ha) hL
    have y7 := hL1.2.2.2.2.2.1.2.2.2.2.2.2.1
    have hdd : dp' = dp := by have := hL.2.2.2.2.2.2.1; omega
    obtain ⟨fu0, rfl⟩ : ∃ k, fu = k + 2 := ⟨fu - 2, by have := hL.2.2.2.1; have := hL.1.1.1; omega⟩
    refine m_close hs ha hL h1 (r_closes hL1.1 ha hL1.2.1 hL1.2.2.1 (by rw [y7]; omega) (by rw [y7]; omega) (LH_closes hL1 (Nat.le_of_lt ha)) (fun _ => DE_KA hd) (fun q => ?_) (fun q => ?_) (fun q => ?_))
    · rw [y7] at q; omega
    · rw [y7] at q; omega
    · rw [y7] at q; omega
  have hd2 : 2 ≤ dp := by omega
  obtain ⟨w1, w2, w3⟩ := LH_own hL0 b01 hd2
  have y8 := hL0.2.2.2.2.2.1.2.2.2.2.2.2.2.1
  rintro x1 rfl
  have hso : inR (c (D + 1) (c 40 (dp - 1)).toNat) := by rcases w3 with ⟨u, -⟩ | ⟨u, -⟩ <;> rw [u] <;> exact ⟨by decide, by decide⟩
  have hS4 := hCB.2.2.1
  refine ⟨hD, t_sort hD ⟨by omega, by omega⟩ (by rw [y8]; exact ⟨by omega, by omega⟩) ⟨by decide, by decide⟩ (fun _ _ => hso) (fun q1 q2 q3 q4 => ?_) (fun q => ?_)⟩
  · -- the block of a choice
    refine ⟨⟨by decide, by decide⟩, fun g => absurd g (by decide), fun _ => ?_⟩
    rw [hCB.1, Int.toNat_natCast]
    refine ⟨hD, q1, q3, t_add hD hCB ?_⟩
    intro σ4 e4
    obtain ⟨k1, k38⟩ := cAdd_38 (c := c) (w := 12) (x := c (D + 2) (c 40 (dp - 1)).toNat) (y := 0) hD
    rw [k38 2 (by decide), h2] at e4
    refine t_await ⟨Or.inr rfl, Or.inr rfl, hK1 _ ?_⟩
    have ecl : sset σ4 38 1 3 = sset (sset (cAdd c D 12 (c (D + 2) (c 40 (dp - 1)).toNat) 0) 38 2 ((dp : Int) - 1)) 38 1 3 := by rw [e4]
    have j38 : ∀ j, j ≠ 1 → j ≠ 2 → sset σ4 38 1 3 38 j = c 38 j := fun j j1 j2 => by rw [sset_place _ _ _ j1, e4, sset_place _ _ _ j2]; exact k38 j j1
    refine KT_ok (w := 1) (by rw [j38 3 (by decide) (by decide)]; exact h3) (by rw [j38 4 (by decide) (by decide)]; exact h4) (by decide) ?_
    have cx : CX (sset σ4 38 1 3) (sset (sset σ4 38 1 3) 38 3 ((a + 1 : Nat) : Int)) := CX_set (by decide) (by decide)
    have rr : ∀ q, q ≠ 38 → sset σ4 38 1 3 q = cAdd c D 12 (c (D + 2) (c 40 (dp - 1)).toNat) 0 q := fun q hq => by rw [sset_row _ _ _ hq, e4, sset_row _ _ _ hq]
    refine IH _ _ (by omega) (by omega) (CT_cx cx (CT_row (CT_add hD hT) (rr 1 (by decide)))) (FC_cx cx (fun q u1 u2 => by rw [rr q (by omega)]; exact FC_add hD hF q u1 u2)) (sset_self _ _ _ _) (Or.inl (by rw [sset_place _ _ _ (by decide), sset_self])) (INV_cx hD cx ?_)
    rw [ecl]
    refine INV_step hI (fun z m am hL => ?_)
    obtain ⟨φ, e, N, S, B, nd, ck, ts, tm, dp', hL⟩ := hL
    have hdd : dp' = dp := by have := hL.2.2.2.2.2.2.1; omega
    subst hdd
    have hL1 := LH_at hs (Nat.le_of_lt ha) hL
    obtain ⟨b, b1, b2, b3⟩ := LH_cur hL1
    obtain ⟨v1, v2, v3⟩ := LH_own hL1 b1 hd2
    rcases v3 with ⟨v4, v5, v6⟩ | ⟨v4, -⟩
    · refine ⟨_, a + 1, ⟨_, _, _, _, _, _, _, _, _, _, LH_mark (p := a + 1) hD hd2 b1 v5 (by omega) (by omega) v6 hL1⟩, fun Qm fu hf hq => ?_⟩
      have y7 := hL1.2.2.2.2.2.1.2.2.2.2.2.2.1
      obtain ⟨fu0, rfl⟩ : ∃ k, fu = k + 2 := ⟨fu - 2, by have := hL.2.2.2.1; have := hL.1.1.1; omega⟩
      refine m_close hs ha hL h1 (r_closes hL1.1 ha hL1.2.1 hL1.2.2.1 (by rw [y7]; omega) (by rw [y7]; omega) (LH_closes hL1 (Nat.le_of_lt ha)) (fun g => by rw [y7] at g; omega) (fun _ _ => ?_) (fun _ g => ?_) (fun _ g => ?_))
      · rw [y7]
        refine KA_ok (by rw [sset_place _ _ _ (by decide), at_37]; exact hL1.2.2.1) (hq _ ?_)
        have u1 := hL.2.2.2.1
        have u2 := hL.2.2.2.2.1
        have u3 := sk_ge (T := T) u1
        rw [hs] at u2
        omega
      · rw [b3, Int.toNat_natCast] at g; omega
      · rw [b3, Int.toNat_natCast] at g; omega
    · rw [v4] at q4; omega
  · -- the block of a test
    refine ⟨⟨by decide, by decide⟩, fun _ => ?_, fun g => absurd rfl g⟩
    rw [h2, Int.toNat_natCast]
    have w4 : c (D + 1) (c 40 (dp - 1)).toNat = 6 := by
      rcases w3 with ⟨u, -⟩ | ⟨u, -⟩
      · omega
      · exact u
    have i41 : c 41 dp = 0 ∨ c 41 dp = 1 := by
      have i41 := hL0.2.2.2.2.2.2.2.2.1.2.2.2.2.2.2.2.2.2.2.2.1.2.1 (dp - 2) (by omega)
      rw [show dp - 2 + 2 = dp by omega] at i41; exact i41
    -- the reference's side
    have ref : ∀ z m am, LHx T n z D c a m am → ∃ (φ : Nat → Nat) (e : Nat → Int) (N S B nd ck ts tm b : Nat), LH T n z D c a m am φ e N S B nd ck ts tm dp ∧ LH T n z D c a (sset m 0 36 (a : Int)) a φ e N S B nd ck ts tm dp ∧ m 25 (dp - 1) = (b : Int) ∧ b < B ∧ m 15 b = 2 ∧ (c 41 dp ≠ 0 ↔ m 8 (m 16 b).toNat ≠ b) ∧ 0 ≤ m 16 b ∧ m 16 b < N ∧ m 18 (m 25 (dp - 2)).toNat = m 16 b ∧ m 3 (m 16 b).toNat = 3 := by
      intro z m am hL
      obtain ⟨φ, e, N, S, B, nd, ck, ts, tm, dp', hL⟩ := hL
      have hdd : dp' = dp := by have := hL.2.2.2.2.2.2.1; omega
      subst hdd
      have hL1 := LH_at hs (Nat.le_of_lt ha) hL
      obtain ⟨b, b1, b2, b3⟩ := LH_cur hL
      obtain ⟨v1, v2, v3⟩ := LH_own hL b1 hd2
      rcases v3 with ⟨v4, -⟩ | ⟨v4, v5⟩
      · omega
      · exact ⟨φ, e, N, S, B, nd, ck, ts, tm, b, hL, hL1, b1, b2, v5⟩
    have fuel : ∀ {z m : St} {am : Nat} {φ : Nat → Nat} {e : Nat → Int} {N S B nd ck ts tm : Nat}, LH T n z D c a m am φ e N S B nd ck ts tm dp → am ≤ a := by
      intro z m am φ e N S B nd ck ts tm hL
      have u1 := hL.2.2.2.1
      have u2 := hL.2.2.2.2.1
      have u3 := sk_ge (T := T) u1
      rw [hs] at u2
      omega
    have st2 : ∀ k : Int, CX c (sset (sset (sset c 38 2 ((dp : Int) - 1)) 38 1 k) 38 2 (dp : Int)) := fun k => ⟨fun q hq => by rw [sset_row _ _ _ hq, sset_row _ _ _ hq, sset_row _ _ _ hq], by rw [sset_place _ _ _ (by decide), sset_place _ _ _ (by decide), sset_place _ _ _ (by decide)], by rw [sset_self, h2]⟩
    have cj : ∀ (k : Int) j, j ≠ 1 → j ≠ 2 → sset (sset c 38 2 ((dp : Int) - 1)) 38 1 k 38 j = c 38 j := fun k j j1 j2 => by rw [sset_place _ _ _ j1, sset_place _ _ _ j2]
    have cq : ∀ (k : Int) q, q ≠ 38 → sset (sset c 38 2 ((dp : Int) - 1)) 38 1 k q = c q := fun k q hq => by rw [sset_row _ _ _ hq, sset_row _ _ _ hq]
    refine ⟨by omega, by omega, ?_⟩
    rintro x2 rfl σ2 e2
    unfold f_X6_closesBlock_J107
    refine ⟨inR_01 i41, fun g0 => ?_, fun g0 => ?_⟩
    · -- the first block: another may follow
      refine t_await ⟨Or.inr rfl, Or.inr rfl, hK1 _ ?_⟩
      rw [e2]
      refine KT_ok (w := 1) (by rw [cj 4 3 (by decide) (by decide)]; exact h3) (by rw [cj 4 4 (by decide) (by decide)]; exact h4) (by decide) ?_
      have cx : CX (sset (sset c 38 2 ((dp : Int) - 1)) 38 1 4) (sset (sset (sset c 38 2 ((dp : Int) - 1)) 38 1 4) 38 3 ((a + 1 : Nat) : Int)) := CX_set (by decide) (by decide)
      have hT1 : CT T n (sset (sset c 38 2 ((dp : Int) - 1)) 38 1 4) := CT_row hT (cq 4 1 (by decide))
      have hF1 : FC D c0 (sset (sset c 38 2 ((dp : Int) - 1)) 38 1 4) := fun q u1 u2 => by rw [cq 4 q (by omega)]; exact hF q u1 u2
      have hle1 : sk T n (a + 1) ≤ n := sk_le (by omega)
      have hge1 : a + 1 ≤ sk T n (a + 1) := sk_ge (by omega)
      by_cases hbr : ch T n (sk T n (a + 1)) = 123
      · -- a second block
        have hlt : sk T n (a + 1) < n := ch_pos (T := T) (by omega)
        have hTp : T (sk T n (a + 1)) = 123 := by rw [← ch_lt (T := T) hlt]; exact hbr
        refine c_next (CT_cx cx hT1) (by omega) (sset_self _ _ _ _) (fun hen => by omega) (fun _ c3 hc3 h33 h34 _ _ K' hK' => ?_)
        have x3 : CX (sset (sset c 38 2 ((dp : Int) - 1)) 38 1 4) c3 := CX_tr cx (CX_ce hc3)
        have u1 : c3 38 1 = 4 := by rw [hc3.2 1 (by omega), sset_place _ _ _ (by decide), sset_self]
        have u2 : c3 38 2 = ((dp - 1 : Nat) : Int) := by rw [hc3.2 2 (by omega), sset_place _ _ _ (by decide), sset_place _ _ _ (by decide), sset_self]; omega
        rw [hTp]
        refine g_4 u1 ⟨⟨by decide, by decide⟩, fun g => absurd rfl g, fun _ => t_opens u2 (by omega) (by omega) (Or.inr rfl) (fun _ => ⟨Or.inr rfl, hK' _ _ ?_⟩) (fun g => by omega)⟩
        obtain ⟨o1, o2, oj⟩ := cOp_38 (c := c3) (dp := dp - 1) (v := 1)
        refine KT_ok (w := 1) (by rw [oj 3 (by decide) (by decide)]; exact h33) (by rw [oj 4 (by decide) (by decide)]; exact h34) (by decide) ?_
        have cx5 : CX (cOp c3 (dp - 1) 1) (sset (cOp c3 (dp - 1) 1) 38 3 ((sk T n (a + 1) + 1 : Nat) : Int)) := CX_set (by decide) (by decide)
        refine IH _ _ (by omega) (by omega) (CT_cx cx5 (CT_row (CT_cx x3 hT1) (cOp_row (by omega)))) (FC_cx cx5 (fun q v1 v2 => by rw [cOp_row (by omega)]; exact FC_cx x3 hF1 q v1 v2)) (sset_self _ _ _ _) (Or.inl (by rw [sset_place _ _ _ (by decide)]; exact o1)) (INV_cx hD cx5 ?_)
        refine INV_step hI (fun z m am hL => ?_)
        obtain ⟨φ, e, N, S, B, nd, ck, ts, tm, b, hL, hL1, b1, b2, b15, b8, b16, b16N, bl, b3⟩ := ref z m am hL
        have b15' : sset m 0 36 (a : Int) 15 (sset m 0 36 (a : Int) 25 (dp - 1)).toNat = 2 := by rw [sset_row _ _ _ (by decide), sset_row _ _ _ (by decide), b1, Int.toNat_natCast]; exact b15
        have hL2 := LH_cx hD x3 (LH_pop (p := sk T n (a + 1)) (pm := sk T n (a + 1)) (k := 4) hD hd2 b15' hle1 rfl (by omega) hL1)
        have em : sset (sset (sset m 0 36 (a : Int)) 0 36 ((sk T n (a + 1) : Nat) : Int)) 0 39 ((dp : Int) - 1) = sset (sset m 0 36 ((sk T n (a + 1) : Nat) : Int)) 0 39 ((dp : Int) - 1) := by rw [sset_twice]
        rw [em] at hL2
        have rq : RQ m (sset (sset m 0 36 ((sk T n (a + 1) : Nat) : Int)) 0 39 ((dp : Int) - 1)) := RQ_tr RQ_0 RQ_0
        obtain ⟨b', b'1, b'2, b'3⟩ := LH_cur hL2
        have hm8 : m 8 (m 16 b).toNat = b := by
          by_cases u : m 8 (m 16 b).toNat = b
          · exact u
          · exact absurd (b8.2 u) (by rw [g0]; decide)
        have hYR := hL.2.2.2.2.2.2.2.2.2.1.2
        have h9m : m 9 (m 16 b).toNat = -1 := by
          have := hYR (dp - 1) (by omega) (by rw [b1, Int.toNat_natCast]; exact b15) (by rw [b1, Int.toNat_natCast]; exact hm8)
          rw [b1, Int.toNat_natCast] at this; exact this
        have e16 : (((m 16 b).toNat : Nat) : Int) = m 16 b := by omega
        have hb' : m 25 (dp - 2) = (b' : Int) := by
          rw [rq 25 (by decide) (by decide), show dp - 1 - 1 = dp - 2 by omega] at b'1; exact b'1
        have hocs : oc m dp = oc m (dp - 1) + 1 := by
          obtain ⟨k, hk⟩ : ∃ k, dp = k + 1 := ⟨dp - 1, by omega⟩
          rw [hk] at b1 ⊢
          rw [show k + 1 - 1 = k by omega] at b1 ⊢
          show oc m k + (if m 15 (m 25 k).toNat = 2 ∧ m 8 (m 16 (m 25 k).toNat).toNat = m 25 k then 1 else 0) = oc m k + 1
          rw [if_pos]
          rw [b1, Int.toNat_natCast]
          exact ⟨b15, hm8⟩
        have hopen := LH_open (s := (m 16 b).toNat) (p := sk T n (a + 1) + 1) (v := 1) (k := 2) (o := m 16 b) hD hL2.1 hL2.2.2.1 (by omega) hL2.2.2.2.2.2.1 hL2.2.2.2.2.2.2.1 (by omega) (by omega) b'1 (by rw [rq 18 (by decide) (by decide)]; rw [hb', Int.toNat_natCast] at bl; rw [bl, e16]) (Or.inr rfl) (Or.inr (Or.inl ⟨rfl, by rw [rq 3 (by decide) (by decide)]; exact b3, e16.symm, rfl, by rw [rq 8 (by decide) (by decide), hm8]; omega, by rw [rq 9 (by decide) (by decide)]; exact h9m⟩)) (fun g => absurd g (by decide)) (fun t ht _ h3 => hL2.2.2.2.2.2.2.2.2.2.1.1 t ht h3) hL2.2.2.2.2.2.2.2.2.2.1.2 (by
          rw [oc_rq rq, if_neg (by decide)]
          have := hL.2.2.2.2.2.2.2.2.2.2.1
          omega) (by have := hL2.2.2.2.2.2.2.2.2.2.2.2.1; omega) (by have := hL2.2.2.2.2.2.2.2.2.2.2.2.2; omega) hL2.2.2.2.2.2.2.2.2.1
        refine ⟨_, sk T n (a + 1) + 1, ⟨_, _, _, _, _, _, _, _, _, _, hopen⟩, fun Qm fu hf hq => ?_⟩
        have y7 := hL1.2.2.2.2.2.1.2.2.2.2.2.2.1
        have y25 := hL1.2.2.2.2.2.1.2.2.1
        have b3' : sset m 0 36 (a : Int) 25 ((dp : Int) - 1).toNat = (b : Int) := by rw [sset_row _ _ _ (by decide), show ((dp : Int) - 1).toNat = dp - 1 by omega]; exact b1
        have hLn := LH_n hL2
        have hSa := hL.2.2.2.2.2.2.2.2.2.2.2.1
        obtain ⟨fu0, rfl⟩ : ∃ k, fu = k + 2 := ⟨fu - 2, by have := hL.2.2.2.1; have := hL.1.1.1; omega⟩
        refine m_close hs ha hL h1 (r_closes hL1.1 ha hL1.2.1 hL1.2.2.1 (by rw [y7]; omega) (by rw [y7]; omega) (LH_closes hL1 (Nat.le_of_lt ha)) (fun g => by rw [y7] at g; omega) (fun _ g => ?_) (fun _ _ _ g => absurd hbr g) (fun _ _ _ _ => ?_))
        · rw [y7, b3', Int.toNat_natCast, sset_row _ _ _ (by decide), sset_row _ _ _ (by decide), sset_row _ _ _ (by decide)] at g
          rcases g with g | g
          · exact absurd b15 g
          · exact absurd hm8 g
        · rw [y7, b3', Int.toNat_natCast, sset_row (c' := 16) _ _ _ (by decide), em]
          have z39 : sset (sset m 0 36 ((sk T n (a + 1) : Nat) : Int)) 0 39 ((dp : Int) - 1) 0 39 = ((dp - 1 : Nat) : Int) := by rw [sset_self]; omega
          have zb : sset (sset m 0 36 ((sk T n (a + 1) : Nat) : Int)) 0 39 ((dp : Int) - 1) 25 ((sset (sset m 0 36 ((sk T n (a + 1) : Nat) : Int)) 0 39 ((dp : Int) - 1) 0 39) - 1).toNat = (b' : Int) := b'3
          have hss := sk_sk (T := T) (n := n) (i := a + 1) (by omega)
          have z25 : sset (sset m 0 36 ((sk T n (a + 1) : Nat) : Int)) 0 39 ((dp : Int) - 1) 0 25 = (B : Int) := hL2.2.2.2.2.2.1.2.2.1
          refine r_opens (a := sk T n (a + 1)) (Or.inr rfl) hL2.1 hle1 hL2.2.1 hL2.2.2.1 (by omega) (by omega) (by rw [z39]; omega) (by rw [z39]; omega) (by rw [zb]; omega) (by rw [zb]; omega) (by rw [z25]; omega) (fun _ _ => by rw [z25]; omega) (fun _ _ => ?_) (fun g => ?_)
          · rw [hss, zb, Int.toNat_natCast]
            refine KA_ok ?_ (hq _ ?_)
            · rw [mBk_fld (by decide) (by decide), if_neg (by decide), sset_row _ _ _ (by decide), at_37]; exact hL2.2.2.1
            · have := fuel hL; omega
          · rw [hss, z39] at g
            omega
      · -- nothing more of this test
        refine IH _ _ (by omega) (by omega) (CT_cx cx hT1) (FC_cx cx hF1) (sset_self _ _ _ _) (Or.inr (Or.inr ⟨by rw [sset_place _ _ _ (by decide), sset_self], hbr⟩)) (INV_cx hD cx ?_)
        refine INV_step hI (fun z m am hL => ?_)
        obtain ⟨φ, e, N, S, B, nd, ck, ts, tm, b, hL, hL1, b1, b2, b15, b8, b16, b16N, bl, b3⟩ := ref z m am hL
        have b15' : sset m 0 36 (a : Int) 15 (sset m 0 36 (a : Int) 25 (dp - 1)).toNat = 2 := by rw [sset_row _ _ _ (by decide), sset_row _ _ _ (by decide), b1, Int.toNat_natCast]; exact b15
        have hss := sk_sk (T := T) (n := n) (i := a + 1) (by omega)
        refine ⟨_, sk T n (a + 1), ⟨_, _, _, _, _, _, _, _, _, _, LH_pop (p := a + 1) (pm := sk T n (a + 1)) (k := 4) hD hd2 b15' hle1 hss (by omega) hL1⟩, fun Qm fu hf hq => ?_⟩
        have y7 := hL1.2.2.2.2.2.1.2.2.2.2.2.2.1
        have b3' : sset m 0 36 (a : Int) 25 ((dp : Int) - 1).toNat = (b : Int) := by rw [sset_row _ _ _ (by decide), show ((dp : Int) - 1).toNat = dp - 1 by omega]; exact b1
        obtain ⟨fu0, rfl⟩ : ∃ k, fu = k + 2 := ⟨fu - 2, by have := hL.2.2.2.1; have := hL.1.1.1; omega⟩
        have hm8 : m 8 (m 16 b).toNat = b := by
          by_cases u : m 8 (m 16 b).toNat = b
          · exact u
          · exact absurd (b8.2 u) (by rw [g0]; decide)
        refine m_close hs ha hL h1 (r_closes hL1.1 ha hL1.2.1 hL1.2.2.1 (by rw [y7]; omega) (by rw [y7]; omega) (LH_closes hL1 (Nat.le_of_lt ha)) (fun g => by rw [y7] at g; omega) (fun _ g => ?_) (fun _ _ _ _ => ?_) (fun _ _ _ g => absurd g hbr))
        · rw [y7, b3', Int.toNat_natCast, sset_row _ _ _ (by decide), sset_row _ _ _ (by decide), sset_row _ _ _ (by decide)] at g
          rcases g with g | g
          · exact absurd b15 g
          · exact absurd hm8 g
        · rw [y7]
          refine KA_ok (by rw [sset_place _ _ _ (by decide), at_37]; exact hL1.2.2.1) (hq _ ?_)
          have := fuel hL; omega
    · -- the second block
      refine t_await ⟨Or.inr rfl, Or.inr rfl, hK1 _ ?_⟩
      rw [e2]
      refine KT_ok (w := 1) (by rw [cj 3 3 (by decide) (by decide)]; exact h3) (by rw [cj 3 4 (by decide) (by decide)]; exact h4) (by decide) ?_
      have cx : CX (sset (sset c 38 2 ((dp : Int) - 1)) 38 1 3) (sset (sset (sset c 38 2 ((dp : Int) - 1)) 38 1 3) 38 3 ((a + 1 : Nat) : Int)) := CX_set (by decide) (by decide)
      have hT1 : CT T n (sset (sset c 38 2 ((dp : Int) - 1)) 38 1 3) := CT_row hT (cq 3 1 (by decide))
      have hF1 : FC D c0 (sset (sset c 38 2 ((dp : Int) - 1)) 38 1 3) := fun q u1 u2 => by rw [cq 3 q (by omega)]; exact hF q u1 u2
      refine IH _ _ (by omega) (by omega) (CT_cx cx hT1) (FC_cx cx hF1) (sset_self _ _ _ _) (Or.inl (by rw [sset_place _ _ _ (by decide), sset_self])) (INV_cx hD cx ?_)
      refine INV_step hI (fun z m am hL => ?_)
      obtain ⟨φ, e, N, S, B, nd, ck, ts, tm, b, hL, hL1, b1, b2, b15, b8, b16, b16N, bl, b3⟩ := ref z m am hL
      have b15' : sset m 0 36 (a : Int) 15 (sset m 0 36 (a : Int) 25 (dp - 1)).toNat = 2 := by rw [sset_row _ _ _ (by decide), sset_row _ _ _ (by decide), b1, Int.toNat_natCast]; exact b15
      refine ⟨_, a + 1, ⟨_, _, _, _, _, _, _, _, _, _, LH_pop (p := a + 1) (pm := a + 1) (k := 3) hD hd2 b15' (by omega) rfl (by omega) hL1⟩, fun Qm fu hf hq => ?_⟩
      have y7 := hL1.2.2.2.2.2.1.2.2.2.2.2.2.1
      have b3' : sset m 0 36 (a : Int) 25 ((dp : Int) - 1).toNat = (b : Int) := by rw [sset_row _ _ _ (by decide), show ((dp : Int) - 1).toNat = dp - 1 by omega]; exact b1
      obtain ⟨fu0, rfl⟩ : ∃ k, fu = k + 2 := ⟨fu - 2, by have := hL.2.2.2.1; have := hL.1.1.1; omega⟩
      have hm8 := b8.1 g0
      have no8 : ∀ {P : Prop}, sset m 0 36 (a : Int) 8 (sset m 0 36 (a : Int) 16 (sset m 0 36 (a : Int) 25 ((dp : Int) - 1).toNat).toNat).toNat = sset m 0 36 (a : Int) 25 ((dp : Int) - 1).toNat → P := by
        intro P g
        rw [b3', Int.toNat_natCast, sset_row _ _ _ (by decide), sset_row _ _ _ (by decide)] at g
        exact absurd g hm8
      refine m_close hs ha hL h1 (r_closes hL1.1 ha hL1.2.1 hL1.2.2.1 (by rw [y7]; omega) (by rw [y7]; omega) (LH_closes hL1 (Nat.le_of_lt ha)) (fun g => by rw [y7] at g; omega) (fun _ _ => ?_) (fun _ _ g _ => by rw [y7] at g; exact no8 g) (fun _ _ g _ => by rw [y7] at g; exact no8 g))
      rw [y7]
      refine KA_ok (by rw [sset_place _ _ _ (by decide), at_37]; exact hL1.2.2.1) (hq _ ?_)
      have := fuel hL; omega
end HCLOSE2
