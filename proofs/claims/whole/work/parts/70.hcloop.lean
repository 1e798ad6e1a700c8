/-! ===== pure layer: conditions and blocks of choices, read by both ===== -/
section HCLOOP
variable {T : Nat → Int} {n D a a' am p u u' : Nat} {z c c' m m' : St} {φ : Nat → Nat} {e : Nat → Int} {N S B nd ck ts tm dp b : Nat} {R : St → St → Prop} {Q : St → Int → Prop} {w x y f w' x' y' kk : Int}
theorem LQ_le (ha : a ≤ n) (hs : sk T n a = a) (hL : LQ T n z D c a m am φ e N S B nd ck ts tm dp kk u) : am ≤ a := by
  have u1 := hL.2.2.2.1
  have u2 := hL.2.2.2.2.1
  have u3 := sk_ge (T := T) u1
  rw [hs] at u2
  omega
theorem tmr_ge (ha : a ≤ n) : sk T n a ≤ (tmr T n a).2.1 := by
  unfold tmr
  have v1 := sk_le (T := T) ha
  split
  · have p1 : sk T n a < n := ch_pos (T := T) (by omega)
    have := sk_ge (T := T) (n := n) (i := sk T n a + 1) (by omega)
    split
    · show sk T n a ≤ sk T n (sk T n a + 1) + 1; omega
    · show sk T n a ≤ sk T n (sk T n a + 1); omega
  · split
    · have p1 : sk T n a < n := ch_pos (T := T) (by omega)
      have := sk_ge (T := T) (n := n) (i := sk T n a + 1) (by omega)
      split
      · have p2 : sk T n (sk T n a + 1) < n := ch_pos (T := T) (by omega)
        have := sk_ge (T := T) (n := n) (i := sk T n (sk T n a + 1) + 1) (by omega)
        split
        · show sk T n a ≤ sk T n (sk T n (sk T n a + 1) + 1) + 1; omega
        · show sk T n a ≤ sk T n (sk T n (sk T n a + 1) + 1); omega
      · show sk T n a ≤ sk T n (sk T n a + 1); omega
    · split
      · show sk T n a ≤ sk T n a + 1; omega
      · show sk T n a ≤ sk T n a; omega
/-- the block of a choice -/
theorem C_block {c0 : St} (hD : D = 2 ∨ D = 20) (hT : CT T n c) (hF : FC D c0 c) (h1 : c 38 1 = 15) (h3 : c 38 3 = (a : Int)) (ha : a ≤ n) (hI : BINV T n D c a)
    (HQ : ∀ c' (r : Int), FC D c0 c' → PR R T n c' r → Q c' r) (IH : ∀ c' a', a < a' → a' ≤ n → CT T n c' → FC D c0 c' → c' 38 3 = ((a' : Nat) : Int) → AW T n c' a' → INV T n D c' a' → CLB Q n c' a') : CLB Q n c a := by
  have hn := hT.1
  obtain ⟨m0, am0, φ0, e0, N0, S0, B0, nd0, ck0, ts0, tm0, dp, hL0, -⟩ := hI 0 (z0 T n) ⟨hT.1, hT.2.1, Or.inl ⟨rfl, rfl, fun j _ => rfl⟩⟩
  obtain ⟨l0, l9, l2, ld1, ld6, -⟩ := LQ_cl (Or.inr rfl) hL0
  have hge := sk_ge (T := T) ha
  have bad : ∀ c', (ch T n (sk T n a) ≠ 123 ∨ dp = 6) → PR R T n c' ((sk T n a : Nat) : Int) := by
    intro c' hb
    have hskn := sk_le (T := T) ha
    refine ⟨⟨by omega, by omega⟩, ?_⟩
    intro b z Qm hs _ h2
    obtain ⟨m, am, φ, e, N, S, B, nd, ck, ts, tm, dp', hL, h11, hR⟩ := hI b z hs
    have hdd : dp' = dp := by have := hL.2.2.2.2.2.2.1; omega
    subst hdd
    obtain ⟨-, -, -, -, -, -, -, -, -, -, -, ⟨b', lb1, -⟩, -⟩ := LQ_cl (Or.inr rfl) hL
    refine hR Qm (fun fu hf => LQ_ropens ha (Or.inr rfl) lb1 hL (fun g1 g2 => by omega) (fun _ => ?_))
    obtain ⟨k, rfl⟩ : ∃ k, fu = k + 1 := ⟨fu - 1, by have := hL.2.2.2.1; omega⟩
    exact DE_KA (h2 (by omega))
  refine c_next hT ha h3 (fun hen c3 hc3 h33 => ?_) (fun hlt c3 hc3 h33 h34 _ _ K' hK' => ?_)
  · have x3 := CX_ce hc3
    have w1 : c3 38 1 = 15 := by rw [hc3.2 1 (by omega)]; exact h1
    refine j100_no (by rw [x3.2.2, l2]; exact ⟨by omega, by omega⟩) (by rw [w1]; exact ⟨by decide, by decide⟩) (by rw [w1]; decide) (HQ _ _ (FC_cx x3 hF) ?_)
    have := bad c3 (Or.inl (by rw [hen, ch_ge (by omega)]; omega))
    rw [hen] at this; exact this
  · have x3 := CX_ce hc3
    have w1 : c3 38 1 = 15 := by rw [hc3.2 1 (by omega)]; exact h1
    have hr := hT.2.1 (sk T n a)
    have hch := ch_lt (T := T) hlt
    have no : (ch T n (sk T n a) ≠ 123 ∨ dp = 6) → K' c3 0 := fun g => hK' _ _ (KT_no h33 (HQ _ _ (FC_cx x3 hF) (bad c3 g)))
    refine g_15 w1 ⟨⟨by omega, by omega⟩, fun g => no (Or.inl (by omega)), fun g => ?_⟩
    refine t_opens (x3.2.2.trans l2) ld1 ld6 (Or.inl rfl) (fun gd => ⟨⟨by decide, by decide⟩, fun g => absurd g (by decide), fun _ => hK' _ _ ?_⟩) (fun gd => ⟨⟨by decide, by decide⟩, fun _ => no (Or.inr gd), fun g => absurd rfl g⟩)
    obtain ⟨o1, o2, oj⟩ := cOp_38 (c := c3) (dp := dp) (v := 0)
    refine KT_ok (w := 1) (by rw [oj 3 (by decide) (by decide)]; exact h33) (by rw [oj 4 (by decide) (by decide)]; exact h34) (by decide) ?_
    have cx5 : CX (cOp c3 dp 0) (sset (cOp c3 dp 0) 38 3 ((sk T n a + 1 : Nat) : Int)) := CX_set (by decide) (by decide)
    refine IH _ _ (by omega) (by omega) (CT_cx cx5 (CT_row (CT_cx x3 hT) (cOp_row (by omega)))) (FC_cx cx5 (fun q v1 v2 => by rw [cOp_row (by omega)]; exact FC_cx x3 hF q v1 v2)) (sset_self _ _ _ _) (Or.inl (by rw [sset_place _ _ _ (by decide)]; exact o1)) (INV_cx hD cx5 ?_)
    intro b z hs
    obtain ⟨m, am, φ, e, N, S, B, nd, ck, ts, tm, dp', hL, h11, hR⟩ := hI b z hs
    have hdd : dp' = dp := by have := hL.2.2.2.2.2.2.1; omega
    subst hdd
    obtain ⟨-, -, -, -, -, -, -, -, -, -, -, ⟨b', lb1, -⟩, -⟩ := LQ_cl (Or.inr rfl) hL
    have hLH := LQ_open (p := sk T n a + 1) (k := 1) (o := m 4 (N - 1)) hD (by omega) (by omega) h11 gd (Nat.le_refl _) lb1 (Or.inr ⟨rfl, rfl, rfl⟩) (LQ_cx hD x3 hL)
    refine ⟨_, sk T n a + 1, ⟨_, _, _, _, _, _, _, _, _, _, hLH⟩, fun Qm hq => hR Qm (fun fu hf => LQ_ropens ha (Or.inr rfl) lb1 hL (fun _ _ => KA_ok ?_ (hq _ ?_)) (fun g' => by omega))⟩
    · rw [mBk_fld (by decide) (by decide), sset_row _ _ _ (by decide), at_37]; exact hL.2.2.1
    · have u1 := hL.2.2.2.1
      have u2 := hL.2.2.2.2.1
      have u3 := sk_ge (T := T) u1
      omega
/-- conditions -/
theorem C_cond {c0 : St} (hD : D = 2 ∨ D = 20) (hkk : kk = 3 ∨ kk = 4) (a0 : Nat)
    (HQ : ∀ c' (r : Int), FC D c0 c' → PR R T n c' r → Q c' r) (IH : ∀ c' a', a0 < a' → a' ≤ n → CT T n c' → FC D c0 c' → c' 38 3 = ((a' : Nat) : Int) → AW T n c' a' → INV T n D c' a' → CLB Q n c' a') :
    ∀ (k a : Nat) (c : St), n - a ≤ k → a0 ≤ a → a ≤ n → CT T n c → FC D c0 c → c 38 1 = 8 → c 38 3 = (a : Int) → CINV T n D c a kk → CLB Q n c a := by
  intro k
  induction k with
  | zero =>
    -- the text ends here
    intro a c hk ha0 ha hT hF h1 h3 hI
    have hn := hT.1
    obtain ⟨m0, am0, φ0, e0, N0, S0, B0, nd0, ck0, ts0, tm0, dp, hL0, -⟩ := hI 0 (z0 T n) ⟨hT.1, hT.2.1, Or.inl ⟨rfl, rfl, fun j _ => rfl⟩⟩
    obtain ⟨l0, l9, l2, ld1, ld6, -⟩ := LQ_cl hkk hL0
    have e1 : a = n := by omega
    subst e1
    refine c_end hn h3 (j100_no (by rw [l2]; exact ⟨by omega, by omega⟩) (by rw [h1]; exact ⟨by decide, by decide⟩) (by rw [h1]; decide) (HQ _ _ hF ?_))
    refine ⟨⟨by omega, by omega⟩, ?_⟩
    intro b z Qm hs _ h2
    obtain ⟨m, am, φ, e, N, S, B, nd, ck, ts, tm, dp', hL, hR⟩ := hI b z hs
    have hsk : sk T a am = a := by rw [hL.2.2.2.2.1, sk_end (Nat.le_refl _)]
    obtain ⟨-, q9, -, -, q6, -, -, -, -, qN, -, -, -⟩ := LQ_cl hkk hL
    have y2 := hL.2.2.2.2.2.1.2.1
    have y7 := hL.2.2.2.2.2.1.2.2.2.2.2.2.1
    have hS := hL.2.2.2.2.2.2.2.2.2.2.2.2.2.1
    have htm := hL.2.2.2.2.2.2.2.2.2.2.2.2.2.2
    have htmr : tmr T a am = (false, a, 0, 0, 0) := by
      unfold tmr
      rw [hsk, ch_ge (by omega), if_neg (by decide), if_neg (by decide), if_neg (by decide)]
    refine hR Qm (fun fu fc hf hf2 => ?_)
    obtain ⟨k, rfl⟩ : ∃ k, fu = k + 1 := ⟨fu - 1, by have := hL.2.2.2.1; omega⟩
    obtain ⟨k2, rfl⟩ : ∃ k, fc = k + 2 := ⟨fc - 2, by have := hL.2.2.2.1; omega⟩
    refine r_cond hL.1 (by rw [y7]; exact ⟨by omega, by omega⟩) hL.2.2.2.1 hL.2.1 hL.2.2.1 (by rw [y2]; omega) (by rw [y2]; omega) (by omega) (by omega) (fun g => by rw [htmr] at g; cases g) (fun g => by rw [htmr] at g; cases g) (fun g => by rw [htmr] at g; cases g) (fun _ => ?_)
    rw [htmr]
    have hde : DE T a z (KA Qm (k + 1)) a := DE_KA (h2 (by omega))
    unfold cKK
    rcases hkk with g | g
    · rw [if_pos g]; exact r_openD (Nat.le_refl _) (sk_end (Nat.le_refl _)) hde
    · rw [if_neg (by omega)]; exact r_j108D (by omega) (by omega) (Nat.le_refl _) (sk_end (Nat.le_refl _)) hde
  | succ k ih =>
    intro a c hk ha0 ha hT hF h1 h3 hI
    have hn := hT.1
    obtain ⟨m0, am0, φ0, e0, N0, S0, B0, nd0, ck0, ts0, tm0, dp, hL0, -⟩ := hI 0 (z0 T n) ⟨hT.1, hT.2.1, Or.inl ⟨rfl, rfl, fun j _ => rfl⟩⟩
    obtain ⟨l0, l9, l2, ld1, ld6, l40, lS, lD, lso, lN, -⟩ := LQ_cl hkk hL0
    have hS0 := hL0.2.2.2.2.2.2.2.2.2.2.2.2.2.1
    have htm0 := hL0.2.2.2.2.2.2.2.2.2.2.2.2.2.2
    obtain ⟨te, tge, tok, tno⟩ := tmr_ok (T := T) ha
    -- the reference's turn
    have turn : ∀ (z m : St) (am : Nat) (φ : Nat → Nat) (e : Nat → Int) (N S B nd ck ts tm dp' : Nat), LQ T n z D c a m am φ e N S B nd ck ts tm dp' kk 3 → ∀ (K0 : St → Prop) (fc : Nat), 500 ≤ fc + am →
        ((tmr T n a).1 = true → ch T n (sk T n (tmr T n a).2.1) = 38 → f_X10_readsCondition_L2 (cKK K0 kk ((N - 1 : Nat) : Int)) (fc - 1) (sset (mTm (sset m 0 36 (((tmr T n a).2.1 : Nat) : Int)) (tmr T n a).2.2.1 (tmr T n a).2.2.2.1 (tmr T n a).2.2.2.2) 0 36 ((sk T n (tmr T n a).2.1 + 1 : Nat) : Int)) ((N - 1 : Nat) : Int) 1) →
        ((tmr T n a).1 = true → ch T n (sk T n (tmr T n a).2.1) ≠ 38 → cKK K0 kk ((N - 1 : Nat) : Int) (sset (sset (mTm (sset m 0 36 (((tmr T n a).2.1 : Nat) : Int)) (tmr T n a).2.2.1 (tmr T n a).2.2.2.1 (tmr T n a).2.2.2.2) 0 36 ((sk T n (tmr T n a).2.1 : Nat) : Int)) 11 (N - 1) ((tm + 1 : Nat) : Int))) →
        ((tmr T n a).1 = false → DE T n z K0 (tmr T n a).2.1) → f_X10_readsCondition_L2 (cKK K0 kk ((N - 1 : Nat) : Int)) fc m ((N - 1 : Nat) : Int) 1 := by
      intro z m am φ e N S B nd ck ts tm dp' hL K0 fc hf hm hd hno
      obtain ⟨-, q9, -, -, q6, -, -, -, -, qN, -, -, -⟩ := LQ_cl hkk hL
      have y2 := hL.2.2.2.2.2.1.2.1
      have y7 := hL.2.2.2.2.2.1.2.2.2.2.2.2.1
      have hS := hL.2.2.2.2.2.2.2.2.2.2.2.2.2.1
      have htm := hL.2.2.2.2.2.2.2.2.2.2.2.2.2.2
      have hsk : sk T n am = sk T n a := hL.2.2.2.2.1
      have hte : tmr T n am = tmr T n a := by unfold tmr; rw [hsk]
      obtain ⟨k2, rfl⟩ : ∃ k, fc = k + 2 := ⟨fc - 2, by have := hL.2.2.2.1; omega⟩
      refine r_cond hL.1 (by rw [y7]; exact ⟨by omega, by omega⟩) hL.2.2.2.1 hL.2.1 hL.2.2.1 (by rw [y2]; omega) (by rw [y2]; omega) (by omega) (by omega) (fun _ => by rw [hte]; exact te) (fun g1 g2 => ?_) (fun g1 g2 => ?_) (fun g => ?_)
      · rw [hte] at g1 g2 ⊢; exact hm g1 g2
      · rw [hte] at g1 g2 ⊢
        rw [y2, Int.toNat_natCast]
        exact hd g1 g2
      · rw [hte] at g ⊢
        have hde := hno g
        have hss := tno g
        unfold cKK
        rcases hkk with g' | g'
        · rw [if_pos g']; exact r_openD te hss hde
        · rw [if_neg (by omega)]; exact r_j108D (by omega) (by omega) te hss hde
    refine C_term (c0 := c0) (dp := dp) (tm := tm0) (xs := φ0 (N0 - 1)) hD hT hF h1 h3 ha l0 l9 (by omega) l2 ld1 ld6 l40 (by omega) (fun hbad c' hF' => HQ c' _ hF' ?_) (fun hok c1 hc1 => ?_)
    · -- a fault in the term
      refine ⟨⟨by omega, by omega⟩, ?_⟩
      intro b z Qm hs _ h2
      obtain ⟨m, am, φ, e, N, S, B, nd, ck, ts, tm, dp', hL, hR⟩ := hI b z hs
      refine hR Qm (fun fu fc hf hf2 => ?_)
      obtain ⟨k2, rfl⟩ : ∃ k, fu = k + 1 := ⟨fu - 1, by have := hL.2.2.2.1; omega⟩
      exact turn z m am φ e N S B nd ck ts tm dp' hL _ fc hf2 (fun g => by rw [hbad] at g; cases g) (fun g => by rw [hbad] at g; cases g) (fun _ => DE_KA (h2 (by omega)))
    · obtain ⟨tlt, tTR⟩ := tok hok
      have hle : sk T n (tmr T n a).2.1 ≤ n := sk_le te
      have hge : (tmr T n a).2.1 ≤ sk T n (tmr T n a).2.1 := sk_ge te
      have hss : sk T n (sk T n (tmr T n a).2.1) = sk T n (tmr T n a).2.1 := sk_sk te
      have ham : ∀ {z m : St} {am : Nat} {φ : Nat → Nat} {e : Nat → Int} {N S B nd ck ts tm dp' : Nat}, LQ T n z D c a m am φ e N S B nd ck ts tm dp' kk 3 → am ≤ sk T n (tmr T n a).2.1 := by
        intro z m am φ e N S B nd ck ts tm dp' hL
        have u1 := hL.2.2.2.1
        have u2 := hL.2.2.2.2.1
        have u3 := sk_ge (T := T) u1
        have u4 := tmr_ge (T := T) ha
        omega
      -- the numbers of another state are those of the canonical one
      have same : ∀ {z m : St} {am : Nat} {φ : Nat → Nat} {e : Nat → Int} {N S B nd ck ts tm dp' : Nat}, LQ T n z D c a m am φ e N S B nd ck ts tm dp' kk 3 → dp' = dp ∧ tm = tm0 ∧ φ (N - 1) = φ0 (N0 - 1) := by
        intro z m am φ e N S B nd ck ts tm dp' hL
        obtain ⟨-, q9, q2, -, -, q40, -⟩ := LQ_cl hkk hL
        have d1 : dp' = dp := by omega
        subst d1
        exact ⟨rfl, by omega, by omega⟩
      obtain ⟨t1, t38⟩ := cTm_38 (c := c1) (k := (tmr T n a).2.2.1) (o := (tmr T n a).2.2.2.1) (v := (tmr T n a).2.2.2.2) (tm := tm0) (xs := φ0 (N0 - 1)) hD
      obtain ⟨r10, r11, r12, r8, rr, r9⟩ := cTm_r (c := c1) (k := (tmr T n a).2.2.1) (o := (tmr T n a).2.2.2.1) (v := (tmr T n a).2.2.2.2) (tm := tm0) (xs := φ0 (N0 - 1)) hD
      generalize hc2 : cTm c1 D (tmr T n a).2.2.1 (tmr T n a).2.2.2.1 (tmr T n a).2.2.2.2 tm0 (φ0 (N0 - 1)) = c2 at *
      have hT2 : CT T n c2 := CT_row (CT_cx hc1 hT) (rr 1 (by omega) (by omega) (by omega) (by omega) (by omega) (by omega))
      have hF2 : FC D c0 c2 := fun q v1 v2 => by rw [rr q (by omega) (by omega) (by omega) (by omega) (by omega) (by omega)]; exact FC_cx hc1 hF q v1 v2
      have s2 : c2 38 2 = (dp : Int) := by rw [t38 2 (by decide), hc1.2.2]; exact l2
      have s0 : c2 38 0 = (D : Int) := by rw [t38 0 (by decide), hc1.2.1]; exact l0
      have sD : c2 D 0 = (S0 : Int) := by rw [rr D (by omega) (by omega) (by omega) (by omega) (by omega) (by omega), hc1.1 D (by omega)]; exact lD
      have s40 : c2 40 dp = ((φ0 (N0 - 1) : Nat) : Int) := by rw [rr 40 (by omega) (by omega) (by omega) (by omega) (by omega) (by omega), hc1.1 40 (by omega)]; exact l40
      have sso : c2 (D + 1) (φ0 (N0 - 1)) = (if kk = 3 then 6 else 7) := by rw [rr (D + 1) (by omega) (by omega) (by omega) (by omega) (by omega) (by omega), hc1.1 (D + 1) (by omega)]; exact lso
      -- the pending relation behind the term
      have pend : ∀ {c' z m : St} {am : Nat} {φ : Nat → Nat} {e : Nat → Int} {N S B nd ck ts tm dp' : Nat} (pm a' u' : Nat), CX c2 c' → pm ≤ n → sk T n pm = sk T n a' → a < a' → 2 * (tm + 1) + u' ≤ a' → LQ T n z D c a m am φ e N S B nd ck ts tm dp' kk 3 → LQ T n z D c' a' (sset (mTm (sset m 0 36 (((tmr T n a).2.1 : Nat) : Int)) (tmr T n a).2.2.1 (tmr T n a).2.2.2.1 (tmr T n a).2.2.2.2) 0 36 (pm : Int)) pm φ e N S B nd ck ts (tm + 1) dp' kk u' := by
        intro c' z m am φ e N S B nd ck ts tm dp' pm a' u' hx hpm hsk haa hu hL
        obtain ⟨-, d2, d3⟩ := same hL
        refine LQ_term (c := c1) hD tTR ?_ hpm hsk haa hu (LQ_cx hD hc1 hL)
        rw [d2, d3, hc2]; exact hx
      -- a fault behind the term
      have bad : ∀ c', ch T n (sk T n (tmr T n a).2.1) ≠ 38 → ((kk = 3 ∧ (ch T n (sk T n (tmr T n a).2.1) ≠ 123 ∨ dp = 6)) ∨ (kk = 4 ∧ ch T n (sk T n (tmr T n a).2.1) ≠ 93)) → PR R T n c' ((sk T n (tmr T n a).2.1 : Nat) : Int) := by
        intro c' hne hb
        refine ⟨⟨by omega, by omega⟩, ?_⟩
        intro b z Qm hs _ h2
        obtain ⟨m, am, φ, e, N, S, B, nd, ck, ts, tm, dp', hL, hR⟩ := hI b z hs
        obtain ⟨d1, d2, d3⟩ := same hL
        refine hR Qm (fun fu fc hf hf2 => ?_)
        obtain ⟨k2, rfl⟩ : ∃ k, fu = k + 1 := ⟨fu - 1, by have := hL.2.2.2.1; omega⟩
        refine turn z m am φ e N S B nd ck ts tm dp' hL _ fc hf2 (fun _ g => absurd g hne) (fun _ _ => ?_) (fun g => by rw [hok] at g; cases g)
        have hde : DE T n z (KA Qm (k2 + 1)) (sk T n (tmr T n a).2.1) := DE_KA (h2 (by omega))
        have hP1 := pend (c' := c2) (sk T n (tmr T n a).2.1) (sk T n (tmr T n a).2.1) 2 CX_rfl hle rfl (by omega) (by have := hL.2.2.2.2.2.2.2.2.2.2.2.2.2.2; omega) hL
        have hP2 := LQ_11 hle rfl (Nat.le_refl _) hP1
        have em : sset (sset (sset (mTm (sset m 0 36 (((tmr T n a).2.1 : Nat) : Int)) (tmr T n a).2.2.1 (tmr T n a).2.2.2.1 (tmr T n a).2.2.2.2) 0 36 ((sk T n (tmr T n a).2.1 : Nat) : Int)) 11 (N - 1) ((tm + 1 : Nat) : Int)) 0 36 ((sk T n (tmr T n a).2.1 : Nat) : Int) = sset (sset (mTm (sset m 0 36 (((tmr T n a).2.1 : Nat) : Int)) (tmr T n a).2.2.1 (tmr T n a).2.2.2.1 (tmr T n a).2.2.2.2) 0 36 ((sk T n (tmr T n a).2.1 : Nat) : Int)) 11 (N - 1) ((tm + 1 : Nat) : Int) := by
          rw [sset_comm _ _ _ (Or.inl (by decide)), sset_twice]
        rw [em] at hP2
        obtain ⟨-, -, -, -, q6, -, -, -, -, qN, -, ⟨b', lb1, -⟩, -⟩ := LQ_cl hkk hP2
        have hS := hL.2.2.2.2.2.2.2.2.2.2.2.2.2.1
        have y7 := hP2.2.2.2.2.2.1.2.2.2.2.2.2.1
        unfold cKK
        rcases hkk with g | g
        · rw [if_pos g]
          exact LQ_ropens hle (Or.inl g) lb1 hP2 (fun g1 g2 => by rw [hss] at g1; omega) (fun _ => by rw [hss]; exact hde)
        · rw [if_neg (by omega)]
          exact r_j108 hP2.1 (by rw [y7]; exact ⟨by omega, by omega⟩) hle hP2.2.1 hP2.2.2.1 (by omega) (by omega) (fun g1 => by rw [hss] at g1; omega) (fun _ => by rw [hss]; exact hde)
      have cxe : CX c2 (sset c2 38 3 (((tmr T n a).2.1 : Nat) : Int)) := CX_set (by decide) (by decide)
      have bad2 : ∀ c', FC D c0 c' → ch T n (sk T n (tmr T n a).2.1) ≠ 38 → ((kk = 3 ∧ (ch T n (sk T n (tmr T n a).2.1) ≠ 123 ∨ dp = 6)) ∨ (kk = 4 ∧ ch T n (sk T n (tmr T n a).2.1) ≠ 93)) → Q c' ((sk T n (tmr T n a).2.1 : Nat) : Int) := fun c' hf h1 h2 => HQ c' _ hf (bad c' h1 h2)
      refine c_next (CT_cx cxe hT2) te (sset_self _ _ _ _) (fun hen c3 hc3 h33 => ?_) (fun hlt c3 hc3 h33 h34 _ _ K' hK' => ?_)
      · have x3 := CX_tr cxe (CX_ce hc3)
        have w1 : c3 38 1 = 12 := by rw [hc3.2 1 (by omega), sset_place _ _ _ (by decide)]; exact t1
        refine j100_no (by rw [x3.2.2, s2]; exact ⟨by omega, by omega⟩) (by rw [w1]; exact ⟨by decide, by decide⟩) (by rw [w1]; decide) ?_
        have hchn : ch T n (sk T n (tmr T n a).2.1) = -1 := by rw [hen, ch_ge (by omega)]
        have := bad2 c3 (FC_cx x3 hF2) (by omega) (by rcases hkk with g | g; exact Or.inl ⟨g, Or.inl (by omega)⟩; exact Or.inr ⟨g, by omega⟩)
        rw [hen] at this; exact this
      · have x3 := CX_tr cxe (CX_ce hc3)
        have w1 : c3 38 1 = 12 := by rw [hc3.2 1 (by omega), sset_place _ _ _ (by decide)]; exact t1
        have hr := hT.2.1 (sk T n (tmr T n a).2.1)
        have hch := ch_lt (T := T) hlt
        have no : ch T n (sk T n (tmr T n a).2.1) ≠ 38 → ((kk = 3 ∧ (ch T n (sk T n (tmr T n a).2.1) ≠ 123 ∨ dp = 6)) ∨ (kk = 4 ∧ ch T n (sk T n (tmr T n a).2.1) ≠ 93)) → K' c3 0 := fun g1 g2 => hK' _ _ (KT_no h33 (bad2 c3 (FC_cx x3 hF2) g1 g2))
        refine g_12 w1 (ic_12 w1 ?_)
        unfold f_X6_takesTermEnd
        rw [x3.2.2, s2]
        refine t_entry ia40 (by decide) ⟨by omega, by omega⟩ (fun _ _ => ?_) (fun g => by omega)
        rw [Int.toNat_natCast, x3.1 40 (by decide), s40, x3.2.1, s0, Int.toNat_natCast]
        refine ⟨hD, ?_⟩
        have fin : ∀ r2 : Int, ((kk = 3 ∧ r2 = 1) ∨ (kk = 4 ∧ r2 = 0)) → inR (T (sk T n (tmr T n a).2.1)) ∧ ((T (sk T n (tmr T n a).2.1) = 38 → f_X6_await 8 c3 (fun σ3 r3 => (r3 = 0 ∨ r3 = 1) ∧ (r3 = 0 ∨ r3 = 1) ∧ (r3 = 0 ∨ r3 = 1) ∧ K' σ3 r3)) ∧ (T (sk T n (tmr T n a).2.1) = 93 → inR r2 ∧ ((¬ r2 = 0 → ((0 : Int) = 0 ∨ (0 : Int) = 1) ∧ ((0 : Int) = 0 ∨ (0 : Int) = 1) ∧ K' c3 0) ∧ (r2 = 0 → f_X6_await 15 c3 (fun σ4 r4 => inR r4 ∧ ((r4 = 0 → ((0 : Int) = 0 ∨ (0 : Int) = 1) ∧ ((0 : Int) = 0 ∨ (0 : Int) = 1) ∧ K' σ4 0) ∧ (¬ r4 = 0 → ((1 : Int) = 0 ∨ (1 : Int) = 1) ∧ ((1 : Int) = 0 ∨ (1 : Int) = 1) ∧ K' σ4 1)))))) ∧ (T (sk T n (tmr T n a).2.1) = 123 → inR r2 ∧ ((r2 = 0 → ((0 : Int) = 0 ∨ (0 : Int) = 1) ∧ ((0 : Int) = 0 ∨ (0 : Int) = 1) ∧ K' c3 0) ∧ (¬ r2 = 0 → f_X6_opensBlock 0 c3 (fun σ5 r5 => inR r5 ∧ ((r5 = 0 → ((0 : Int) = 0 ∨ (0 : Int) = 1) ∧ ((0 : Int) = 0 ∨ (0 : Int) = 1) ∧ K' σ5 0) ∧ (¬ r5 = 0 → ((1 : Int) = 0 ∨ (1 : Int) = 1) ∧ ((1 : Int) = 0 ∨ (1 : Int) = 1) ∧ K' σ5 1)))))) ∧ (¬ T (sk T n (tmr T n a).2.1) = 38 → ¬ T (sk T n (tmr T n a).2.1) = 93 → ¬ T (sk T n (tmr T n a).2.1) = 123 → ((0 : Int) = 0 ∨ (0 : Int) = 1) ∧ ((0 : Int) = 0 ∨ (0 : Int) = 1) ∧ K' c3 0)) := by
          intro r2 hr2
          refine ⟨⟨by omega, by omega⟩, fun g => ?_, fun g => ⟨⟨by omega, by omega⟩, fun g2 => ⟨Or.inl rfl, Or.inl rfl, no (by omega) (Or.inl ⟨by omega, Or.inl (by omega)⟩)⟩, fun g2 => ?_⟩, fun g => ⟨⟨by omega, by omega⟩, fun g2 => ⟨Or.inl rfl, Or.inl rfl, no (by omega) (Or.inr ⟨by omega, by omega⟩)⟩, fun g2 => ?_⟩, fun g1 g2 g3 => ⟨Or.inl rfl, Or.inl rfl, no (by omega) (by omega)⟩⟩
          · -- another term
            refine t_await ⟨Or.inr rfl, Or.inr rfl, Or.inr rfl, hK' _ _ ?_⟩
            refine KT_ok (w := 1) (by rw [sset_place _ _ _ (by decide)]; exact h33) (by rw [sset_place _ _ _ (by decide)]; exact h34) (by decide) ?_
            have x5 : CX c2 (sset (sset c3 38 1 8) 38 3 ((sk T n (tmr T n a).2.1 + 1 : Nat) : Int)) := CX_tr x3 (CX_tr (CX_set (by decide) (by decide)) (CX_set (by decide) (by decide)))
            refine ih _ _ (by omega) (by omega) (by omega) (CT_cx x5 hT2) (FC_cx x5 hF2) (by rw [sset_place _ _ _ (by decide), sset_self]) (sset_self _ _ _ _) ?_
            intro b z hs
            obtain ⟨m, am, φ, e, N, S, B, nd, ck, ts, tm, dp', hL, hR⟩ := hI b z hs
            have htm := hL.2.2.2.2.2.2.2.2.2.2.2.2.2.2
            have ham := ham hL
            refine ⟨_, sk T n (tmr T n a).2.1 + 1, φ, e, N, S, B, nd, ck, ts, tm + 1, dp', pend (sk T n (tmr T n a).2.1 + 1) (sk T n (tmr T n a).2.1 + 1) 3 x5 (by omega) rfl (by omega) (by omega) hL, fun Qm hq => hR Qm (fun fu fc hf hf2 => ?_)⟩
            refine turn z m am φ e N S B nd ck ts tm dp' hL _ fc hf2 (fun _ _ => hq fu (fc - 1) (by omega) (by omega)) (fun _ g' => absurd (by omega) g') (fun g' => by rw [hok] at g'; cases g')
          · -- the end of a choice's head
            refine t_await ⟨⟨by decide, by decide⟩, fun g' => absurd g' (by decide), fun _ => ⟨Or.inr rfl, Or.inr rfl, hK' _ _ ?_⟩⟩
            refine KT_ok (w := 1) (by rw [sset_place _ _ _ (by decide)]; exact h33) (by rw [sset_place _ _ _ (by decide)]; exact h34) (by decide) ?_
            have x5 : CX c2 (sset (sset c3 38 1 15) 38 3 ((sk T n (tmr T n a).2.1 + 1 : Nat) : Int)) := CX_tr x3 (CX_tr (CX_set (by decide) (by decide)) (CX_set (by decide) (by decide)))
            have h4k : kk = 4 := by omega
            refine C_block hD (CT_cx x5 hT2) (FC_cx x5 hF2) (by rw [sset_place _ _ _ (by decide), sset_self]) (sset_self _ _ _ _) (by omega) ?_ HQ (fun c' a' h1 h2 => IH c' a' (by omega) h2)
            intro b z hs
            obtain ⟨m, am, φ, e, N, S, B, nd, ck, ts, tm, dp', hL, hR⟩ := hI b z hs
            have htm := hL.2.2.2.2.2.2.2.2.2.2.2.2.2.2
            have hP1 := pend (sk T n (tmr T n a).2.1) (sk T n (tmr T n a).2.1) 2 x5 hle rfl (by omega) (by omega) hL
            have hP2 := LQ_11 (q := sk T n (tmr T n a).2.1 + 1) (a' := sk T n (tmr T n a).2.1 + 1) (by omega) rfl (by omega) hP1
            rw [h4k] at hP2
            refine ⟨_, sk T n (tmr T n a).2.1 + 1, φ, e, N, S, B, nd, ck, ts, tm + 1, dp', hP2, by rw [sset_row _ _ _ (by decide), sset_self], fun Qm hq => hR Qm (fun fu fc hf hf2 => ?_)⟩
            refine turn z m am φ e N S B nd ck ts tm dp' hL _ fc hf2 (fun _ g' => by omega) (fun _ _ => ?_) (fun g' => by rw [hok] at g'; cases g')
            have hP3 := LQ_11 (q := sk T n (tmr T n a).2.1) (a' := sk T n (tmr T n a).2.1) hle rfl (Nat.le_refl _) hP1
            have em : ∀ q : Int, sset (sset (sset (mTm (sset m 0 36 (((tmr T n a).2.1 : Nat) : Int)) (tmr T n a).2.2.1 (tmr T n a).2.2.2.1 (tmr T n a).2.2.2.2) 0 36 ((sk T n (tmr T n a).2.1 : Nat) : Int)) 11 (N - 1) ((tm + 1 : Nat) : Int)) 0 36 ((sk T n (tmr T n a).2.1 : Nat) : Int) = sset (sset (mTm (sset m 0 36 (((tmr T n a).2.1 : Nat) : Int)) (tmr T n a).2.2.1 (tmr T n a).2.2.2.1 (tmr T n a).2.2.2.2) 0 36 ((sk T n (tmr T n a).2.1 : Nat) : Int)) 11 (N - 1) ((tm + 1 : Nat) : Int) := fun _ => by
              rw [sset_comm _ _ _ (Or.inl (by decide)), sset_twice]
            rw [em 0] at hP3
            obtain ⟨-, -, -, -, q6, -, -, -, -, qN, -, -⟩ := LQ_cl hkk hP3
            have y7 := hP3.2.2.2.2.2.1.2.2.2.2.2.2.1
            have hS := hL.2.2.2.2.2.2.2.2.2.2.2.2.2.1
            unfold cKK
            rw [if_neg (by omega)]
            refine r_j108 hP3.1 (by rw [y7]; exact ⟨by omega, by omega⟩) hle hP3.2.1 hP3.2.2.1 (by omega) (by omega) (fun _ => ?_) (fun g' => by rw [hss] at g'; omega)
            rw [hss, Int.toNat_natCast]
            have := hq fu (by have := ham hL; omega)
            rw [sset_row (c' := 4) _ _ _ (by decide)] at this
            exact this
          · -- the block of a test
            have h3k : kk = 3 := by omega
            refine t_opens (x3.2.2.trans s2) ld1 ld6 (Or.inl rfl) (fun gd => ⟨⟨by decide, by decide⟩, fun g' => absurd g' (by decide), fun _ => ⟨Or.inr rfl, Or.inr rfl, hK' _ _ ?_⟩⟩) (fun gd => ⟨⟨by decide, by decide⟩, fun _ => ⟨Or.inl rfl, Or.inl rfl, no (by omega) (Or.inl ⟨h3k, Or.inr gd⟩)⟩, fun g' => absurd rfl g'⟩)
            obtain ⟨o1, o2, oj⟩ := cOp_38 (c := c3) (dp := dp) (v := 0)
            refine KT_ok (w := 1) (by rw [oj 3 (by decide) (by decide)]; exact h33) (by rw [oj 4 (by decide) (by decide)]; exact h34) (by decide) ?_
            have cx5 : CX (cOp c3 dp 0) (sset (cOp c3 dp 0) 38 3 ((sk T n (tmr T n a).2.1 + 1 : Nat) : Int)) := CX_set (by decide) (by decide)
            refine IH _ _ (by omega) (by omega) (CT_cx cx5 (CT_row (CT_cx x3 hT2) (cOp_row (by omega)))) (FC_cx cx5 (fun q v1 v2 => by rw [cOp_row (by omega)]; exact FC_cx x3 hF2 q v1 v2)) (sset_self _ _ _ _) (Or.inl (by rw [sset_place _ _ _ (by decide)]; exact o1)) (INV_cx hD cx5 ?_)
            intro b z hs
            obtain ⟨m, am, φ, e, N, S, B, nd, ck, ts, tm, dp', hL, hR⟩ := hI b z hs
            obtain ⟨d1, -, -⟩ := same hL
            subst d1
            have htm := hL.2.2.2.2.2.2.2.2.2.2.2.2.2.2
            have hP1 := pend (sk T n (tmr T n a).2.1) (sk T n (tmr T n a).2.1) 2 x3 hle rfl (by omega) (by omega) hL
            have hP2 := LQ_11 (q := sk T n (tmr T n a).2.1) (a' := sk T n (tmr T n a).2.1) hle rfl (Nat.le_refl _) hP1
            have em : sset (sset (sset (mTm (sset m 0 36 (((tmr T n a).2.1 : Nat) : Int)) (tmr T n a).2.2.1 (tmr T n a).2.2.2.1 (tmr T n a).2.2.2.2) 0 36 ((sk T n (tmr T n a).2.1 : Nat) : Int)) 11 (N - 1) ((tm + 1 : Nat) : Int)) 0 36 ((sk T n (tmr T n a).2.1 : Nat) : Int) = sset (sset (mTm (sset m 0 36 (((tmr T n a).2.1 : Nat) : Int)) (tmr T n a).2.2.1 (tmr T n a).2.2.2.1 (tmr T n a).2.2.2.2) 0 36 ((sk T n (tmr T n a).2.1 : Nat) : Int)) 11 (N - 1) ((tm + 1 : Nat) : Int) := by
              rw [sset_comm _ _ _ (Or.inl (by decide)), sset_twice]
            rw [em] at hP2
            obtain ⟨-, -, -, -, -, -, -, -, -, -, -, ⟨b', lb1, -⟩, -⟩ := LQ_cl hkk hP2
            have hLH := LQ_open (p := sk T n (tmr T n a).2.1 + 1) (k := 2) (o := ((N - 1 : Nat) : Int)) hD (by omega) (by omega) (by rw [sset_self]) gd (Nat.le_refl _) lb1 (Or.inl ⟨h3k, rfl, rfl⟩) hP2
            refine ⟨_, sk T n (tmr T n a).2.1 + 1, ⟨_, _, _, _, _, _, _, _, _, _, hLH⟩, fun Qm hq => hR Qm (fun fu fc hf hf2 => ?_)⟩
            refine turn z m am φ e N S B nd ck ts tm dp' hL _ fc hf2 (fun _ g' => by omega) (fun _ _ => ?_) (fun g' => by rw [hok] at g'; cases g')
            unfold cKK
            rw [if_pos h3k]
            refine LQ_ropens hle hkk lb1 hP2 (fun _ _ => ?_) (fun g' => by rw [hss] at g'; omega)
            rw [hss]
            refine KA_ok ?_ (hq _ ?_)
            · rw [mBk_fld (by decide) (by decide), sset_row _ _ _ (by decide), at_37]; exact hP2.2.2.1
            · have := ham hL; omega
        have hso3 : c3 (D + 1) (φ0 (N0 - 1)) = (if kk = 3 then 6 else 7) := by rw [x3.1 (D + 1) (by omega)]; exact sso
        refine t_sort hD ⟨by omega, by omega⟩ (by rw [x3.1 D (by omega), sD]; exact ⟨by omega, by omega⟩) ⟨by decide, by decide⟩ (fun _ _ => by rw [Int.toNat_natCast, hso3]; split <;> exact ⟨by decide, by decide⟩) (fun _ _ _ g => fin 1 ?_) (fun g => fin 0 ?_)
        · rw [Int.toNat_natCast, hso3] at g
          rcases hkk with k3 | k4
          · exact Or.inl ⟨k3, rfl⟩
          · rw [if_neg (by omega)] at g; omega
        · rw [Int.toNat_natCast, hso3, x3.1 D (by omega), sD] at g
          rcases hkk with k3 | k4
          · rw [if_pos k3] at g; omega
          · exact Or.inr ⟨k4, rfl⟩
end HCLOOP
