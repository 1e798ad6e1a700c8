/-! ===== pure layer: flags, meters, goals, endings, read by both ===== -/
section HSTMT
variable {T : Nat → Int} {n D a a' am : Nat} {z c c' m m' : St} {φ : Nat → Nat} {e : Nat → Int} {N S B nd ck ts tm dp b : Nat} {R : St → St → Prop} {Q : St → Int → Prop} {w x y f w' x' y' : Int}
theorem H_flag {c0 : St} {K : St → Int → Prop} (h : HC R T n D c0 Q c a (fun τ r => (r = 0 ∨ r = 1) ∧ K τ r)) (h1 : T a = 43 ∨ T a = 45) : f_X6_takesInBlock (T a) c (fun τ r => (r = 0 ∨ r = 1) ∧ K τ r) := by
  obtain ⟨hD, hT, hF, hI, hs, ha, h3, h4, h5, h6, HQ, IH, hK1, hK0⟩ := h
  have hn := hT.1
  have key : ∀ so : Int, ((T a = 43 ∧ so = 1) ∨ (T a = 45 ∧ so = 2)) → f_X6_beginsStatement so 5 c (fun τ r => (r = 0 ∨ r = 1) ∧ ((r = 0 ∨ r = 1) ∧ K τ r)) := by
    intro so hso
    unfold f_X6_beginsStatement
    intro c0' e0
    refine t_await ⟨Or.inr rfl, Or.inr rfl, hK1 _ ?_⟩
    have x1 : CX c (sset c0' 38 1 5) := by rw [e0]; exact CX_tr (CX_set (by decide) (by decide)) (CX_set (by decide) (by decide))
    refine KT_ok (w := 1) (by rw [sset_place _ _ _ (by decide), e0, sset_place _ _ _ (by decide)]; exact h3) (by rw [sset_place _ _ _ (by decide), e0, sset_place _ _ _ (by decide)]; exact h4) (by decide) ?_
    have x2 : CX c (sset (sset c0' 38 1 5) 38 3 ((a + 1 : Nat) : Int)) := CX_tr x1 (CX_set (by decide) (by decide))
    have v1 : sset (sset c0' 38 1 5) 38 3 ((a + 1 : Nat) : Int) 38 1 = 5 := by rw [sset_place _ _ _ (by decide), sset_self]
    have v7 : sset (sset c0' 38 1 5) 38 3 ((a + 1 : Nat) : Int) 38 7 = so := by rw [sset_place _ _ _ (by decide), sset_place _ _ _ (by decide), e0, sset_self]
    have v3 : sset (sset c0' 38 1 5) 38 3 ((a + 1 : Nat) : Int) 38 3 = ((a + 1 : Nat) : Int) := sset_self _ _ _ _
    generalize sset (sset c0' 38 1 5) 38 3 ((a + 1 : Nat) : Int) = c2 at x2 v1 v7 v3
    have bad : ∀ c', (ch T n (sk T n (a + 1)) < 97 ∨ 102 < ch T n (sk T n (a + 1))) → PR R T n c' ((sk T n (a + 1) : Nat) : Int) := fun c' hb => PR_stmt (by have := hT.1; have := sk_le (T := T) (n := n) (i := a + 1) (by omega); omega) hI hs ha (by omega) (Or.inl (by omega)) (fun z m φ e N S B nd ck ts tm dp hL hB Km hd => r_flag hL.1 hB ha hL.2.1 hL.2.2.1 h1 (fun g1 g2 => by omega) (fun _ => hd))
    refine c_next (CT_cx x2 hT) (by omega) v3 (fun hen c3 hc3 h33 => ?_) (fun hlt c3 hc3 h33 h34 _ _ K' hK' => ?_)
    · have x3 := CX_tr x2 (CX_ce hc3)
      obtain ⟨dp, d1, d2, d3⟩ := INV_2 (CT_cx x3 hT) (INV_cx hD x3 hI)
      have w1 : c3 38 1 = 5 := by rw [hc3.2 1 (by omega)]; exact v1
      refine j100_no (by rw [d1]; exact ⟨by omega, by omega⟩) (by rw [w1]; exact ⟨by decide, by decide⟩) (by rw [w1]; decide) (HQ _ _ (FC_cx x3 hF) ?_)
      have := bad c3 (by rw [hen, ch_ge (by omega)]; omega)
      rw [hen] at this; exact this
    · have x3 := CX_tr x2 (CX_ce hc3)
      have w1 : c3 38 1 = 5 := by rw [hc3.2 1 (by omega)]; exact v1
      have w7 : c3 38 7 = so := by rw [hc3.2 7 (by omega)]; exact v7
      have hr := hT.2.1 (sk T n (a + 1))
      have hge := sk_ge (T := T) (n := n) (i := a + 1) (by omega)
      have hch := ch_lt (T := T) hlt
      have hI3 := INV_cx hD x3 hI
      refine g_5 w1 (t_isFlag ⟨by omega, by omega⟩ (fun q1 q2 => ⟨⟨by decide, by decide⟩, fun g => absurd g (by decide), fun _ => ?_⟩) (fun q => ⟨⟨by decide, by decide⟩, fun _ => hK' _ _ (KT_no h33 (HQ _ _ (FC_cx x3 hF) (bad c3 (by omega)))), fun g => absurd rfl g⟩))
      rw [w7]
      refine t_add hD (INV_CB hD (CT_cx x3 hT) (Nat.le_of_lt ha) hI3) ⟨⟨by decide, by decide⟩, fun g => absurd g (by decide), fun _ => hK' _ _ ?_⟩
      refine H_end (a := a) (w1 := 1) hD (CT_cx x3 hT) (FC_cx x3 hF) h33 h34 (by decide) (by omega) (by omega) IH ?_
      refine INV_add (w := 1) (x := T (sk T n (a + 1)) - 97) (y := if T a = 43 then 1 else 0) (f := -1) hD hI3 hs ha (by omega) (by omega) (by omega) (Or.inl (by omega)) (by decide) (by decide) (fun g => absurd g (by decide)) (fun z m φ e N S B nd ck ts tm dp b hL b1 b3 y1 y2 cn _ => ⟨?_, mSt (sset m 0 36 ((sk T n (a + 1) + 1 : Nat) : Int)) 1 (T (sk T n (a + 1)) - 97) (if T a = 43 then 1 else 0), ?_, ?_, ?_, ?_, ?_, ?_, ?_⟩)
      · right; left
        refine ⟨rfl, by omega, by omega, rfl, ?_⟩
        rcases hso with ⟨g1, g2⟩ | ⟨g1, g2⟩
        · left; rw [if_pos g1]; exact ⟨rfl, g2⟩
        · right; rw [if_neg (by omega)]; exact ⟨rfl, g2⟩
      · exact AM_rq (AM_st (m := sset m 0 36 ((sk T n (a + 1) + 1 : Nat) : Int)) (by rw [at_x (by decide)]; exact y1) (by rw [at_x (by decide), sset_row _ _ _ (by decide)]; exact b3) (by rw [at_x (by decide)]; exact y2) (by decide)) RQ_0 RQ_rfl
      · exact PS_st (PS_at hL.1 _)
      · rw [mSt_fld (by decide), sset_self]
      · rw [mSt_fld (by decide), at_37]; exact hL.2.2.1
      · intro j j1 j2; rw [mSt_fld j1, at_x j2]
      · rw [mSt_15, at_x (by decide)]
      · intro Km hKm
        exact r_flag hL.1 (LH_MB (Nat.le_of_lt ha) hL) ha hL.2.1 hL.2.2.1 h1 (fun _ _ => by rw [hch]; exact hKm) (fun g => by omega)
  rcases h1 with g | g
  · have := key 1 (Or.inl ⟨g, rfl⟩)
    rw [g]; exact ib_43 this
  · have := key 2 (Or.inr ⟨g, rfl⟩)
    rw [g]; exact ib_45 this
theorem H_ending {c0 : St} {K : St → Int → Prop} (h : HC R T n D c0 Q c a (fun τ r => (r = 0 ∨ r = 1) ∧ K τ r)) (h1 : T a = 46) : f_X6_takesInBlock (T a) c (fun τ r => (r = 0 ∨ r = 1) ∧ K τ r) := by
  obtain ⟨hD, hT, hF, hI, hs, ha, h3, h4, h5, h6, HQ, IH, hK1, hK0⟩ := h
  have hn := hT.1
  rw [h1]
  refine ib_46 (t_await ⟨Or.inr rfl, hK1 _ ?_⟩)
  refine KT_ok (w := 1) (by rw [sset_place _ _ _ (by decide)]; exact h3) (by rw [sset_place _ _ _ (by decide)]; exact h4) (by decide) ?_
  have x2 : CX c (sset (sset c 38 1 17) 38 3 ((a + 1 : Nat) : Int)) := CX_tr (CX_set (by decide) (by decide)) (CX_set (by decide) (by decide))
  have v1 : sset (sset c 38 1 17) 38 3 ((a + 1 : Nat) : Int) 38 1 = 17 := by rw [sset_place _ _ _ (by decide), sset_self]
  have v3 : sset (sset c 38 1 17) 38 3 ((a + 1 : Nat) : Int) 38 3 = ((a + 1 : Nat) : Int) := sset_self _ _ _ _
  generalize sset (sset c 38 1 17) 38 3 ((a + 1 : Nat) : Int) = c2 at x2 v1 v3
  have bad : ∀ c', (ch T n (sk T n (a + 1)) < 48 ∨ 57 < ch T n (sk T n (a + 1))) → PR R T n c' ((sk T n (a + 1) : Nat) : Int) := fun c' hb => PR_stmt (by have := hT.1; have := sk_le (T := T) (n := n) (i := a + 1) (by omega); omega) hI hs ha (by omega) (Or.inl (by omega)) (fun z m φ e N S B nd ck ts tm dp hL hB Km hd => r_ending hL.1 hB ha hL.2.1 hL.2.2.1 (by omega) (by omega) (by omega) (by omega) (fun _ g1 g2 => by omega) (fun g => absurd h1 g) (fun _ _ => hd))
  refine c_next (CT_cx x2 hT) (by omega) v3 (fun hen c3 hc3 h33 => ?_) (fun hlt c3 hc3 h33 h34 _ _ K' hK' => ?_)
  · have x3 := CX_tr x2 (CX_ce hc3)
    obtain ⟨dp, d1, d2, d3⟩ := INV_2 (CT_cx x3 hT) (INV_cx hD x3 hI)
    have w1 : c3 38 1 = 17 := by rw [hc3.2 1 (by omega)]; exact v1
    refine j100_no (by rw [d1]; exact ⟨by omega, by omega⟩) (by rw [w1]; exact ⟨by decide, by decide⟩) (by rw [w1]; decide) (HQ _ _ (FC_cx x3 hF) ?_)
    have := bad c3 (by rw [hen, ch_ge (by omega)]; omega)
    rw [hen] at this; exact this
  · have x3 := CX_tr x2 (CX_ce hc3)
    have w1 : c3 38 1 = 17 := by rw [hc3.2 1 (by omega)]; exact v1
    have hr := hT.2.1 (sk T n (a + 1))
    have hge := sk_ge (T := T) (n := n) (i := a + 1) (by omega)
    have hch := ch_lt (T := T) hlt
    have hI3 := INV_cx hD x3 hI
    refine g_17 w1 (t_isDigit ⟨by omega, by omega⟩ (fun q1 q2 => ⟨⟨by decide, by decide⟩, fun g => absurd g (by decide), fun _ => ?_⟩) (fun q => ⟨⟨by decide, by decide⟩, fun _ => hK' _ _ (KT_no h33 (HQ _ _ (FC_cx x3 hF) (bad c3 (by omega)))), fun g => absurd rfl g⟩))
    refine t_add hD (INV_CB hD (CT_cx x3 hT) (Nat.le_of_lt ha) hI3) ⟨⟨by decide, by decide⟩, fun g => absurd g (by decide), fun _ => hK' _ _ ?_⟩
    refine H_end (a := a) (w1 := 1) hD (CT_cx x3 hT) (FC_cx x3 hF) h33 h34 (by decide) (by omega) (by omega) IH ?_
    refine INV_add (w := 7) (x := T (sk T n (a + 1)) - 48) (y := 0) (f := -1) hD hI3 hs ha (by omega) (by omega) (by omega) (Or.inl (by omega)) (by decide) (by decide) (fun g => absurd g (by decide)) (fun z m φ e N S B nd ck ts tm dp b hL b1 b3 y1 y2 cn _ => ⟨?_, mSt (sset m 0 36 ((sk T n (a + 1) + 1 : Nat) : Int)) 7 (T (sk T n (a + 1)) - 48) 0, ?_, ?_, ?_, ?_, ?_, ?_, ?_⟩)
    · right; right; right; right; right; right; right
      exact ⟨rfl, rfl, rfl, by omega, by omega⟩
    · exact AM_rq (AM_st (m := sset m 0 36 ((sk T n (a + 1) + 1 : Nat) : Int)) (by rw [at_x (by decide)]; exact y1) (by rw [at_x (by decide), sset_row _ _ _ (by decide)]; exact b3) (by rw [at_x (by decide)]; exact y2) (by decide)) RQ_0 RQ_rfl
    · exact PS_st (PS_at hL.1 _)
    · rw [mSt_fld (by decide), sset_self]
    · rw [mSt_fld (by decide), at_37]; exact hL.2.2.1
    · intro j j1 j2; rw [mSt_fld j1, at_x j2]
    · rw [mSt_15, at_x (by decide)]
    · intro Km hKm
      exact r_ending hL.1 (LH_MB (Nat.le_of_lt ha) hL) ha hL.2.1 hL.2.2.1 (by omega) (by omega) (by omega) (by omega) (fun _ _ _ => by rw [hch]; exact hKm) (fun g => absurd h1 g) (fun _ g => by omega)
theorem SY_43 (hD : D = 2 ∨ D = 20) {v : Int} (h : SY c m D φ e N S B nd ck ts tm dp) : SY (sset c 43 S v) m D φ e N S B nd ck ts tm dp := by
  have cr : ∀ q, q ≠ 43 → sset c 43 S v q = c q := fun q hq => sset_row _ _ _ hq
  obtain ⟨hP, hYA, hYB, hYC, hYD, hYE, hYF, hYS, hYN, hYV, hYO, hYL, hYK, hYG, hYT, hYM, hYH, hYQ, hYX, hYU, hYZ⟩ := h
  refine ⟨hP, hYA, hYB, hYC, hYD, hYE, hYF, hYS, ?_, ?_, ?_, ?_, ?_, fun s hs h5 => ?_, ?_, ?_, ?_, ?_, ?_, hYU, ?_⟩
  · unfold YN; rw [cr (D + 4) (by omega), cr (D + 5) (by omega), cr (D + 6) (by omega)]; exact hYN
  · unfold YV; rw [cr (D + 14) (by omega)]; exact hYV
  · unfold YO; rw [cr 42 (by omega)]; exact hYO
  · unfold YL; rw [cr 40 (by omega), cr 41 (by omega)]; exact hYL
  · unfold YK; rw [cr (D + 1) (by omega), cr (D + 2) (by omega), cr (D + 3) (by omega)]; exact hYK
  · rw [sset_place _ _ _ (by have := hP.1 s hs; omega)]; exact hYG s hs h5
  · unfold YT; rw [cr (D + 7) (by omega), cr (D + 8) (by omega), cr (D + 10) (by omega), cr (D + 11) (by omega), cr (D + 12) (by omega)]; exact hYT
  · unfold YM; rw [cr 39 (by omega), cr (D + 13) (by omega)]; exact hYM
  · unfold YH; rw [cr D (by omega)]; exact hYH
  · unfold YQ; rw [cr (D + 15) (by omega), cr (D + 16) (by omega)]; exact hYQ
  · unfold YX; rw [cr (D + 1) (by omega), cr (D + 2) (by omega), cr (D + 4) (by omega), cr 42 (by omega)]; exact hYX
  · unfold YZ; rw [cr (D + 4) (by omega), cr 42 (by omega)]; exact hYZ
theorem INV_43 (hD : D = 2 ∨ D = 20) {v : Int} (hI : INV T n D c a) : INV T n D (sset c 43 (c D 0).toNat v) a := by
  intro b z hs
  obtain ⟨m, am, ⟨φ, e, N, S, B, nd, ck, ts, tm, dp, h1, h2, h3, h4, h5, h6, h7, h8, h9, h10, h11, h12, h13⟩, hR⟩ := hI b z hs
  have y8 := h6.2.2.2.2.2.2.2.1
  refine ⟨m, am, ⟨φ, e, N, S, B, nd, ck, ts, tm, dp, h1, h2, h3, h4, h5, ?_, ?_, h8, ?_, h10, h11, h12, h13⟩, hR⟩
  · unfold YY at *
    rw [sset_row (c' := D) _ _ _ (by omega), sset_row (c' := D + 9) _ _ _ (by omega), sset_row (c' := 38) _ _ _ (by omega)]
    exact h6
  · rw [sset_row _ _ _ (by decide)]; exact h7
  · rw [y8, Int.toNat_natCast]; exact SY_43 hD h9
theorem H_go {c0 : St} {K : St → Int → Prop} (h : HC R T n D c0 Q c a (fun τ r => (r = 0 ∨ r = 1) ∧ K τ r)) (h1 : T a = 62) : f_X6_takesInBlock (T a) c (fun τ r => (r = 0 ∨ r = 1) ∧ K τ r) := by
  obtain ⟨hD, hT, hF, hI, hs, ha, h3, h4, h5, h6, HQ, IH, hK1, hK0⟩ := h
  have hn := hT.1
  rw [h1]
  refine ib_62 (t_await ⟨Or.inr rfl, hK1 _ ?_⟩)
  refine KT_ok (w := 1) (by rw [sset_place _ _ _ (by decide)]; exact h3) (by rw [sset_place _ _ _ (by decide)]; exact h4) (by decide) ?_
  have x2 : CX c (sset (sset c 38 1 16) 38 3 ((a + 1 : Nat) : Int)) := CX_tr (CX_set (by decide) (by decide)) (CX_set (by decide) (by decide))
  have v1 : sset (sset c 38 1 16) 38 3 ((a + 1 : Nat) : Int) 38 1 = 16 := by rw [sset_place _ _ _ (by decide), sset_self]
  have v3 : sset (sset c 38 1 16) 38 3 ((a + 1 : Nat) : Int) 38 3 = ((a + 1 : Nat) : Int) := sset_self _ _ _ _
  generalize sset (sset c 38 1 16) 38 3 ((a + 1 : Nat) : Int) = c2 at x2 v1 v3
  have bad : ∀ c', (ch T n (sk T n (a + 1)) < 65 ∨ 76 < ch T n (sk T n (a + 1))) → PR R T n c' ((sk T n (a + 1) : Nat) : Int) := fun c' hb => PR_stmt (by have := hT.1; have := sk_le (T := T) (n := n) (i := a + 1) (by omega); omega) hI hs ha (by omega) (Or.inl (by omega)) (fun z m φ e N S B nd ck ts tm dp hL hB Km hd => r_go hL.1 hB ha hL.2.1 hL.2.2.1 h1 (fun g1 g2 => by omega) (fun _ => hd))
  refine c_next (CT_cx x2 hT) (by omega) v3 (fun hen c3 hc3 h33 => ?_) (fun hlt c3 hc3 h33 h34 _ _ K' hK' => ?_)
  · have x3 := CX_tr x2 (CX_ce hc3)
    obtain ⟨dp, d1, d2, d3⟩ := INV_2 (CT_cx x3 hT) (INV_cx hD x3 hI)
    have w1 : c3 38 1 = 16 := by rw [hc3.2 1 (by omega)]; exact v1
    refine j100_no (by rw [d1]; exact ⟨by omega, by omega⟩) (by rw [w1]; exact ⟨by decide, by decide⟩) (by rw [w1]; decide) (HQ _ _ (FC_cx x3 hF) ?_)
    have := bad c3 (by rw [hen, ch_ge (by omega)]; omega)
    rw [hen] at this; exact this
  · have x3 := CX_tr x2 (CX_ce hc3)
    have w1 : c3 38 1 = 16 := by rw [hc3.2 1 (by omega)]; exact v1
    have hr := hT.2.1 (sk T n (a + 1))
    have hge := sk_ge (T := T) (n := n) (i := a + 1) (by omega)
    have hch := ch_lt (T := T) hlt
    have hI3 := INV_cx hD x3 hI
    have hCB := INV_CB hD (CT_cx x3 hT) (Nat.le_of_lt ha) hI3
    refine g_16 w1 (t_isName ⟨by omega, by omega⟩ (fun q1 q2 => ⟨⟨by decide, by decide⟩, fun g => absurd g (by decide), fun _ => ?_⟩) (fun q => ⟨⟨by decide, by decide⟩, fun _ => hK' _ _ (KT_no h33 (HQ _ _ (FC_cx x3 hF) (bad c3 (by omega)))), fun g => absurd rfl g⟩))
    unfold f_X6_addGoal
    rw [hCB.1, Int.toNat_natCast, h33]
    refine ⟨hD, t_put ia43 (by decide) hCB.2.1 hCB.2.2.1 ?_⟩
    have hI4 := INV_43 (v := ((sk T n (a + 1) : Nat) : Int)) hD hI3
    have hT4 : CT T n (sset c3 43 (c3 D 0).toNat ((sk T n (a + 1) : Nat) : Int)) := CT_row (CT_cx x3 hT) (sset_row _ _ _ (by decide))
    have hF4 : FC D c0 (sset c3 43 (c3 D 0).toNat ((sk T n (a + 1) : Nat) : Int)) := fun q u1 u2 => by rw [sset_row _ _ _ (by omega)]; exact FC_cx x3 hF q u1 u2
    refine t_add hD (INV_CB hD hT4 (Nat.le_of_lt ha) hI4) ⟨Or.inr rfl, ⟨by decide, by decide⟩, fun g => absurd g (by decide), fun _ => hK' _ _ ?_⟩
    refine H_end (a := a) (w1 := 1) hD hT4 hF4 (by rw [sset_row _ _ _ (by decide)]; exact h33) (by rw [sset_row _ _ _ (by decide)]; exact h34) (by decide) (by omega) (by omega) IH ?_
    refine INV_add (w := 5) (x := T (sk T n (a + 1)) - 65) (y := ((sk T n (a + 1) : Nat) : Int)) (f := -1) hD hI4 hs ha (by omega) (by omega) (by omega) (Or.inl (by omega)) (by decide) (by decide) (fun _ S hS => ?_) (fun z m φ e N S B nd ck ts tm dp b hL b1 b3 y1 y2 cn _ => ⟨?_, mSt (sset m 0 36 ((sk T n (a + 1) + 1 : Nat) : Int)) 5 (T (sk T n (a + 1)) - 65) ((sk T n (a + 1) : Nat) : Int), ?_, ?_, ?_, ?_, ?_, ?_, ?_⟩)
    · rw [sset_row _ _ _ (by omega)] at hS
      rw [hS, Int.toNat_natCast, sset_self]
    · right; right; right; right; right; left
      exact ⟨rfl, rfl, rfl, by omega, by omega, by omega, by omega⟩
    · exact AM_rq (AM_st (m := sset m 0 36 ((sk T n (a + 1) + 1 : Nat) : Int)) (by rw [at_x (by decide)]; exact y1) (by rw [at_x (by decide), sset_row _ _ _ (by decide)]; exact b3) (by rw [at_x (by decide)]; exact y2) (by decide)) RQ_0 RQ_rfl
    · exact PS_st (PS_at hL.1 _)
    · rw [mSt_fld (by decide), sset_self]
    · rw [mSt_fld (by decide), at_37]; exact hL.2.2.1
    · intro j j1 j2; rw [mSt_fld j1, at_x j2]
    · rw [mSt_15, at_x (by decide)]
    · intro Km hKm
      exact r_go hL.1 (LH_MB (Nat.le_of_lt ha) hL) ha hL.2.1 hL.2.2.1 h1 (fun _ _ => by rw [hch]; exact hKm) (fun g => by omega)
theorem H_meter {c0 : St} {K : St → Int → Prop} (h : HC R T n D c0 Q c a (fun τ r => (r = 0 ∨ r = 1) ∧ K τ r)) (h1 : 120 ≤ T a) (h2 : T a ≤ 122) : f_X6_takesInBlock (T a) c (fun τ r => (r = 0 ∨ r = 1) ∧ K τ r) := by
  obtain ⟨hD, hT, hF, hI, hs, ha, h3, h4, h5, h6, HQ, IH, hK1, hK0⟩ := h
  have hn := hT.1
  refine ib_x ⟨by omega, by omega⟩ (by omega) (by omega) (by omega) (by omega) (by omega) (by omega) (by omega) (by omega) (by omega) ?_
  refine t_isMeter ⟨by omega, by omega⟩ (fun _ _ => ⟨⟨by decide, by decide⟩, fun g => absurd g (by decide), fun _ => ?_⟩) (fun q => by omega)
  unfold f_X6_beginsMeter
  intro c0' e0
  refine t_await ⟨Or.inr rfl, Or.inr rfl, hK1 _ ?_⟩
  refine KT_ok (w := 1) (by rw [sset_place _ _ _ (by decide), e0, sset_place _ _ _ (by decide)]; exact h3) (by rw [sset_place _ _ _ (by decide), e0, sset_place _ _ _ (by decide)]; exact h4) (by decide) ?_
  have x2 : CX c (sset (sset c0' 38 1 6) 38 3 ((a + 1 : Nat) : Int)) := by rw [e0]; exact CX_tr (CX_tr (CX_set (by decide) (by decide)) (CX_set (by decide) (by decide))) (CX_set (by decide) (by decide))
  have v1 : sset (sset c0' 38 1 6) 38 3 ((a + 1 : Nat) : Int) 38 1 = 6 := by rw [sset_place _ _ _ (by decide), sset_self]
  have v8 : sset (sset c0' 38 1 6) 38 3 ((a + 1 : Nat) : Int) 38 8 = T a - 120 := by rw [sset_place _ _ _ (by decide), sset_place _ _ _ (by decide), e0, sset_self]
  have v3 : sset (sset c0' 38 1 6) 38 3 ((a + 1 : Nat) : Int) 38 3 = ((a + 1 : Nat) : Int) := sset_self _ _ _ _
  generalize sset (sset c0' 38 1 6) 38 3 ((a + 1 : Nat) : Int) = c2 at x2 v1 v8 v3
  have bad1 : ∀ c', (ch T n (sk T n (a + 1)) ≠ 61 ∧ ch T n (sk T n (a + 1)) ≠ 43 ∧ ch T n (sk T n (a + 1)) ≠ 45) → PR R T n c' ((sk T n (a + 1) : Nat) : Int) := fun c' hb => PR_stmt (by have := hT.1; have := sk_le (T := T) (n := n) (i := a + 1) (by omega); omega) hI hs ha (by omega) (Or.inl (by omega)) (fun z m φ e N S B nd ck ts tm dp hL hB Km hd => r_meter hL.1 hB ha hL.2.1 hL.2.2.1 h1 h2 (fun s g1 g2 => by omega) (fun _ => hd) (fun g => by omega))
  refine c_next (CT_cx x2 hT) (by omega) v3 (fun hen c3 hc3 h33 => ?_) (fun hlt c3 hc3 h33 h34 _ _ K' hK' => ?_)
  · have x3 := CX_tr x2 (CX_ce hc3)
    obtain ⟨dp, d1, d2, d3⟩ := INV_2 (CT_cx x3 hT) (INV_cx hD x3 hI)
    have w1 : c3 38 1 = 6 := by rw [hc3.2 1 (by omega)]; exact v1
    refine j100_no (by rw [d1]; exact ⟨by omega, by omega⟩) (by rw [w1]; exact ⟨by decide, by decide⟩) (by rw [w1]; decide) (HQ _ _ (FC_cx x3 hF) ?_)
    have := bad1 c3 (by rw [hen, ch_ge (by omega)]; omega)
    rw [hen] at this; exact this
  · have x3 := CX_tr x2 (CX_ce hc3)
    have w1 : c3 38 1 = 6 := by rw [hc3.2 1 (by omega)]; exact v1
    have w8 : c3 38 8 = T a - 120 := by rw [hc3.2 8 (by omega)]; exact v8
    have hr := hT.2.1 (sk T n (a + 1))
    have hge := sk_ge (T := T) (n := n) (i := a + 1) (by omega)
    have hch := ch_lt (T := T) hlt
    -- the sign
    have sign : ∀ sg so : Int, T (sk T n (a + 1)) = sg → ((sg = 61 ∧ so = 3) ∨ (sg = 43 ∧ so = 4) ∨ (sg = 45 ∧ so = 5)) → f_X6_beginsStatement so 7 c3 (fun τ r => (r = 0 ∨ r = 1) ∧ ((r = 0 ∨ r = 1) ∧ K' τ r)) := by
      intro sg so hsg hso
      unfold f_X6_beginsStatement
      intro c4 e4
      refine t_await ⟨Or.inr rfl, Or.inr rfl, Or.inr rfl, hK' _ _ ?_⟩
      refine KT_ok (w := 1) (by rw [sset_place _ _ _ (by decide), e4, sset_place _ _ _ (by decide)]; exact h33) (by rw [sset_place _ _ _ (by decide), e4, sset_place _ _ _ (by decide)]; exact h34) (by decide) ?_
      have x5 : CX c (sset (sset c4 38 1 7) 38 3 ((sk T n (a + 1) + 1 : Nat) : Int)) := CX_tr x3 (by rw [e4]; exact CX_tr (CX_tr (CX_set (by decide) (by decide)) (CX_set (by decide) (by decide))) (CX_set (by decide) (by decide)))
      have u1 : sset (sset c4 38 1 7) 38 3 ((sk T n (a + 1) + 1 : Nat) : Int) 38 1 = 7 := by rw [sset_place _ _ _ (by decide), sset_self]
      have u7 : sset (sset c4 38 1 7) 38 3 ((sk T n (a + 1) + 1 : Nat) : Int) 38 7 = so := by rw [sset_place _ _ _ (by decide), sset_place _ _ _ (by decide), e4, sset_self]
      have u8 : sset (sset c4 38 1 7) 38 3 ((sk T n (a + 1) + 1 : Nat) : Int) 38 8 = T a - 120 := by rw [sset_place _ _ _ (by decide), sset_place _ _ _ (by decide), e4, sset_place _ _ _ (by decide)]; exact w8
      have u3 : sset (sset c4 38 1 7) 38 3 ((sk T n (a + 1) + 1 : Nat) : Int) 38 3 = ((sk T n (a + 1) + 1 : Nat) : Int) := sset_self _ _ _ _
      generalize sset (sset c4 38 1 7) 38 3 ((sk T n (a + 1) + 1 : Nat) : Int) = c5 at x5 u1 u7 u8 u3
      have bad2 : ∀ c', (ch T n (sk T n (sk T n (a + 1) + 1)) < 48 ∨ 57 < ch T n (sk T n (sk T n (a + 1) + 1))) → PR R T n c' ((sk T n (sk T n (a + 1) + 1) : Nat) : Int) := fun c' hb => PR_stmt (by have := hT.1; have := sk_le (T := T) (n := n) (i := sk T n (a + 1) + 1) (by omega); omega) hI hs ha (by omega) (Or.inl (by omega)) (fun z m φ e N S B nd ck ts tm dp hL hB Km hd => r_meter hL.1 hB ha hL.2.1 hL.2.2.1 h1 h2 (fun s g1 g2 g3 g4 => by omega) (fun g => by omega) (fun _ _ => hd))
      refine c_next (CT_cx x5 hT) (by omega) u3 (fun hen c6 hc6 h63 => ?_) (fun hlt2 c6 hc6 h63 h64 _ _ K2 hK2 => ?_)
      · have x6 := CX_tr x5 (CX_ce hc6)
        obtain ⟨dp, d1, d2, d3⟩ := INV_2 (CT_cx x6 hT) (INV_cx hD x6 hI)
        have q1 : c6 38 1 = 7 := by rw [hc6.2 1 (by omega)]; exact u1
        refine j100_no (by rw [d1]; exact ⟨by omega, by omega⟩) (by rw [q1]; exact ⟨by decide, by decide⟩) (by rw [q1]; decide) (HQ _ _ (FC_cx x6 hF) ?_)
        have := bad2 c6 (by rw [hen, ch_ge (by omega)]; omega)
        rw [hen] at this; exact this
      · have x6 := CX_tr x5 (CX_ce hc6)
        have q1 : c6 38 1 = 7 := by rw [hc6.2 1 (by omega)]; exact u1
        have q7 : c6 38 7 = so := by rw [hc6.2 7 (by omega)]; exact u7
        have q8 : c6 38 8 = T a - 120 := by rw [hc6.2 8 (by omega)]; exact u8
        have hr2 := hT.2.1 (sk T n (sk T n (a + 1) + 1))
        have hge2 := sk_ge (T := T) (n := n) (i := sk T n (a + 1) + 1) (by omega)
        have hch2 := ch_lt (T := T) hlt2
        have hI6 := INV_cx hD x6 hI
        refine g_7 q1 (t_isDigit ⟨by omega, by omega⟩ (fun p1 p2 => ⟨⟨by decide, by decide⟩, fun g => absurd g (by decide), fun _ => ?_⟩) (fun q => ⟨⟨by decide, by decide⟩, fun _ => hK2 _ _ (KT_no h63 (HQ _ _ (FC_cx x6 hF) (bad2 c6 (by omega)))), fun g => absurd rfl g⟩))
        rw [q7, q8]
        refine t_add hD (INV_CB hD (CT_cx x6 hT) (Nat.le_of_lt ha) hI6) ⟨⟨by decide, by decide⟩, fun g => absurd g (by decide), fun _ => hK2 _ _ ?_⟩
        refine H_end (a := a) (w1 := 1) hD (CT_cx x6 hT) (FC_cx x6 hF) h63 h64 (by decide) (by omega) (by omega) IH ?_
        refine INV_add (w := 2) (x := T a - 120) (y := T (sk T n (sk T n (a + 1) + 1)) - 48) (f := sg) hD hI6 hs ha (by omega) (by omega) (by omega) (Or.inl (by omega)) (by decide) (by decide) (fun g => absurd g (by decide)) (fun z m φ e N S B nd ck ts tm dp b hL b1 b3 y1 y2 cn _ => ⟨?_, sset (mSt (sset m 0 36 ((sk T n (sk T n (a + 1) + 1) + 1 : Nat) : Int)) 2 (T a - 120) (T (sk T n (sk T n (a + 1) + 1)) - 48)) 8 N sg, ?_, ?_, ?_, ?_, ?_, ?_, ?_⟩)
        · right; right; left
          exact ⟨rfl, by omega, by omega, rfl, by omega, by omega, rfl, hso⟩
        · exact AM_f (AM_rq (AM_st (m := sset m 0 36 ((sk T n (sk T n (a + 1) + 1) + 1 : Nat) : Int)) (by rw [at_x (by decide)]; exact y1) (by rw [at_x (by decide), sset_row _ _ _ (by decide)]; exact b3) (by rw [at_x (by decide)]; exact y2) (by decide)) RQ_0 RQ_rfl)
        · exact PS_cell (PS_st (PS_at hL.1 _)) _ _ _ (by decide) (by decide)
        · rw [sset_row _ _ _ (by decide), mSt_fld (by decide), sset_self]
        · rw [sset_row _ _ _ (by decide), mSt_fld (by decide), at_37]; exact hL.2.2.1
        · intro j j1 j2; rw [sset_row _ _ _ (by decide), mSt_fld j1, at_x j2]
        · rw [sset_row _ _ _ (by decide), mSt_15, at_x (by decide)]
        · intro Km hKm
          refine r_meter hL.1 (LH_MB (Nat.le_of_lt ha) hL) ha hL.2.1 hL.2.2.1 h1 h2 (fun s g1 g2 _ _ => ?_) (fun g => by omega) (fun _ g => by omega)
          rw [hch2, y1, Int.toNat_natCast, ← g1, hch, hsg]
          exact hKm
    refine g_6 w1 ?_
    unfold f_X6_takesMeterSign
    refine ⟨⟨by omega, by omega⟩, fun g => sign 43 4 g (by omega), fun g => sign 45 5 g (by omega), fun g => sign 61 3 g (by omega), fun g1 g2 g3 => ⟨Or.inl rfl, hK' _ _ (KT_no h33 (HQ _ _ (FC_cx x3 hF) (bad1 c3 (by omega))))⟩⟩
/-- a byte that begins nothing -/
theorem H_bad {c0 : St} {K : St → Int → Prop} (h : HC R T n D c0 Q c a (fun τ r => (r = 0 ∨ r = 1) ∧ K τ r)) (hc1 : T a < 48 ∨ 57 < T a) (hc2 : T a < 120 ∨ 122 < T a) (hc3 : T a ≠ 43 ∧ T a ≠ 45 ∧ T a ≠ 63 ∧ T a ≠ 91 ∧ T a ≠ 62 ∧ T a ≠ 60) (hc4 : T a ≠ 46 ∧ T a ≠ 125) (hc5 : T a = 61 → c 38 2 ≠ 1) : f_X6_takesInBlock (T a) c (fun τ r => (r = 0 ∨ r = 1) ∧ K τ r) := by
  obtain ⟨hD, hT, hF, hI, hs, ha, h3, h4, h5, h6, HQ, IH, hK1, hK0⟩ := h
  have hr := hT.2.1 a
  have hb : T a ≠ 32 := by
    have := sk_nb (T := T) (Nat.le_of_lt ha) (by rw [hs]; exact ha)
    rw [hs] at this; exact this
  have bad : PR R T n c (a : Int) := PR_stmt (by have := hT.1; omega) hI hs ha hc4.2 (by by_cases g : T a = 61; exact Or.inr (hc5 g); exact Or.inl g) (fun z m φ e N S B nd ck ts tm dp hL hB Km hd => r_ending hL.1 hB ha hL.2.1 hL.2.2.1 hb hc1 hc2 hc3 (fun g => absurd g hc4.1) (fun _ => hd) (fun g => absurd g hc4.1))
  have no := hK0 c (KT_no h3 (HQ c _ hF bad))
  by_cases g : T a = 61
  · have g2 := hc5 g
    obtain ⟨dp, d1, d2, d3⟩ := INV_2 hT hI
    rw [g]
    refine ib_61 ⟨by rw [d1]; exact ⟨by omega, by omega⟩, fun _ => no, fun u => absurd u g2⟩
  · refine ib_x ⟨by omega, by omega⟩ (by omega) (by omega) (by omega) (by omega) (by omega) (by omega) (by omega) (by omega) (by omega) ?_
    refine t_isMeter ⟨by omega, by omega⟩ (fun q1 q2 => by omega) (fun _ => ⟨⟨by decide, by decide⟩, fun _ => ?_, fun g => absurd rfl g⟩)
    refine t_isDigit ⟨by omega, by omega⟩ (fun q1 q2 => by omega) (fun _ => ⟨⟨by decide, by decide⟩, fun _ => no, fun g => absurd rfl g⟩)
end HSTMT
