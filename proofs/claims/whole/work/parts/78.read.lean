/-! ===== pure layer: a whole text, read by both ===== -/
section READ
variable {T : Nat → Int} {n D a : Nat} {z c c0 m : St} {φ : Nat → Nat} {e : Nat → Int} {N S B nd ck ts tm dp b : Nat} {Q : St → Int → Prop}
theorem INV_sk (ha : a ≤ n) (hI : INV T n D c a) : INV T n D c (sk T n a) := by
  intro b z hs
  obtain ⟨m, am, ⟨φ, e, N, S, B, nd, ck, ts, tm, dp, h1, h2, h3, h4, h5, h6, h7, h8, h9, h10, h11, h12, h13⟩, hR⟩ := hI b z hs
  have hge := sk_ge (T := T) ha
  exact ⟨m, am, ⟨φ, e, N, S, B, nd, ck, ts, tm, dp, h1, h2, h3, h4, by rw [sk_sk ha]; exact h5, h6, h7, h8, h9, h10, h11, by omega, by omega⟩, hR⟩
/-- the end of the text -/
theorem H_fin (hD : D = 2 ∨ D = 20) (hT : CT T n c) (hF : FC D c0 c) (h3 : c 38 3 = (n : Int)) (hA : c 38 1 = 2 ∨ c 38 1 = 3 ∨ c 38 1 = 4) (hI : INV T n D c n) (HQ : ∀ c' (r : Int), FC D c0 c' → PR (SR D) T n c' r → Q c' r) : f_X6_read_J100 Q c (n : Int) := by
  have hn := hT.1
  have hsn : sk T n n = n := sk_end (Nat.le_refl _)
  obtain ⟨m0, am0, φ0, e0, N0, S0, B0, nd, ck0, ts0, tm0, dp, hL0⟩ := INV_some hT hI
  have h2 : c 38 2 = (dp : Int) := hL0.2.2.2.2.2.2.1
  have hdp6 := (LH_n hL0).2.2.2.2.1
  have hS0 : S0 + 2 ≤ n := hL0.2.2.2.2.2.2.2.2.2.2.2.1
  have hCB := INV_CB hD hT (Nat.le_refl _) hI
  have f10 : c D 10 = (nd : Int) := hL0.2.2.2.2.2.1.2.2.2.2.2.2.2.2.2.1
  have fS : c D 0 = (S0 : Int) := hL0.2.2.2.2.2.1.2.2.2.2.2.2.2.1
  have hnd12 := (LH_n hL0).2.2.2.2.2.1
  have hck16 := (LH_n hL0).2.2.2.2.2.2.1
  -- the reference at the end of the text
  have ref : ∀ (bb : Int) (z : St) (Qm : St → Int → Prop), SRC T n bb z → (∀ (m : St) (φ : Nat → Nat) (e : Nat → Int) (N S B nd ck ts tm : Nat), LH T n z D c n m n φ e N S B nd ck ts tm dp → (dp ≠ 1 → Qm (sset m 0 37 0) 0) ∧ (dp = 1 → f_X10_resolves m (fun σ1 r1 => inR r1 ∧ ((r1 = 0 → Qm σ1 0) ∧ (¬ r1 = 0 → Qm σ1 1))))) → f_X10_readsAll bb z Qm := by
    intro bb z Qm hs h
    obtain ⟨m, am, ⟨φ, e, N, S, B, nd, ck, ts, tm, dp', hL⟩, hR⟩ := hI bb z hs
    have hdd : dp' = dp := by have := hL.2.2.2.2.2.2.1; omega
    subst hdd
    have hL1 := LH_at hsn (Nat.le_refl _) hL
    obtain ⟨q1, q2⟩ := h _ φ e N S B nd ck ts tm hL1
    refine hR Qm (fun fu hf => ?_)
    obtain ⟨g1, e6, e7, g4, g5, g6, g7, g8, g9, g10, g11, g12, g13⟩ := hL
    have y7 := g6.2.2.2.2.2.2.1
    rw [hsn] at g5
    obtain ⟨fu0, rfl⟩ : ∃ k, fu = k + 2 := ⟨fu - 2, by omega⟩
    refine m_head g1 g4 e6 e7 (by rw [y7]; exact ⟨by omega, by omega⟩) (fun _ g => q1 (by rw [y7] at g; omega)) (fun _ g => q2 (by rw [y7] at g; omega)) (fun g => by omega) (fun g => by omega) (fun g => by omega)
  unfold f_X6_read_J100
  by_cases hd1 : dp = 1
  · -- the last node is closed, all is linked
    have yes : inR 1 ∧ ((¬ (1 : Int) = 0 → isS ((c 38 0).toNat) ∧ f_X6_add 11 ((c ((c 38 0).toNat) 10) - 1) 0 c (fun σ2 r2 => f_X6_linkAll σ2 (fun σ3 r3 => Q σ3 r3))) ∧ ((1 : Int) = 0 → Q c (n : Int))) := by
      refine ⟨⟨by decide, by decide⟩, fun _ => ?_, fun g => absurd g (by decide)⟩
      rw [hCB.1, Int.toNat_natCast, f10]
      refine ⟨hD, t_add hD hCB ?_⟩
      obtain ⟨f0, fj, f9⟩ := cAdd_f (c := c) (w := 11) (x := (nd : Int) - 1) (y := 0) hD
      obtain ⟨k1, k38⟩ := cAdd_38 (c := c) (w := 11) (x := (nd : Int) - 1) (y := 0) hD
      have hFc : FC D c0 (cAdd c D 11 ((nd : Int) - 1) 0) := FC_add hD hF
      -- the relation behind the mark
      have rel : ∀ (z m : St) (φ : Nat → Nat) (e : Nat → Int) (N S B nd' ck ts tm : Nat), LH T n z D c n m n φ e N S B nd' ck ts tm dp → S = S0 ∧ nd' = nd ∧ ∃ e', YY (cAdd c D 11 ((nd : Int) - 1) 0) m D N (S + 1) B nd' ck ts tm 1 ∧ SY (cAdd c D 11 ((nd : Int) - 1) 0) m D φ e' N (S + 1) B nd' ck ts tm 0 := by
        intro z m φ e N S B nd' ck ts tm hL
        obtain ⟨g1, e6, e7, g4, g5, g6, g7, g8, g9, g10, g11, g12, g13⟩ := id hL
        obtain ⟨y1, y2, y3, y4, y5, y6, y7, y8, y9, y10, y11, y12, y13, y14, y15, y16⟩ := id g6
        have hnn : nd' = nd := by omega
        subst hnn
        obtain ⟨b, b2, he, hSY⟩ := SY_nd hD (Nat.le_refl _) hd1 hL
        refine ⟨by omega, rfl, eu e b S, ?_, hSY⟩
        unfold YY
        rw [f0, f9, fj 10 (by decide), fj 14 (by decide), fj 18 (by decide), k38 0 (by decide)]
        exact ⟨y1, y2, y3, y4, y5, y6, by omega, by omega, y9, y10, y11, y12, y13, y14, y15, y16⟩
      have y13 : cAdd c D 11 ((nd : Int) - 1) 0 38 0 = (D : Int) := by rw [k38 0 (by decide)]; exact hCB.1
      have hL01 := LH_at hsn (Nat.le_refl _) hL0
      obtain ⟨-, -, e0', -, hSY0⟩ := rel _ _ _ _ _ _ _ _ _ _ _ hL01
      have hLC : LC (cAdd c D 11 ((nd : Int) - 1) 0) D (S0 + 1) := SY_LC y13 (by rw [f0, fS]; rfl) (by omega) hck16 hnd12 hSY0
      have FClk : ∀ x c', LK (cAdd c D 11 ((nd : Int) - 1) 0) D x c' → FC D c0 c' := fun x c' hk q u1 u2 => by rw [hk.1 q (by omega) (by omega) (by omega) (by omega) (by omega)]; exact hFc q u1 u2
      -- what the reference needs to resolve
      have pre : ∀ (z m : St) (φ : Nat → Nat) (e : Nat → Int) (N S B nd' ck ts tm : Nat), LH T n z D c n m n φ e N S B nd' ck ts tm dp → m 0 15 = (N : Int) ∧ N ≤ 400 ∧ (∀ s, s < N → inR (m 3 s) ∧ (m 3 s = 5 → 0 ≤ m 4 s ∧ m 4 s < 12)) ∧ (∀ k, k < 12 → inR (m 23 k)) ∧ (∀ s, s < N → φ s < S0 + 1 ∧ (m 3 s = 5 → cAdd c D 11 ((nd : Int) - 1) 0 (D + 1) (φ s) = 8 ∧ cAdd c D 11 ((nd : Int) - 1) 0 39 (cAdd c D 11 ((nd : Int) - 1) 0 (D + 2) (φ s)).toNat = m 23 (m 4 s).toNat ∧ cAdd c D 11 ((nd : Int) - 1) 0 43 (φ s) = m 5 s ∧ 0 ≤ m 5 s ∧ m 5 s ≤ 400)) ∧ (∀ y : Nat, y < S0 + 1 → cAdd c D 11 ((nd : Int) - 1) 0 (D + 1) y = 8 → ∃ s, s < N ∧ φ s = y ∧ m 3 s = 5) := by
        intro z m φ e N S B nd' ck ts tm hL
        obtain ⟨eS, en, e', hYY, hSY⟩ := rel z m φ e N S B nd' ck ts tm hL
        subst eS
        obtain ⟨hP, hYA, hYB, hYC, hYD, hYE, hYF, hYS, hYN, hYV, hYO, hYL, hYK, hYG, hYT, hYM, hYH, hYQ, hYX, hYU, hYZ⟩ := hSY
        refine ⟨hYY.1, by have := YP_le hP; omega, fun s hs => ?_, fun k hk => ?_, fun s hs => ⟨hP.1 s hs, fun h5 => ?_⟩, fun y hy h8 => ?_⟩
        · have hk := hYK s hs
          rcases hk with ⟨u1, u2, -⟩ | ⟨u1, -, -, -, u2⟩ | ⟨u1, -, -, -, -, -, -, u2⟩ | ⟨u1, u2, -⟩ | ⟨u1, u2, -⟩ | ⟨u1, u2, u3, u4, u5, -⟩ | ⟨u1, u2, -⟩ | ⟨u1, u2, -⟩ <;> exact ⟨⟨by omega, by omega⟩, fun g => by omega⟩
        · have := hYM.1 k hk; exact ⟨by omega, by omega⟩
        · have hk := hYK s hs
          rcases hk with ⟨u, -⟩ | ⟨u, -⟩ | ⟨u, -⟩ | ⟨u, -⟩ | ⟨u, -⟩ | ⟨u1, u2, u3, u4, u5, u6, u7⟩ | ⟨u, -⟩ | ⟨u, -⟩
          · omega
          · omega
          · omega
          · omega
          · omega
          · exact ⟨u2, by rw [u3]; exact (hYM.1 _ (by omega)).1, hYG s hs h5, u6, u7⟩
          · omega
          · omega
        · rcases hYU y hy with ⟨s, s1, s2⟩ | ⟨q, q1, q2⟩
          · refine ⟨s, s1, s2, ?_⟩
            have hk := hYK s s1
            rw [s2] at hk
            rcases hk with ⟨u1, u2, -⟩ | ⟨u1, -, -, -, u2⟩ | ⟨u1, -, -, -, -, -, -, u2⟩ | ⟨u1, u2, -⟩ | ⟨u1, u2, -⟩ | ⟨u1, u2, -⟩ | ⟨u1, u2, -⟩ | ⟨u1, u2, -⟩ <;> omega
          · exfalso
            rcases hYX q q1 with u | ⟨-, -, u, -⟩
            · rw [u] at q2; omega
            · rw [q2, Int.toNat_natCast] at u
              rcases u with ⟨-, u, -⟩ | ⟨-, u, -⟩ <;> omega
      refine t_linkAll hD hLC (fun c' hk => HQ c' _ (FClk _ c' hk) ?_) (fun y c' hy h8 hun hres hk => HQ c' _ (FClk _ c' hk) ?_)
      · refine ⟨⟨by decide, by decide⟩, ?_⟩
        intro bb z Qm hs hyes _
        refine ref bb z Qm hs (fun m φ e N S B nd' ck ts tm hL => ⟨fun g => absurd hd1 g, fun _ => ?_⟩)
        obtain ⟨p1, p2, p3, p4, p5, p6⟩ := pre z m φ e N S B nd' ck ts tm hL
        obtain ⟨eS, en, e', hYY, hSY⟩ := rel z m φ e N S B nd' ck ts tm hL
        obtain ⟨n1, n2, n3, n4, n5, n6, n7, n8⟩ := LH_n hL
        have htm : 2 * tm + 2 ≤ n := hL.2.2.2.2.2.2.2.2.2.2.2.2
        refine m_resolves p1 p2 hL.1 p3 p4 (fun hall m' hP' hr h4 => ⟨⟨by decide, by decide⟩, fun g => absurd g (by decide), fun _ => hyes rfl m' hP' ?_⟩) (fun s hs h5 hun _ m' _ _ => ?_)
        · rw [← eS] at hk
          exact SR_end y13 hYY n3 (by omega) n4 (by omega) hSY hL.2.2.2.2.2.2.2.2.2.1.1 hk hr h4 hall
        · exfalso
          obtain ⟨q1, q2⟩ := p5 s hs
          obtain ⟨q3, q4, -⟩ := q2 h5
          exact hk.2.2.2.2.2.2 (φ s) q1 q3 (by rw [q4]; exact hun)
      · have bnd : -1 ≤ cAdd c D 11 ((nd : Int) - 1) 0 43 y ∧ cAdd c D 11 ((nd : Int) - 1) 0 43 y ≤ 400 := by
          obtain ⟨-, -, -, -, p5, p6⟩ := pre _ _ _ _ _ _ _ _ _ _ _ hL01
          obtain ⟨s0, s1, s2, s3⟩ := p6 y hy h8
          obtain ⟨-, -, q5, q6, q7⟩ := (p5 s0 s1).2 s3
          rw [s2] at q5
          omega
        refine ⟨bnd, ?_⟩
        intro bb z Qm hs _ hno
        refine ref bb z Qm hs (fun m φ e N S B nd' ck ts tm hL => ⟨fun g => absurd hd1 g, fun _ => ?_⟩)
        obtain ⟨p1, p2, p3, p4, p5, p6⟩ := pre z m φ e N S B nd' ck ts tm hL
        obtain ⟨s0, s1, s2, s3⟩ := p6 y hy h8
        obtain ⟨-, q2⟩ := p5 s0 s1
        obtain ⟨q3, q4, q5, q6⟩ := q2 s3
        rw [s2] at q3 q4 q5
        have hP := hL.2.2.2.2.2.2.2.2.1.1
        refine m_resolves p1 p2 hL.1 p3 p4 (fun hall m' _ _ _ => absurd (by rw [← q4]; exact hun) (hall s0 s1 s3)) (fun s hs h5 hun' hbef m' hP' e36 => ⟨⟨by decide, by decide⟩, fun _ => ?_, fun g => absurd rfl g⟩)
        have hss : s = s0 := by
          rcases Nat.lt_trichotomy s s0 with g | g | g
          · exfalso
            obtain ⟨t1, t2⟩ := p5 s hs
            obtain ⟨t3, t4, -⟩ := t2 h5
            have := hP.2 s s0 g s1
            exact hres (φ s) (by omega) t3 (by rw [t4]; exact hun')
          · exact g
          · exact absurd (by rw [← q4]; exact hun) (hbef s0 g s3)
        subst hss
        exact hno (by omega) m' hP' (by rw [e36, q5])
    unfold f_X6_canEnd
    rw [h2, hd1]
    refine ⟨⟨by decide, by decide⟩, fun g => absurd rfl g, fun _ => ⟨by rcases hA with g | g | g <;> rw [g] <;> exact ⟨by decide, by decide⟩, fun _ => yes, fun g1 => ⟨by rcases hA with g | g | g <;> rw [g] <;> exact ⟨by decide, by decide⟩, fun _ => yes, fun g2 => ⟨by rcases hA with g | g | g <;> rw [g] <;> exact ⟨by decide, by decide⟩, fun g3 => by omega, fun _ => yes⟩⟩⟩⟩
  · -- a block is open still
    unfold f_X6_canEnd
    rw [h2]
    refine ⟨⟨by omega, by omega⟩, fun _ => ⟨⟨by decide, by decide⟩, fun g => absurd rfl g, fun _ => HQ c _ hF ?_⟩, fun g => by omega⟩
    refine ⟨⟨by omega, by omega⟩, ?_⟩
    intro bb z Qm hs _ hno
    refine ref bb z Qm hs (fun m φ e N S B nd' ck ts tm hL => ⟨fun _ => hno (by omega) _ (PS_fine hL.1 _) (by rw [sset_place _ _ _ (by decide)]; exact hL.2.1), fun g => absurd g hd1⟩)
/-- the loop over the text -/
theorem H_loop (hD : D = 2 ∨ D = 20) (HQ : ∀ c' (r : Int), FC D c0 c' → PR (SR D) T n c' r → Q c' r) : ∀ (k a : Nat) (c : St), n - a < k → a ≤ n → CT T n c → FC D c0 c → c 38 3 = (a : Int) → AW T n c a → INV T n D c a → CLB Q n c a := by
  intro k
  induction k with
  | zero => intro a c hk; omega
  | succ k ih =>
    intro a c hk ha hT hF h3 hA hI
    have hge := sk_ge (T := T) ha
    have hss := sk_sk (T := T) ha
    refine c_next hT ha h3 (fun hen c3 hc3 h33 => ?_) (fun hlt c3 hc3 h33 h34 h35 h36 K' hK' => ?_)
    · have x3 := CX_ce hc3
      have hI3 := INV_cx hD x3 (INV_sk ha hI)
      rw [hen] at hI3
      refine H_fin hD (CT_cx x3 hT) (FC_cx x3 hF) h33 ?_ hI3 HQ
      rw [hc3.2 1 (by omega)]
      rcases hA with g | ⟨g, -⟩ | ⟨g, -⟩
      · exact Or.inr (Or.inl g)
      · exact Or.inl g
      · exact Or.inr (Or.inr g)
    · have x3 := CX_ce hc3
      have hI3 := INV_cx hD x3 (INV_sk ha hI)
      have hr := hT.2.1 (sk T n a)
      have hch := ch_lt (T := T) hlt
      have hHC : HC (SR D) T n D c0 Q c3 (sk T n a) (fun τ r => (r = 0 ∨ r = 1) ∧ K' τ r) := ⟨hD, CT_cx x3 hT, FC_cx x3 hF, hI3, hss, hlt, h33, h34, h35, h36, HQ, fun c' a' u1 u2 u3 u4 u5 u6 u7 => ih a' c' (by omega) u2 u3 u4 u5 u6 u7, fun τ hk => ⟨Or.inr rfl, hK' _ _ hk⟩, fun τ hk => ⟨Or.inl rfl, hK' _ _ hk⟩⟩
      have inb : f_X6_takesInBlock (T (sk T n a)) c3 (fun τ r => (r = 0 ∨ r = 1) ∧ K' τ r) := by
        by_cases g1 : 48 ≤ T (sk T n a) ∧ T (sk T n a) ≤ 57
        · exact H_line hHC g1.1 g1.2
        by_cases g2 : T (sk T n a) = 43 ∨ T (sk T n a) = 45
        · exact H_flag hHC g2
        by_cases g3 : 120 ≤ T (sk T n a) ∧ T (sk T n a) ≤ 122
        · exact H_meter hHC g3.1 g3.2
        by_cases g4 : T (sk T n a) = 63
        · exact H_test hHC g4
        by_cases g5 : T (sk T n a) = 91
        · exact H_choice hHC g5
        by_cases g6 : T (sk T n a) = 62
        · exact H_go hHC g6
        by_cases g7 : T (sk T n a) = 60
        · exact H_hub hHC g7
        by_cases g8 : T (sk T n a) = 46
        · exact H_ending hHC g8
        by_cases g9 : T (sk T n a) = 125
        · exact H_close hHC g9
        by_cases g10 : T (sk T n a) = 61 ∧ c3 38 2 = 1
        · exact H_node hHC g10.1 g10.2
        exact H_bad hHC (by omega) (by omega) ⟨by omega, by omega, g4, g5, g6, g7⟩ ⟨g8, g9⟩ (fun u1 u2 => g10 ⟨u1, u2⟩)
      have w1 : c3 38 1 = c 38 1 := hc3.2 1 (by omega)
      rcases hA with g | ⟨g, g'⟩ | ⟨g, g'⟩
      · exact g_3 (w1.trans g) inb
      · exact g_2 (w1.trans g) ⟨⟨by omega, by omega⟩, fun _ => inb, fun u => by omega⟩
      · exact g_4 (w1.trans g) ⟨⟨by omega, by omega⟩, fun _ => inb, fun u => by omega⟩
end READ
