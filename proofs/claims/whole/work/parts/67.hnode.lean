/-! ===== pure layer: the head of a node, read by both ===== -/
section HNODE
variable {T : Nat → Int} {n D a a' am p : Nat} {z c c' m m' : St} {φ : Nat → Nat} {e : Nat → Int} {N S B nd ck ts tm dp b : Nat} {R : St → St → Prop} {Q : St → Int → Prop} {w x y f w' x' y' : Int}
theorem mNd_fld {v : Int} {q : Nat} {hub : Int} {j : Nat} (h1 : j ≠ 36) (h2 : j ≠ 30) (h3 : j ≠ 25) (h4 : j ≠ 39) : mNd m v q hub 0 j = m 0 j := by
  unfold mNd
  rw [sset_place _ _ _ h2, mBk_fld h3 h4, sset_place _ _ _ h4, sset_row _ _ _ (by decide), sset_row _ _ _ (by decide), sset_row _ _ _ (by decide), sset_row _ _ _ (by decide), sset_place _ _ _ h1]
theorem mNd_flds {v : Int} {q : Nat} {hub : Int} : mNd m v q hub 0 36 = (q : Int) ∧ mNd m v q hub 0 30 = m 0 30 + 1 ∧ mNd m v q hub 0 25 = m 0 25 + 1 ∧ mNd m v q hub 0 39 = 1 := by
  unfold mNd
  refine ⟨?_, by rw [sset_self], ?_, ?_⟩
  · rw [sset_place _ _ _ (by decide), mBk_fld (by decide) (by decide), sset_place _ _ _ (by decide), sset_row _ _ _ (by decide), sset_row _ _ _ (by decide), sset_row _ _ _ (by decide), sset_row _ _ _ (by decide), sset_self]
  · rw [sset_place _ _ _ (by decide), mBk_25, sset_place _ _ _ (by decide), sset_row _ _ _ (by decide), sset_row _ _ _ (by decide), sset_row _ _ _ (by decide), sset_row _ _ _ (by decide), sset_place _ _ _ (by decide)]
  · rw [sset_place _ _ _ (by decide), mBk_39, sset_self]; rfl
theorem PS_nd {v : Int} {q : Nat} {hub : Int} (h : PS T n z m) : PS T n z (mNd m v q hub) := by
  unfold mNd
  refine PS_fld (PS_bk (PS_fld ?_ 39 _ rfl (by decide) (by decide))) 30 _ rfl (by decide) (by decide)
  iterate 4 refine PS_cell ?_ _ _ _ (by decide) (by decide)
  exact PS_at h _
/-- both stand in a node's head, behind its sign -/
def NH (T : Nat → Int) (n : Nat) (z : St) (D : Nat) (c : St) (p : Nat) (m : St) (a0 : Nat) (φ : Nat → Nat) (e : Nat → Int) (N S B nd ck ts tm dp : Nat) : Prop :=
  PS T n z m ∧ m 0 36 = (a0 : Int) ∧ m 0 37 = 1 ∧ a0 ≤ n ∧ ch T n (sk T n a0) = 61 ∧ p = sk T n a0 + 1 ∧ dp ≤ 6 ∧ YY c m D N S B nd ck ts tm dp ∧ SY c m D φ e N S B nd ck ts tm 0 ∧ (∀ s, s < N → m 3 s = 3 ∨ m 3 s = 4 → m 8 s ≠ -1) ∧ B ≤ nd + ck + 2 * ts ∧ S + 1 ≤ p ∧ 2 * tm + 1 ≤ p
def NR (T : Nat → Int) (n : Nat) (b : Int) (z m : St) (a0 : Nat) : Prop := ∀ Qm : St → Int → Prop, (∀ K : St → Prop, (∀ m' am', m' 0 37 = 1 → a0 < am' → am' ≤ n → (∀ fu, 500 ≤ fu + am' → f_X10_readsAll_L99 Qm fu m' 1) → K m') → (∀ m', m' 0 37 = 0 → Qm m' 0 → K m') → f_X10_readsNode m K) → f_X10_readsAll b z Qm
def NINV (T : Nat → Int) (n D : Nat) (c : St) (p : Nat) : Prop := ∀ b z, SRC T n b z → ∃ m a0 φ e N S B nd ck ts tm dp, NH T n z D c p m a0 φ e N S B nd ck ts tm dp ∧ NR T n b z m a0
theorem NH_cx (hD : D = 2 ∨ D = 20) (h : CX c c') {a0 : Nat} (hL : NH T n z D c p m a0 φ e N S B nd ck ts tm dp) : NH T n z D c' p m a0 φ e N S B nd ck ts tm dp := by
  obtain ⟨h1, h2, h3, h4, h5, h6, h7, h8, h9, h10⟩ := hL
  refine ⟨h1, h2, h3, h4, h5, h6, h7, ?_, SY_rq RQ_rfl (CQ_cx hD h) h9, h10⟩
  unfold YY at *
  rw [h.1 D (by omega), h.1 (D + 9) (by omega), h.2.1]
  exact h8
theorem LH_node {v a0 : Nat} {pm : Nat} {hub : Int} (hD : D = 2 ∨ D = 20) (hh : hub = 0 ∨ hub = 1) (hv : v < 12) (hfree : m 23 v = -1) (hC : NC c c' D nd v hub) (hfj : ∀ j, j ≠ 10 → j ≠ 13 → c' D j = c D j) (hf10 : c' D 10 = ((nd + 1 : Nat) : Int)) (hf9 : c' (D + 9) = c (D + 9)) (hf0 : c' 38 0 = c 38 0) (hf2 : c' 38 2 = 1) (hpm : pm ≤ n) (hsk : sk T n pm = sk T n a') (hpa : p < a') (hL : NH T n z D c p m a0 φ e N S B nd ck ts tm dp) : nd < 12 ∧ LH T n z D c' a' (mNd m v pm hub) pm φ (eu e B (-1)) N S (B + 1) (nd + 1) ck ts tm 1 := by
  obtain ⟨h1, h2, h3, h4, h5, h6, h7, h8, h9, h10, h11, h12, h13⟩ := hL
  obtain ⟨y1, y2, y3, y4, y5, y6, y7, y8, y9, y10, y11, y12, y13, y14, y15, y16⟩ := id h8
  have hA : NM m (mNd m v pm hub) B nd v hub := NM_nd y3 y4
  obtain ⟨hnd, hSY⟩ := SY_node hh hv hfree hA hC h9
  obtain ⟨g36, g30, g25, g39⟩ := mNd_flds (m := m) (v := v) (q := pm) (hub := hub)
  have gj : ∀ j, j ≠ 36 → j ≠ 30 → j ≠ 25 → j ≠ 39 → mNd m v pm hub 0 j = m 0 j := fun j j1 j2 j3 j4 => mNd_fld j1 j2 j3 j4
  have r15 := hA.2.2.2.2.1
  have r25 := hA.2.2.2.2.2.2.2.2.2.1
  have rr := hA.2.2.2.2.2.2.2.2.2.2
  have t15 : mNd m v pm hub 15 (mNd m v pm hub 25 0).toNat = 0 := by rw [up_at r25, Int.toNat_natCast, up_at r15]
  refine ⟨hnd, PS_nd h1, g36, by rw [gj 37 (by decide) (by decide) (by decide) (by decide)]; exact h3, hpm, hsk, ?_, by rw [hf2]; rfl, by omega, hSY, ⟨?_, ?_⟩, ?_, by omega, by omega⟩
  · unfold YY
    rw [gj 15 (by decide) (by decide) (by decide) (by decide), gj 19 (by decide) (by decide) (by decide) (by decide), g25, g30, gj 32 (by decide) (by decide) (by decide) (by decide), gj 33 (by decide) (by decide) (by decide) (by decide), g39, hfj 0 (by decide) (by decide), hf9, hf10, hfj 14 (by decide) (by decide), hfj 18 (by decide) (by decide), hf0]
    exact ⟨y1, y2, by omega, by omega, y5, y6, rfl, y8, y9, rfl, y11, y12, y13, y14, y15, by omega⟩
  · rw [rr 3 (by omega), rr 8 (by omega)]; exact h10
  · intro d hd g
    have : d = 0 := by omega
    rw [this, t15] at g; omega
  · show B + 1 + (oc (mNd m v pm hub) 0 + if mNd m v pm hub 15 (mNd m v pm hub 25 0).toNat = 2 ∧ mNd m v pm hub 8 (mNd m v pm hub 16 (mNd m v pm hub 25 0).toNat).toNat = mNd m v pm hub 25 0 then 1 else 0) ≤ _
    rw [if_neg (by rw [t15]; rintro ⟨g, -⟩; omega)]
    show B + 1 + (0 + 0) ≤ _
    omega
theorem PR_node {r : Nat} (hr : r ≤ 400) (hI : NINV T n D c p) (h : ∀ z m a0 φ e N S B nd ck ts tm dp, NH T n z D c p m a0 φ e N S B nd ck ts tm dp → ∀ K : St → Prop, DE T n z K r → f_X10_readsNode m K) : PR R T n c' (r : Int) := by
  refine ⟨⟨by omega, by omega⟩, ?_⟩
  intro b z Qm hs _ h2
  obtain ⟨m, a0, φ, e, N, S, B, nd, ck, ts, tm, dp, hL, hR⟩ := hI b z hs
  exact hR Qm (fun K _ hK0 => h z m a0 φ e N S B nd ck ts tm dp hL K (fun m' hP e6 e7 _ => hK0 m' e7 (h2 (by omega) m' hP e6)))
theorem INV_node (hI : NINV T n D c p) (h : ∀ z m a0 φ e N S B nd ck ts tm dp, NH T n z D c p m a0 φ e N S B nd ck ts tm dp → ∃ m' am', LHx T n z D c' a' m' am' ∧ a0 < am' ∧ ∀ K : St → Prop, K m' → f_X10_readsNode m K) : INV T n D c' a' := by
  intro b z hs
  obtain ⟨m, a0, φ, e, N, S, B, nd, ck, ts, tm, dp, hL, hR⟩ := hI b z hs
  obtain ⟨m', am', hL', hlt, hrun⟩ := h z m a0 φ e N S B nd ck ts tm dp hL
  refine ⟨m', am', hL', fun Qm hq => hR Qm (fun K hK1 _ => hrun K ?_)⟩
  obtain ⟨φ', e', N', S', B', nd', ck', ts', tm', dp', hl⟩ := hL'
  exact hK1 m' am' hl.2.2.1 hlt hl.2.2.2.1 hq
/-- what the reference needs at a node's head -/
theorem NH_r {a0 : Nat} (hL : NH T n z D c p m a0 φ e N S B nd ck ts tm dp) : inR (m 0 39) ∧ 0 ≤ m 0 25 ∧ (∀ k, k < 12 → inR (m 23 k)) ∧ 0 ≤ m 0 30 ∧ (∀ k : Nat, k < 12 → m 23 k = -1 → m 0 30 < 12 ∧ m 0 25 < 64) ∧ ∀ k, k < 12 → c 39 k = m 23 k := by
  obtain ⟨h1, h2, h3, h4, h5, h6, h7, h8, h9, h10, h11, h12, h13⟩ := hL
  obtain ⟨y1, y2, y3, y4, y5, y6, y7, y8, y9, y10, y11, y12, y13, y14, y15, y16⟩ := id h8
  have hYM := h9.2.2.2.2.2.2.2.2.2.2.2.2.2.2.2.1
  refine ⟨by rw [y7]; exact ⟨by omega, by omega⟩, by omega, fun k hk => ?_, by omega, fun k hk hm => ?_, fun k hk => (hYM.1 k hk).1⟩
  · have := hYM.1 k hk; exact ⟨by omega, by omega⟩
  · have := nc_lt hm 12 hk
    have := hYM.2.1
    exact ⟨by omega, by omega⟩
/-- the class's state behind a node's name -/
def cNd (c : St) (D : Nat) (v : Nat) (nd : Nat) : St := sset (sset (sset (sset (sset (sset c 39 v (nd : Int)) (D + 13) nd (65 + (v : Int))) D 10 ((nd : Int) + 1)) 38 2 1) 40 1 (-1)) 38 1 2
theorem cNd_r (hD : D = 2 ∨ D = 20) {v : Nat} : cNd c D v nd 39 = va_up (c 39) v nd ∧ cNd c D v nd (D + 13) = va_up (c (D + 13)) nd (65 + v) ∧ cNd c D v nd 40 = va_up (c 40) 1 (-1) ∧ (∀ q, q ≠ 38 → q ≠ 39 → q ≠ 40 → q ≠ D → q ≠ D + 13 → cNd c D v nd q = c q) ∧ (∀ j, j ≠ 10 → cNd c D v nd D j = c D j) ∧ cNd c D v nd D 10 = ((nd + 1 : Nat) : Int) ∧ cNd c D v nd 38 1 = 2 ∧ cNd c D v nd 38 2 = 1 ∧ ∀ j, j ≠ 1 → j ≠ 2 → cNd c D v nd 38 j = c 38 j := by
  unfold cNd
  refine ⟨?_, ?_, ?_, fun q q1 q2 q3 q4 q5 => ?_, fun j hj => ?_, ?_, ?_, ?_, fun j j1 j2 => ?_⟩
  · rw [sset_row _ _ _ (by omega), sset_row _ _ _ (by omega), sset_row _ _ _ (by omega), sset_row _ _ _ (by omega), sset_row _ _ _ (by omega), sset_same]
  · rw [sset_row _ _ _ (by omega), sset_row _ _ _ (by omega), sset_row _ _ _ (by omega), sset_row _ _ _ (by omega), sset_same, sset_row _ _ _ (by omega)]
  · rw [sset_row _ _ _ (by omega), sset_same, sset_row _ _ _ (by omega), sset_row _ _ _ (by omega), sset_row _ _ _ (by omega), sset_row _ _ _ (by omega)]
  · rw [sset_row _ _ _ q1, sset_row _ _ _ q3, sset_row _ _ _ q1, sset_row _ _ _ q4, sset_row _ _ _ q5, sset_row _ _ _ q2]
  · rw [sset_row _ _ _ (by omega), sset_row _ _ _ (by omega), sset_row _ _ _ (by omega), sset_place _ _ _ hj, sset_row _ _ _ (by omega), sset_row _ _ _ (by omega)]
  · rw [sset_row _ _ _ (by omega), sset_row _ _ _ (by omega), sset_row _ _ _ (by omega), sset_self]; omega
  · rw [sset_self]
  · rw [sset_place _ _ _ (by decide), sset_row _ _ _ (by omega), sset_self]
  · rw [sset_place _ _ _ j1, sset_row _ _ _ (by omega), sset_place _ _ _ j2, sset_row _ _ _ (by omega), sset_row _ _ _ (by omega), sset_row _ _ _ (by omega)]
theorem H_name {c0 : St} (hD : D = 2 ∨ D = 20) (hT : CT T n c) (hF : FC D c0 c) (h1 : c 38 1 = 1) (h3 : c 38 3 = (p : Int)) (hp : p ≤ n) (hdi : inR (c 38 2)) (hI : NINV T n D c p)
    (HQ : ∀ c' (r : Int), FC D c0 c' → PR R T n c' r → Q c' r) (IH : ∀ c' a', p < a' → a' ≤ n → CT T n c' → FC D c0 c' → c' 38 3 = ((a' : Nat) : Int) → AW T n c' a' → INV T n D c' a' → CLB Q n c' a') : CLB Q n c p := by
  have hn := hT.1
  obtain ⟨m0, a00, φ0, e0, N0, S0, B0, nd, ck0, ts0, tm0, dp0, hL0, -⟩ := hI 0 (z0 T n) ⟨hT.1, hT.2.1, Or.inl ⟨rfl, rfl, fun j _ => rfl⟩⟩
  have f0 : c 38 0 = (D : Int) := hL0.2.2.2.2.2.2.2.1.2.2.2.2.2.2.2.2.2.2.2.2.1
  have f10 : c D 10 = (nd : Int) := hL0.2.2.2.2.2.2.2.1.2.2.2.2.2.2.2.2.2.1
  have r0 := NH_r hL0
  have y4 : m0 0 30 = (nd : Int) := hL0.2.2.2.2.2.2.2.1.2.2.2.1
  obtain ⟨h0, hh0, hh1, -⟩ := hL0.2.2.2.2.2.2.2.2.1.2.2.2.2.2.2.2.2.2.2.2.2.2.2.2.2.1
  have hnd12 : nd ≤ 12 := hL0.2.2.2.2.2.2.2.1.2.2.2.2.2.2.2.2.2.2.2.2.2.2.2
  have h4096 : h0 < 2147483648 := Nat.lt_of_lt_of_le hh1 (Nat.le_trans (Nat.pow_le_pow_right (by decide) hnd12) (by decide))
  have bad : ∀ c', (ch T n (sk T n p) < 65 ∨ 76 < ch T n (sk T n p)) → PR R T n c' ((sk T n p : Nat) : Int) := fun c' hb => PR_node (by have := sk_le (T := T) hp; omega) hI (fun z m a0 φ e N S B nd ck ts tm dp hL K hd => by
    obtain ⟨u1, u2, u3, u4, u5, u6⟩ := NH_r hL
    have hpe := hL.2.2.2.2.2.1
    rw [hpe] at hb hd
    refine r_node hL.1 u1 hL.2.2.2.1 hL.2.1 hL.2.2.1 u2 u3 u4 u5 (fun g => absurd hL.2.2.2.2.1 g) (fun _ _ => hd) (fun _ g1 g2 => by omega) (fun _ g1 g2 => by omega))
  refine c_next hT hp h3 (fun hen c3 hc3 h33 => ?_) (fun hlt c3 hc3 h33 h34 _ _ K' hK' => ?_)
  · have x3 := CX_ce hc3
    have w1 : c3 38 1 = 1 := by rw [hc3.2 1 (by omega)]; exact h1
    refine j100_no (by rw [x3.2.2]; exact hdi) (by rw [w1]; exact ⟨by decide, by decide⟩) (by rw [w1]; decide) (HQ _ _ (FC_cx x3 hF) ?_)
    have := bad c3 (by rw [hen, ch_ge (by omega)]; omega)
    rw [hen] at this; exact this
  · have x3 := CX_ce hc3
    have w1 : c3 38 1 = 1 := by rw [hc3.2 1 (by omega)]; exact h1
    have w0 : c3 38 0 = (D : Int) := by rw [x3.2.1]; exact f0
    have w10 : c3 D 10 = (nd : Int) := by rw [x3.1 D (by omega)]; exact f10
    have hr := hT.2.1 (sk T n p)
    have hge := sk_ge (T := T) hp
    have hch := ch_lt (T := T) hlt
    refine g_1 w1 ?_
    unfold f_X6_takesNodeName
    refine t_isName ⟨by omega, by omega⟩ (fun q1 q2 => ⟨⟨by decide, by decide⟩, fun g => absurd g (by decide), fun _ => ⟨by omega, by omega, ?_, fun g => ?_, fun g => ?_⟩⟩) (fun q => ⟨⟨by decide, by decide⟩, fun _ => ⟨Or.inl rfl, hK' _ _ (KT_no h33 (HQ _ _ (FC_cx x3 hF) (bad c3 (by omega))))⟩, fun g => absurd rfl g⟩)
    · rw [x3.1 39 (by decide), r0.2.2.2.2.2 _ (by omega)]; exact r0.2.2.1 _ (by omega)
    · -- the name is free
      obtain ⟨v, hv⟩ : ∃ v : Nat, (v : Int) = T (sk T n p) - 65 := ⟨(T (sk T n p) - 65).toNat, by omega⟩
      have hv12 : v < 12 := by omega
      rw [← hv, Int.toNat_natCast] at g ⊢
      have g39 : c 39 v = -1 := by rw [← x3.1 39 (by decide)]; exact g
      have hnd : nd < 12 := by
        have := r0.2.2.2.2.1 v hv12 (by rw [← r0.2.2.2.2.2 v hv12]; exact g39)
        omega
      rw [w0, Int.toNat_natCast]
      refine ⟨hD, ?_⟩
      rintro x1 rfl
      rw [w10, Int.toNat_natCast]
      refine ⟨⟨by omega, by omega⟩, fun u => by omega, fun _ => ⟨⟨by omega, by omega⟩, fun _ => ⟨by omega, by omega, fun σ2 e2 => ?_⟩, fun u => by omega⟩⟩
      have s2 : σ2 38 = c3 38 := by rw [e2, sset_row _ _ _ (by decide)]
      rw [s2, w0, Int.toNat_natCast]
      refine ⟨hD, by omega, by omega, fun σ3 e3 => ?_⟩
      have s3 : σ3 38 = c3 38 := by rw [e3, sset_row _ _ _ (by omega), s2]
      have s310 : σ3 D 10 = (nd : Int) := by rw [e3, sset_row _ _ _ (by omega), e2, sset_row _ _ _ (by omega)]; exact w10
      rw [s3, w0, Int.toNat_natCast, s310]
      refine ⟨hD, fun σ4 e4 σ5 e5 σ6 e6 => t_await ⟨Or.inr rfl, Or.inr rfl, hK' _ _ ?_⟩⟩
      have ec : sset σ6 38 1 2 = cNd c3 D v nd := by
        unfold cNd
        rw [e6, e5, e4, e3, e2, show T (sk T n p) = 65 + (v : Int) by omega]
      rw [ec]
      obtain ⟨n39, n13, n40, nr, nj, n10, n1, n2, n38⟩ := cNd_r (c := c3) (nd := nd) (v := v) hD
      refine KT_ok (w := 1) (by rw [n38 3 (by decide) (by decide)]; exact h33) (by rw [n38 4 (by decide) (by decide)]; exact h34) (by decide) ?_
      have cx5 : CX (cNd c3 D v nd) (sset (cNd c3 D v nd) 38 3 ((sk T n p + 1 : Nat) : Int)) := CX_set (by decide) (by decide)
      have hT4 : CT T n (cNd c3 D v nd) := CT_row (CT_cx x3 hT) (nr 1 (by decide) (by decide) (by decide) (by omega) (by omega))
      have hF4 : FC D c0 (cNd c3 D v nd) := fun q u1 u2 => by rw [nr q (by omega) (by omega) (by omega) (by omega) (by omega)]; exact FC_cx x3 hF q u1 u2
      have hle2 : sk T n (sk T n p + 1) ≤ n := sk_le (by omega)
      have hge2 : sk T n p + 1 ≤ sk T n (sk T n p + 1) := sk_ge (by omega)
      -- the reference's side
      have ref : ∀ (c' : St) (a' : Nat) (hub : Int) (pm : Nat), NC c3 c' D nd v hub → (∀ j, j ≠ 10 → j ≠ 13 → c' D j = c3 D j) → c' D 10 = ((nd + 1 : Nat) : Int) → c' (D + 9) = c3 (D + 9) → c' 38 0 = c3 38 0 → c' 38 2 = 1 → pm ≤ n → sk T n pm = sk T n a' → p < a' → p < pm + 1 → ((hub = 1 ∧ ch T n (sk T n (sk T n p + 1)) = 35 ∧ pm = sk T n (sk T n p + 1) + 1) ∨ (hub = 0 ∧ ch T n (sk T n (sk T n p + 1)) ≠ 35 ∧ pm = sk T n (sk T n p + 1))) → INV T n D c' a' := by
        intro c' a' hub pm hC hfj hf10 hf9 hf0 hf2 hpm hsk hpa hppm hhub
        refine INV_node hI (fun z m a0 φ e N S B nd' ck ts tm dp hL => ?_)
        have hnd' : nd' = nd := by
          have := hL.2.2.2.2.2.2.2.1.2.2.2.2.2.2.2.2.2.1
          omega
        subst hnd'
        obtain ⟨u1, u2, u3, u4, u5, u6⟩ := NH_r hL
        have hfree : m 23 v = -1 := by rw [← u6 v hv12]; exact g39
        have hpe := hL.2.2.2.2.2.1
        have hh01 : hub = 0 ∨ hub = 1 := by omega
        have ha0 := sk_ge (T := T) hL.2.2.2.1
        refine ⟨mNd m v pm hub, pm, ⟨_, _, _, _, _, _, _, _, _, _, (LH_node hD hh01 hv12 hfree hC hfj hf10 hf9 hf0 hf2 hpm hsk hpa (NH_cx hD x3 hL)).2⟩, by omega, fun K hK => ?_⟩
        rw [hpe] at hch hv hhub q1 q2
        have hv' : ch T n (sk T n (sk T n a0 + 1)) - 65 = (v : Int) := by rw [hch]; exact hv.symm
        refine r_node hL.1 u1 hL.2.2.2.1 hL.2.1 hL.2.2.1 u2 u3 u4 u5 (fun g => absurd hL.2.2.2.2.1 g) (fun _ g => by omega) (fun _ _ _ g => ?_) (fun _ _ _ _ => ?_)
        · rw [hv', Int.toNat_natCast] at g; exact absurd hfree g
        · rw [hv']
          rcases hhub with ⟨t1, t2, t3⟩ | ⟨t1, t2, t3⟩
          · rw [if_pos t2, if_pos t2, ← t3, ← t1]; exact hK
          · rw [if_neg t2, if_neg t2, ← t3, ← t1]; exact hK
      by_cases hub : ch T n (sk T n (sk T n p + 1)) = 35
      · have hlt2 : sk T n (sk T n p + 1) < n := ch_pos (T := T) (by omega)
        have hTr : T (sk T n (sk T n p + 1)) = 35 := by rw [← ch_lt (T := T) hlt2]; exact hub
        refine c_next (CT_cx cx5 hT4) (by omega) (sset_self _ _ _ _) (fun hen => by omega) (fun _ c6 hc6 h63 h64 _ _ K2 hK2 => ?_)
        have x6 := CX_tr cx5 (CX_ce hc6)
        have u1 : c6 38 1 = 2 := by rw [hc6.2 1 (by omega), sset_place _ _ _ (by decide)]; exact n1
        have u0 : c6 38 0 = (D : Int) := by rw [x6.2.1, n38 0 (by decide) (by decide)]; exact w0
        have u13 : c6 D 13 = (h0 : Int) := by rw [x6.1 D (by omega), nj 13 (by decide), x3.1 D (by omega)]; exact hh0
        have u10 : c6 D 10 - 1 = (nd : Int) := by rw [x6.1 D (by omega), n10]; omega
        rw [hTr]
        refine g_2 u1 ⟨⟨by decide, by decide⟩, fun g => absurd rfl g, fun _ => ?_⟩
        unfold f_X6_takesHubSign
        rw [u0, Int.toNat_natCast, u13, u10, ishl_1 (by omega), ior_nat h4096 (Nat.lt_of_lt_of_le (Nat.pow_lt_pow_right (by decide) hnd) (by decide))]
        refine ⟨hD, fun σ7 e7 => t_await ⟨Or.inr rfl, Or.inr rfl, hK2 _ _ ?_⟩⟩
        have j38 : ∀ j, j ≠ 1 → sset σ7 38 1 3 38 j = c6 38 j := fun j hj => by rw [sset_place _ _ _ hj, e7, sset_row _ _ _ (by omega)]
        have jr : ∀ q, q ≠ 38 → q ≠ D → sset σ7 38 1 3 q = cNd c3 D v nd q := fun q q1 q2 => by rw [sset_row _ _ _ q1, e7, sset_row _ _ _ q2, x6.1 q q1]
        have jD : ∀ j, j ≠ 13 → sset σ7 38 1 3 D j = cNd c3 D v nd D j := fun j hj => by rw [sset_row _ _ _ (by omega), e7, sset_place _ _ _ hj, x6.1 D (by omega)]
        have j13 : sset σ7 38 1 3 D 13 = ((h0 ||| 2 ^ nd : Nat) : Int) := by rw [sset_row _ _ _ (by omega), e7, sset_self]
        refine KT_ok (w := 1) (by rw [j38 3 (by decide)]; exact h63) (by rw [j38 4 (by decide)]; exact h64) (by decide) ?_
        have cx8 : CX (sset σ7 38 1 3) (sset (sset σ7 38 1 3) 38 3 ((sk T n (sk T n p + 1) + 1 : Nat) : Int)) := CX_set (by decide) (by decide)
        refine IH _ _ (by omega) (by omega) (CT_cx cx8 (CT_row hT4 (jr 1 (by decide) (by omega)))) (FC_cx cx8 (fun q u1 u2 => by rw [jr q (by omega) (by omega)]; exact hF4 q u1 u2)) (sset_self _ _ _ _) (Or.inl (by rw [sset_place _ _ _ (by decide), sset_self])) (INV_cx hD cx8 ?_)
        refine ref _ _ 1 (sk T n (sk T n p + 1) + 1) ⟨?_, ?_, ?_, fun h hh => ?_, fun q hq => ?_⟩ (fun j j1 j2 => by rw [jD j j2, nj j j1]) (by rw [jD 10 (by decide)]; exact n10) (by rw [jr (D + 9) (by omega) (by omega), nr (D + 9) (by omega) (by omega) (by omega) (by omega) (by omega)]) (by rw [j38 0 (by decide), x6.2.1, n38 0 (by decide) (by decide)]) (by rw [j38 2 (by decide), x6.2.2]; exact n2) (by omega) rfl (by omega) (by omega) (Or.inl ⟨rfl, hub, rfl⟩)
        · rw [jr 39 (by decide) (by omega)]; exact n39
        · rw [jr (D + 13) (by omega) (by omega)]; exact n13
        · rw [jr 40 (by decide) (by omega)]; exact n40
        · rw [if_neg (by decide), j13]
          have : c3 D 13 = (h0 : Int) := by rw [x3.1 D (by omega)]; exact hh0
          rw [show h = h0 by omega]
        · rw [jr q (by omega) (by omega), nr q (by omega) (by omega) (by omega) (by omega) (by omega)]
      · refine IH _ _ (by omega) (by omega) (CT_cx cx5 hT4) (FC_cx cx5 hF4) (sset_self _ _ _ _) (Or.inr (Or.inl ⟨by rw [sset_place _ _ _ (by decide)]; exact n1, hub⟩)) (INV_cx hD cx5 ?_)
        refine ref _ _ 0 (sk T n (sk T n p + 1)) ⟨n39, n13, n40, fun h hh => ?_, fun q hq => nr q (by omega) (by omega) (by omega) (by omega) (by omega)⟩ (fun j j1 _ => nj j j1) n10 (nr (D + 9) (by omega) (by omega) (by omega) (by omega) (by omega)) (n38 0 (by decide) (by decide)) n2 hle2 (sk_sk (by omega)) (by omega) (by omega) (Or.inr ⟨rfl, hub, rfl⟩)
        rw [if_pos rfl, nj 13 (by decide)]; exact hh
    · -- the name is taken
      refine ⟨Or.inl rfl, hK' _ _ (KT_no h33 (HQ _ _ (FC_cx x3 hF) (PR_node (by have := sk_le (T := T) hp; omega) hI (fun z m a0 φ e N S B nd ck ts tm dp hL K hd => ?_))))⟩
      obtain ⟨u1, u2, u3, u4, u5, u6⟩ := NH_r hL
      have hpe := hL.2.2.2.2.2.1
      have g39 : m 23 (T (sk T n p) - 65).toNat ≠ -1 := by rw [← u6 _ (by omega), ← x3.1 39 (by decide)]; exact g
      rw [hpe] at hd hch g39 q1 q2
      refine r_node hL.1 u1 hL.2.2.2.1 hL.2.1 hL.2.2.1 u2 u3 u4 u5 (fun g => absurd hL.2.2.2.2.1 g) (fun _ g => by omega) (fun _ _ _ _ => hd) (fun _ _ _ g => ?_)
      rw [hch] at g; exact absurd g g39
end HNODE
