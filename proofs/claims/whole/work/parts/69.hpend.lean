/-! ===== pure layer: a statement whose block isn't open yet ===== -/
def LQ (T : Nat → Int) (n : Nat) (z : St) (D : Nat) (c : St) (a : Nat) (m : St) (am : Nat) (φ : Nat → Nat) (e : Nat → Int) (N S B nd ck ts tm dp : Nat) (kk : Int) (u : Nat) : Prop :=
  PS T n z m ∧ m 0 36 = (am : Int) ∧ m 0 37 = 1 ∧ am ≤ n ∧ sk T n am = sk T n a ∧ YY c m D N S B nd ck ts tm dp ∧ c 38 2 = (dp : Int) ∧ 0 < dp ∧ SY c (sset m 11 (N - 1) (tm : Int)) D φ e N S B nd ck ts tm dp ∧ (0 < N ∧ m 18 (m 25 (dp - 1)).toNat = ((N - 1 : Nat) : Int) ∧ m 3 (N - 1) = kk ∧ m 8 (N - 1) = -1 ∧ m 9 (N - 1) = -1) ∧ (∀ s, s < N - 1 → m 3 s = 3 ∨ m 3 s = 4 → m 8 s ≠ -1) ∧ YR m dp ∧ B + oc m dp + (if kk = 3 then 2 else 1) ≤ nd + ck + 2 * ts ∧ S + 2 ≤ a ∧ 2 * tm + u ≤ a
def cKK (K0 : St → Prop) (kk s : Int) : St → Prop := if kk = 3 then (fun τ => f_X10_opens 2 s s 0 τ K0) else (fun τ => f_X10_readsChoice_J108 K0 τ s)
def CINV (T : Nat → Int) (n D : Nat) (c : St) (a : Nat) (kk : Int) : Prop := ∀ b z, SRC T n b z → ∃ m am φ e N S B nd ck ts tm dp, LQ T n z D c a m am φ e N S B nd ck ts tm dp kk 3 ∧ ∀ Qm : St → Int → Prop, (∀ fu fc, 500 ≤ fu + am → 500 ≤ fc + am → f_X10_readsCondition_L2 (cKK (KA Qm fu) kk ((N - 1 : Nat) : Int)) fc m ((N - 1 : Nat) : Int) 1) → f_X10_readsAll b z Qm
def BINV (T : Nat → Int) (n D : Nat) (c : St) (a : Nat) : Prop := ∀ b z, SRC T n b z → ∃ m am φ e N S B nd ck ts tm dp, LQ T n z D c a m am φ e N S B nd ck ts tm dp 4 2 ∧ m 11 (N - 1) = (tm : Int) ∧ ∀ Qm : St → Int → Prop, (∀ fu, 500 ≤ fu + am → f_X10_opens 1 (m 4 (N - 1)) ((N - 1 : Nat) : Int) 0 m (KA Qm fu)) → f_X10_readsAll b z Qm
section HPEND
variable {T : Nat → Int} {n D a a' am p u u' : Nat} {z c c' m m' : St} {φ : Nat → Nat} {e : Nat → Int} {N S B nd ck ts tm dp b : Nat} {R : St → St → Prop} {Q : St → Int → Prop} {w x y f w' x' y' kk : Int}
theorem LQ_cx (hD : D = 2 ∨ D = 20) (h : CX c c') (hL : LQ T n z D c a m am φ e N S B nd ck ts tm dp kk u) : LQ T n z D c' a m am φ e N S B nd ck ts tm dp kk u := by
  obtain ⟨h1, h2, h3, h4, h5, h6, h7, h8, h9, h10⟩ := hL
  refine ⟨h1, h2, h3, h4, h5, ?_, by rw [h.2.2]; exact h7, h8, SY_rq RQ_rfl (CQ_cx hD h) h9, h10⟩
  unfold YY at *
  rw [h.1 D (by omega), h.1 (D + 9) (by omega), h.2.1]
  exact h6
theorem CINV_cx (hD : D = 2 ∨ D = 20) (h : CX c c') (hI : CINV T n D c a kk) : CINV T n D c' a kk := by
  intro b z hs
  obtain ⟨m, am, φ, e, N, S, B, nd, ck, ts, tm, dp, hL, hR⟩ := hI b z hs
  exact ⟨m, am, φ, e, N, S, B, nd, ck, ts, tm, dp, LQ_cx hD h hL, hR⟩
theorem BINV_cx (hD : D = 2 ∨ D = 20) (h : CX c c') (hI : BINV T n D c a) : BINV T n D c' a := by
  intro b z hs
  obtain ⟨m, am, φ, e, N, S, B, nd, ck, ts, tm, dp, hL, hR⟩ := hI b z hs
  exact ⟨m, am, φ, e, N, S, B, nd, ck, ts, tm, dp, LQ_cx hD h hL, hR⟩
/-- what the class has of the pending statement -/
theorem LQ_cl (hkk : kk = 3 ∨ kk = 4) (hL : LQ T n z D c a m am φ e N S B nd ck ts tm dp kk u) : c 38 0 = (D : Int) ∧ c (D + 9) 0 = (tm : Int) ∧ c 38 2 = (dp : Int) ∧ 1 ≤ dp ∧ dp ≤ 6 ∧ c 40 dp = ((φ (N - 1) : Nat) : Int) ∧ φ (N - 1) < S ∧ c D 0 = (S : Int) ∧ c (D + 1) (φ (N - 1)) = (if kk = 3 then 6 else 7) ∧ N ≤ S ∧ n ≤ 400 ∧ (∃ b : Nat, m 25 (dp - 1) = (b : Int) ∧ b < B ∧ m 25 ((m 0 39) - 1).toNat = (b : Int) ∧ m 18 b = ((N - 1 : Nat) : Int)) ∧ B ≤ 60 := by
  obtain ⟨h1, h2, h3, h4, h5, h6, h7, h8, h9, ⟨p1, p2, p3, p4, p5⟩, h11, h12, h13, h14, h15⟩ := hL
  obtain ⟨y1, y2, y3, y4, y5, y6, y7, y8, y9, y10, y11, y12, y13, y14, y15, y16⟩ := h6
  obtain ⟨hP, hYA, hYB, hYC, hYD, hYE, hYF, hYS, hYN, hYV, hYO, hYL, hYK, -⟩ := h9
  have hS := hYS.2.1 (dp - 1) (by omega)
  rw [sset_row (c' := 25) _ _ _ (by decide)] at hS
  have l1 := hYL.1 (dp - 1) (by omega)
  rw [sset_row (c' := 25) _ _ _ (by decide), sset_row (c' := 18) _ _ _ (by decide), p2, show dp - 1 + 1 = dp by omega, lp_p (by omega), Int.toNat_natCast] at l1
  have hk := hYK (N - 1) (by omega)
  rw [sset_row (c' := 3) _ _ _ (by decide), p3] at hk
  have hb : (((m 25 (dp - 1)).toNat : Nat) : Int) = m 25 (dp - 1) := by omega
  refine ⟨y13, y9, h7, by omega, hYS.1, l1, hP.1 _ (by omega), y8, ?_, YP_le hP, h1.1.1, ⟨(m 25 (dp - 1)).toNat, by omega, by omega, by rw [y7, show ((dp : Int) - 1).toNat = dp - 1 by omega]; omega, p2⟩, by split at h13 <;> omega⟩
  rcases hkk with g | g
  · rw [if_pos g]
    rcases hk with ⟨q, -⟩ | ⟨q, -⟩ | ⟨q, -⟩ | ⟨q, q2, -⟩ | ⟨q, -⟩ | ⟨q, -⟩ | ⟨q, -⟩ | ⟨q, -⟩
    · omega
    · omega
    · omega
    · exact q2
    · omega
    · omega
    · omega
    · omega
  · rw [if_neg (by omega)]
    rcases hk with ⟨q, -⟩ | ⟨q, -⟩ | ⟨q, -⟩ | ⟨q, -⟩ | ⟨q, q2, -⟩ | ⟨q, -⟩ | ⟨q, -⟩ | ⟨q, -⟩
    · omega
    · omega
    · omega
    · omega
    · exact q2
    · omega
    · omega
    · omega
/-- the block of the pending statement is opened -/
theorem LQ_open {p : Nat} {k o : Int} (hD : D = 2 ∨ D = 20) (hp : p ≤ n) (hap : a < p) (hm11 : m 11 (N - 1) = (tm : Int)) (hd6 : dp < 6) (hu : 2 ≤ u) (hb : m 25 (dp - 1) = (b : Int)) (hko : (kk = 3 ∧ k = 2 ∧ o = ((N - 1 : Nat) : Int)) ∨ (kk = 4 ∧ k = 1 ∧ o = m 4 (N - 1))) (hL : LQ T n z D c a m am φ e N S B nd ck ts tm dp kk u) : LH T n z D (cOp c dp 0) p (mBk (sset (sset m 0 36 (p : Int)) 8 (N - 1) (m 0 25)) k o (m 19 b)) p φ (eu e B (-1)) N S (B + 1) nd ck ts tm (dp + 1) := by
  obtain ⟨h1, h2, h3, h4, h5, h6, h7, h8, h9, ⟨p1, p2, p3, p4, p5⟩, h11, h12, h13, h14, h15⟩ := hL
  rw [sset_id _ _ _ hm11] at h9
  rw [hb, Int.toNat_natCast] at p2
  refine LH_open (v := 0) hD h1 h3 hp h6 h7 h8 hd6 hb p2 (Or.inl rfl) ?_ (fun _ => p5) (fun t ht hne h => h11 t (by omega) h) h12 ?_ (by omega) (by omega) h9
  · rcases hko with ⟨g1, g2, g3⟩ | ⟨g1, g2, g3⟩
    · left; exact ⟨g2, by rw [p3, g1], g3, rfl, p4⟩
    · right; right; exact ⟨g2, by rw [p3, g1], g3, rfl, p4⟩
  · rcases hko with ⟨g1, g2, -⟩ | ⟨g1, g2, -⟩
    · rw [if_pos ⟨rfl, g2⟩]; rw [if_pos g1] at h13; omega
    · rw [if_neg (by omega)]; rw [if_neg (by omega)] at h13; omega
/-- a term more -/
theorem LQ_term {a' pm e0 : Nat} {k o v : Int} (hD : D = 2 ∨ D = 20) (hTR : TR k o v) (hc : CX (cTm c D k o v tm (φ (N - 1))) c') (hpm : pm ≤ n) (hsk : sk T n pm = sk T n a') (haa : a < a') (hu : 2 * (tm + 1) + u' ≤ a') (hL : LQ T n z D c a m am φ e N S B nd ck ts tm dp kk u) : LQ T n z D c' a' (sset (mTm (sset m 0 36 (e0 : Int)) k o v) 0 36 (pm : Int)) pm φ e N S B nd ck ts (tm + 1) dp kk u' := by
  obtain ⟨h1, h2, h3, h4, h5, h6, h7, h8, h9, ⟨p1, p2, p3, p4, p5⟩, h11, h12, h13, h14, h15⟩ := hL
  obtain ⟨y1, y2, y3, y4, y5, y6, y7, y8, y9, y10, y11, y12, y13, y14, y15, y16⟩ := id h6
  obtain ⟨t10, t11, t12, t8, tr, t9⟩ := cTm_r (c := c) (k := k) (o := o) (v := v) (tm := tm) (xs := φ (N - 1)) hD
  obtain ⟨t1, t38⟩ := cTm_38 (c := c) (k := k) (o := o) (v := v) (tm := tm) (xs := φ (N - 1)) hD
  have mj : ∀ j, j ≠ 19 → j ≠ 36 → sset (mTm (sset m 0 36 (e0 : Int)) k o v) 0 36 (pm : Int) 0 j = m 0 j := fun j j1 j2 => by rw [at_x j2, tm_fld j1, at_x j2]
  have m19 : sset (mTm (sset m 0 36 (e0 : Int)) k o v) 0 36 (pm : Int) 0 19 = m 0 19 + 1 := by
    rw [at_x (by decide)]; unfold mTm; rw [sset_self, at_x (by decide)]
  have mr : ∀ q, q ≠ 0 → q ≠ 12 → q ≠ 13 → q ≠ 14 → sset (mTm (sset m 0 36 (e0 : Int)) k o v) 0 36 (pm : Int) q = m q := fun q q0 q1 q2 q3 => by
    rw [sset_row _ _ _ q0]; unfold mTm
    rw [sset_row _ _ _ q0, sset_row _ _ _ q3, sset_row _ _ _ q2, sset_row _ _ _ q1, sset_row _ _ _ q0]
  have mt : sset (mTm (sset m 0 36 (e0 : Int)) k o v) 0 36 (pm : Int) 12 = va_up (m 12) tm k ∧ sset (mTm (sset m 0 36 (e0 : Int)) k o v) 0 36 (pm : Int) 13 = va_up (m 13) tm o ∧ sset (mTm (sset m 0 36 (e0 : Int)) k o v) 0 36 (pm : Int) 14 = va_up (m 14) tm v := by
    unfold mTm
    rw [at_x (by decide), y2, Int.toNat_natCast]
    refine ⟨?_, ?_, ?_⟩
    · rw [sset_row _ _ _ (by decide), sset_row _ _ _ (by decide), sset_row _ _ _ (by decide), sset_row _ _ _ (by decide), sset_same, sset_row _ _ _ (by decide)]
    · rw [sset_row _ _ _ (by decide), sset_row _ _ _ (by decide), sset_row _ _ _ (by decide), sset_same, sset_row _ _ _ (by decide), sset_row _ _ _ (by decide)]
    · rw [sset_row _ _ _ (by decide), sset_row _ _ _ (by decide), sset_same, sset_row _ _ _ (by decide), sset_row _ _ _ (by decide), sset_row _ _ _ (by decide)]
  have rq15 : ∀ q, q ≠ 0 → q ≠ 12 → q ≠ 13 → q ≠ 14 → q ≠ 11 → sset (sset (mTm (sset m 0 36 (e0 : Int)) k o v) 0 36 (pm : Int)) 11 (N - 1) ((tm + 1 : Nat) : Int) q = sset m 11 (N - 1) (tm : Int) q := fun q q0 q1 q2 q3 q4 => by
    rw [sset_row _ _ _ q4, sset_row _ _ _ q4]; exact mr q q0 q1 q2 q3
  refine ⟨PS_at (PS_tm (PS_at h1 _)) _, sset_self _ _ _ _, by rw [mj 37 (by decide) (by decide)]; exact h3, hpm, hsk, ?_, by rw [hc.2.2, t38 2 (by decide)]; exact h7, h8, ?_, ⟨p1, ?_, ?_, ?_, ?_⟩, ?_, ?_, ?_, by omega, hu⟩
  · unfold YY
    rw [mj 15 (by decide) (by decide), m19, mj 25 (by decide) (by decide), mj 30 (by decide) (by decide), mj 32 (by decide) (by decide), mj 33 (by decide) (by decide), mj 39 (by decide) (by decide), hc.1 D (by omega), hc.1 (D + 9) (by omega), t9, tr D (by omega) (by omega) (by omega) (by omega) (by omega) (by omega), hc.2.1, t38 0 (by decide)]
    exact ⟨y1, by omega, y3, y4, y5, y6, y7, y8, rfl, y10, y11, y12, y13, y14, y15, y16⟩
  · refine SY_term (s := N - 1) (m := sset m 11 (N - 1) (tm : Int)) (c := c) (k := k) (o := o) (v := v) (by omega) hTR ?_ ?_ ?_ ?_ (fun q hq => rq15 q (by omega) (by omega) (by omega) (by omega) (by omega)) ?_ ?_ ?_ ?_ (fun q hq => ?_) ?_ h9
    · rw [sset_row _ _ _ (by decide), sset_row _ _ _ (by decide)]; exact mt.1
    · rw [sset_row (c' := 13) _ _ _ (by decide), sset_row (c' := 13) _ _ _ (by decide)]; exact mt.2.1
    · rw [sset_row (c' := 14) _ _ _ (by decide), sset_row (c' := 14) _ _ _ (by decide)]; exact mt.2.2
    · rw [sset_same, sset_same, vu_vu, mr 11 (by decide) (by decide) (by decide) (by decide)]
    · rw [hc.1 (D + 10) (by omega)]; exact t10
    · rw [hc.1 (D + 11) (by omega)]; exact t11
    · rw [hc.1 (D + 12) (by omega)]; exact t12
    · rw [hc.1 (D + 8) (by omega)]; exact t8
    · rw [hc.1 q (by omega)]; exact tr q (by omega) (by omega) (by omega) (by omega) (by omega) (by omega)
    · rw [hc.1 D (by omega), tr D (by omega) (by omega) (by omega) (by omega) (by omega) (by omega)]
  · rw [mr 18 (by decide) (by decide) (by decide) (by decide), mr 25 (by decide) (by decide) (by decide) (by decide)]; exact p2
  · rw [mr 3 (by decide) (by decide) (by decide) (by decide)]; exact p3
  · rw [mr 8 (by decide) (by decide) (by decide) (by decide)]; exact p4
  · rw [mr 9 (by decide) (by decide) (by decide) (by decide)]; exact p5
  · rw [mr 3 (by decide) (by decide) (by decide) (by decide), mr 8 (by decide) (by decide) (by decide) (by decide)]; exact h11
  · unfold YR
    rw [mr 15 (by decide) (by decide) (by decide) (by decide), mr 25 (by decide) (by decide) (by decide) (by decide), mr 16 (by decide) (by decide) (by decide) (by decide), mr 8 (by decide) (by decide) (by decide) (by decide), mr 9 (by decide) (by decide) (by decide) (by decide)]
    exact h12
  · have : oc (sset (mTm (sset m 0 36 (e0 : Int)) k o v) 0 36 (pm : Int)) dp = oc m dp := oc_cong dp (fun d _ => by
      rw [mr 15 (by decide) (by decide) (by decide) (by decide), mr 25 (by decide) (by decide) (by decide) (by decide), mr 16 (by decide) (by decide) (by decide) (by decide), mr 8 (by decide) (by decide) (by decide) (by decide)])
    rw [this]; exact h13
/-- the place alone, and the term's end -/
theorem LQ_11 {q : Nat} (hq : q ≤ n) (hsk : sk T n q = sk T n a') (haa : a ≤ a') (hL : LQ T n z D c a m am φ e N S B nd ck ts tm dp kk u) : LQ T n z D c a' (sset (sset m 11 (N - 1) (tm : Int)) 0 36 (q : Int)) q φ e N S B nd ck ts tm dp kk u := by
  obtain ⟨h1, h2, h3, h4, h5, h6, h7, h8, h9, ⟨p1, p2, p3, p4, p5⟩, h11, h12, h13, h14, h15⟩ := hL
  have mr : ∀ q', q' ≠ 0 → q' ≠ 11 → sset (sset m 11 (N - 1) (tm : Int)) 0 36 (q : Int) q' = m q' := fun q' q0 q1 => by rw [sset_row _ _ _ q0, sset_row _ _ _ q1]
  have mj : ∀ j, j ≠ 36 → sset (sset m 11 (N - 1) (tm : Int)) 0 36 (q : Int) 0 j = m 0 j := fun j hj => by rw [at_x hj, sset_row _ _ _ (by decide)]
  refine ⟨PS_at (PS_cell h1 _ _ _ (by decide) (by decide)) _, sset_self _ _ _ _, by rw [mj 37 (by decide)]; exact h3, hq, hsk, ?_, h7, h8, ?_, ⟨p1, ?_, ?_, ?_, ?_⟩, ?_, ?_, ?_, by omega, by omega⟩
  · unfold YY at *
    rw [mj 15 (by decide), mj 19 (by decide), mj 25 (by decide), mj 30 (by decide), mj 32 (by decide), mj 33 (by decide), mj 39 (by decide)]
    exact h6
  · refine SY_rq (fun q' a1 a2 => ?_) CQ_rfl h9
    by_cases g : q' = 11
    · rw [g, sset_same, sset_row _ _ _ (by decide), sset_same, vu_vu]
    · rw [sset_row _ _ _ g, sset_row _ _ _ (by omega)]
  · rw [mr 18 (by decide) (by decide), mr 25 (by decide) (by decide)]; exact p2
  · rw [mr 3 (by decide) (by decide)]; exact p3
  · rw [mr 8 (by decide) (by decide)]; exact p4
  · rw [mr 9 (by decide) (by decide)]; exact p5
  · rw [mr 3 (by decide) (by decide), mr 8 (by decide) (by decide)]; exact h11
  · unfold YR
    rw [mr 15 (by decide) (by decide), mr 25 (by decide) (by decide), mr 16 (by decide) (by decide), mr 8 (by decide) (by decide), mr 9 (by decide) (by decide)]
    exact h12
  · have : oc (sset (sset m 11 (N - 1) (tm : Int)) 0 36 (q : Int)) dp = oc m dp := oc_cong dp (fun d _ => by
      rw [mr 15 (by decide) (by decide), mr 25 (by decide) (by decide), mr 16 (by decide) (by decide), mr 8 (by decide) (by decide)])
    rw [this]; exact h13
/-- the reference opens the pending statement's block, or fails there -/
theorem LQ_ropens {k o : Int} {K : St → Prop} (ha : a ≤ n) (hkk : kk = 3 ∨ kk = 4) (hb : m 25 (dp - 1) = (b : Int)) (hL : LQ T n z D c a m am φ e N S B nd ck ts tm dp kk u)
    (hy : ch T n (sk T n a) = 123 → dp < 6 → K (mBk (sset (sset m 0 36 ((sk T n a + 1 : Nat) : Int)) 8 (N - 1) (m 0 25)) k o (m 19 b)))
    (hn : (ch T n (sk T n a) ≠ 123 ∨ dp = 6) → DE T n z K (sk T n a)) : f_X10_opens k o ((N - 1 : Nat) : Int) 0 m K := by
  obtain ⟨l0, l9, l2, ld1, ld6, l40, lS, lD, lso, lN, ln, ⟨b', lb1, lb2, lb3, lb4⟩, lB⟩ := LQ_cl hkk hL
  have hbb : b' = b := by omega
  subst hbb
  obtain ⟨h1, h2, h3, h4, h5, h6, h7, h8, h9, ⟨p1, p2, p3, p4, p5⟩, h11, h12, h13, h14, h15⟩ := hL
  obtain ⟨y1, y2, y3, y4, y5, y6, y7, y8, y9, y10, y11, y12, y13, y14, y15, y16⟩ := id h6
  refine r_opens (a := am) (Or.inl rfl) h1 h4 h2 h3 (by omega) (by omega) (by rw [y7]; omega) (by rw [y7]; omega) (by rw [lb3]; omega) (by rw [lb3]; omega) (by rw [y3]; omega) (fun _ _ => by rw [y3]; omega) (fun g1 g2 => ?_) (fun g => ?_)
  · rw [h5] at g1 ⊢
    rw [y7] at g2
    rw [lb3, Int.toNat_natCast, if_pos rfl, Int.toNat_natCast]
    exact hy g1 (by omega)
  · rw [h5] at g ⊢
    rw [y7] at g
    exact hn (by omega)
end HPEND
