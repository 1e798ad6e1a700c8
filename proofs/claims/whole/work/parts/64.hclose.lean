/-! ===== pure layer: the end of a block, read by both ===== -/
section HCLOSE
variable {T : Nat → Int} {n D a a' am : Nat} {z c c' m m' : St} {φ : Nat → Nat} {e : Nat → Int} {N S B nd ck ts tm dp b : Nat} {R : St → St → Prop} {Q : St → Int → Prop} {w x y f w' x' y' : Int}
/-- the numbers after a change of depth -/
theorem YY_dp {dp' : Nat} (h : YY c m D N S B nd ck ts tm dp) (hm : ∀ j, j ≠ 36 → j ≠ 39 → m' 0 j = m 0 j) (h39 : m' 0 39 = (dp' : Int)) (hc : c' D = c D) (h9 : c' (D + 9) 0 = c (D + 9) 0) (h38 : c' 38 0 = c 38 0) : YY c' m' D N S B nd ck ts tm dp' := by
  obtain ⟨y1, y2, y3, y4, y5, y6, y7, y8, y9, y10, y11, y12, y13, y14, y15, y16⟩ := h
  unfold YY
  rw [hm 15 (by decide) (by decide), hm 19 (by decide) (by decide), hm 25 (by decide) (by decide), hm 30 (by decide) (by decide), hm 32 (by decide) (by decide), hm 33 (by decide) (by decide), h39, hc, h9, h38]
  exact ⟨y1, y2, y3, y4, y5, y6, rfl, y8, y9, y10, y11, y12, y13, y14, y15, y16⟩
/-- a test's block is closed by both -/
theorem LH_pop {p pm : Nat} {k : Int} (hD : D = 2 ∨ D = 20) (hd : 2 ≤ dp) (h2 : m 15 (m 25 (dp - 1)).toNat = 2) (hpm : pm ≤ n) (hsk : sk T n pm = sk T n p) (hap : a ≤ p) (hL : LH T n z D c a m am φ e N S B nd ck ts tm dp) : LH T n z D (sset (sset c 38 2 ((dp : Int) - 1)) 38 1 k) p (sset (sset m 0 36 (pm : Int)) 0 39 ((dp : Int) - 1)) pm φ e N S B nd ck ts tm (dp - 1) := by
  obtain ⟨h1, e6, e7, h4, h5, h6, h7, h8, h9, h10, h11, h12, h13⟩ := hL
  have rq : RQ m (sset (sset m 0 36 (pm : Int)) 0 39 ((dp : Int) - 1)) := RQ_tr RQ_0 RQ_0
  have cq : CQ c (sset (sset c 38 2 ((dp : Int) - 1)) 38 1 k) D := ⟨fun q hq => by rw [sset_row _ _ _ (by omega), sset_row _ _ _ (by omega)], by rw [sset_row _ _ _ (by omega), sset_row _ _ _ (by omega)]⟩
  have ed : ((dp : Int) - 1) = ((dp - 1 : Nat) : Int) := by omega
  refine ⟨PS_fld (PS_at h1 _) 39 _ rfl (by decide) (by decide), ?_, ?_, hpm, hsk, ?_, ?_, by omega, SY_rq rq cq (SY_pop (by omega) h2 h9), ⟨?_, ?_⟩, ?_, by omega, by omega⟩
  · rw [sset_place _ _ _ (by decide), sset_self]
  · rw [sset_place _ _ _ (by decide), at_37]; exact e7
  · refine YY_dp h6 (fun j j1 j2 => by rw [sset_place _ _ _ j2, at_x j1]) (by rw [sset_self, ed]) (by rw [sset_row _ _ _ (by omega), sset_row _ _ _ (by omega)]) (by rw [sset_row _ _ _ (by omega), sset_row _ _ _ (by omega)]) (by rw [sset_place _ _ _ (by decide), sset_place _ _ _ (by decide)])
  · rw [sset_place _ _ _ (by decide), sset_self, ed]
  · rw [rq 3 (by decide) (by decide), rq 8 (by decide) (by decide)]; exact h10.1
  · exact YR_rq rq (fun d hdd => h10.2 d (by omega))
  · rw [oc_rq rq]
    have := oc_mono (m := m) (show dp - 1 ≤ dp by omega)
    omega
/-- the reference at the end of a block: what it needs -/
theorem LH_closes (hL : LH T n z D c a m am φ e N S B nd ck ts tm dp) (ha : a ≤ n) : 1 < m 0 39 → 0 ≤ m 25 ((m 0 39) - 1).toNat ∧ m 25 ((m 0 39) - 1).toNat < 64 ∧ inR (m 15 (m 25 ((m 0 39) - 1).toNat).toNat) ∧ (m 15 (m 25 ((m 0 39) - 1).toNat).toNat = 2 → 0 ≤ m 16 (m 25 ((m 0 39) - 1).toNat).toNat ∧ m 16 (m 25 ((m 0 39) - 1).toNat).toNat < 401 ∧ inR (m 8 (m 16 (m 25 ((m 0 39) - 1).toNat).toNat).toNat)) := by
  intro _
  obtain ⟨b, b1, b2, b3⟩ := LH_cur hL
  obtain ⟨n1, n2, n3, n4, n5, n6, n7, n8⟩ := LH_n hL
  obtain ⟨h1, e6, e7, h4, h5, h6, h7, h8, h9, h10, h11, h12, h13⟩ := hL
  rw [b3, Int.toNat_natCast]
  have hDb := (h9.2.2.2.2.1.1 b b2).2.2
  have hYE := h9.2.2.2.2.2.1
  refine ⟨by omega, by omega, ⟨by omega, by omega⟩, fun g => ?_⟩
  rcases hDb with u | u | ⟨u1, u2, u3, u4, u5⟩
  · omega
  · omega
  · have := ((hYE (m 16 b).toNat (by omega)).1 u4).2.2.1
    exact ⟨by omega, by omega, ⟨by omega, by omega⟩⟩
/-- a block of a choice is closed by both -/
theorem LH_mark {p : Nat} (hD : D = 2 ∨ D = 20) (hd : 2 ≤ dp) (hb : m 25 (dp - 1) = (b : Int)) (h1k : m 15 b = 1) (hap : a < p) (hp : p ≤ n) (hx : x' = m 16 b) (hL : LH T n z D c a m am φ e N S B nd ck ts tm dp) : LH T n z D (sset (sset (cAdd c D 12 x' 0) 38 2 ((dp : Int) - 1)) 38 1 3) p (sset (sset m 0 36 (p : Int)) 0 39 ((dp : Int) - 1)) p φ (eu e b S) N (S + 1) B nd ck ts tm (dp - 1) := by
  obtain ⟨n1, n2, n3, n4, n5, n6, n7, n8⟩ := LH_n hL
  have han : a ≤ n := by omega
  obtain ⟨hCB, hown⟩ := LH_CB hD han hL
  obtain ⟨h1, e6, e7, h4, h5, h6, h7, h8, h9, h10, h11, h12, h13⟩ := hL
  obtain ⟨y1, y2, y3, y4, y5, y6, y7, y8, y9, y10, y11, y12, y13, y14, y15, y16⟩ := id h6
  have hC := AC_add (w := 12) (x := x') (y := 0) hD y8 h7 h8 y10 n3 y9 hown
  obtain ⟨f0, fj, f9⟩ := cAdd_f (c := c) (w := 12) (x := x') (y := 0) hD
  obtain ⟨k1, k38⟩ := cAdd_38 (c := c) (w := 12) (x := x') (y := 0) hD
  have rq : RQ m (sset (sset m 0 36 (p : Int)) 0 39 ((dp : Int) - 1)) := RQ_tr RQ_0 RQ_0
  have cr : ∀ q, q ≠ 38 → sset (sset (cAdd c D 12 x' 0) 38 2 ((dp : Int) - 1)) 38 1 3 q = cAdd c D 12 x' 0 q := fun q hq => by rw [sset_row _ _ _ hq, sset_row _ _ _ hq]
  have cq : CQ (cAdd c D 12 x' 0) (sset (sset (cAdd c D 12 x' 0) 38 2 ((dp : Int) - 1)) 38 1 3) D := ⟨fun q hq => cr q (by omega), by rw [cr D (by omega)]⟩
  have ed : ((dp : Int) - 1) = ((dp - 1 : Nat) : Int) := by omega
  refine ⟨PS_fld (PS_at h1 _) 39 _ rfl (by decide) (by decide), ?_, ?_, hp, rfl, ?_, ?_, by omega, ?_, ⟨?_, ?_⟩, ?_, by omega, by omega⟩
  · rw [sset_place _ _ _ (by decide), sset_self]
  · rw [sset_place _ _ _ (by decide), at_37]; exact e7
  · unfold YY
    have mj : ∀ j, j ≠ 36 → j ≠ 39 → sset (sset m 0 36 (p : Int)) 0 39 ((dp : Int) - 1) 0 j = m 0 j := fun j j1 j2 => by rw [sset_place _ _ _ j2, at_x j1]
    rw [mj 15 (by decide) (by decide), mj 19 (by decide) (by decide), mj 25 (by decide) (by decide), mj 30 (by decide) (by decide), mj 32 (by decide) (by decide), mj 33 (by decide) (by decide), sset_self, cr D (by omega), cr (D + 9) (by omega), f0, f9, fj 10 (by decide), fj 14 (by decide), fj 18 (by decide), sset_place _ 38 _ (by decide), sset_place _ 38 _ (by decide), k38 0 (by decide)]
    exact ⟨y1, y2, y3, y4, y5, y6, ed, by omega, y9, y10, y11, y12, y13, y14, y15, y16⟩
  · rw [sset_place _ _ _ (by decide), sset_self, ed]
  · refine SY_rq rq cq (SY_mark hC h8 hb (Or.inr ⟨h1k, rfl, hx⟩) ?_ ?_ ?_ h9)
    · exact cAdd_row hD (by omega) (by omega) (by omega) (by omega)
    · exact cAdd_row hD (by omega) (by omega) (by omega) (by omega)
    · exact cAdd_row hD (by omega) (by omega) (by omega) (by omega)
  · rw [rq 3 (by decide) (by decide), rq 8 (by decide) (by decide)]; exact h10.1
  · exact YR_rq rq (fun d hdd => h10.2 d (by omega))
  · rw [oc_rq rq]
    have := oc_mono (m := m) (show dp - 1 ≤ dp by omega)
    omega
/-- the class opens a block -/
def cOp (c : St) (dp : Nat) (v : Int) : St := sset (sset (sset (sset c 38 2 ((dp : Int) + 1)) 40 (dp + 1) (-1)) 41 (dp + 1) v) 38 1 3
theorem t_opens {v : Int} (hd : c 38 2 = (dp : Int)) (hd1 : 1 ≤ dp) (hd6 : dp ≤ 6) (hv : v = 0 ∨ v = 1) (h1 : dp < 6 → Q (cOp c dp v) 1) (h0 : dp = 6 → Q c 0) : f_X6_opensBlock v c Q := by
  unfold f_X6_opensBlock
  rw [hd]
  refine ⟨⟨by omega, by omega⟩, fun g => by omega, fun _ => ⟨⟨by omega, by omega⟩, fun g σ1 e1 => ?_, fun g => h0 (by omega)⟩⟩
  have f1 : σ1 38 2 = (dp : Int) + 1 := by rw [e1, sset_self]
  rw [f1, show ((dp : Int) + 1).toNat = dp + 1 by omega]
  refine ⟨by omega, by omega, fun σ2 e2 => ?_⟩
  have f2 : σ2 38 2 = (dp : Int) + 1 := by rw [e2, sset_row _ _ _ (by decide), f1]
  rw [f2, show ((dp : Int) + 1).toNat = dp + 1 by omega]
  refine ⟨by omega, by omega, hv, fun σ3 e3 => t_await ⟨Or.inr rfl, ?_⟩⟩
  rw [e3, e2, e1]
  exact h1 (by omega)
theorem OC_op (hD : D = 2 ∨ D = 20) {v : Int} : OC c (cOp c dp v) D dp v := by
  unfold OC cOp
  refine ⟨?_, ?_, fun q hq => ?_, ?_⟩
  · rw [sset_row _ _ _ (by decide), sset_row _ _ _ (by decide), sset_same, sset_row _ _ _ (by decide)]
  · rw [sset_row _ _ _ (by decide), sset_same, sset_row _ _ _ (by decide), sset_row _ _ _ (by decide)]
  · rw [sset_row _ _ _ (by omega), sset_row _ _ _ (by omega), sset_row _ _ _ (by omega), sset_row _ _ _ (by omega)]
  · rw [sset_row _ _ _ (by omega), sset_row _ _ _ (by omega), sset_row _ _ _ (by omega), sset_row _ _ _ (by omega)]
theorem cOp_row {v : Int} {q : Nat} (h : q ≠ 38 ∧ q ≠ 40 ∧ q ≠ 41) : cOp c dp v q = c q := by
  unfold cOp
  rw [sset_row _ _ _ (by omega), sset_row _ _ _ (by omega), sset_row _ _ _ (by omega), sset_row _ _ _ (by omega)]
theorem cOp_38 {v : Int} : cOp c dp v 38 1 = 3 ∧ cOp c dp v 38 2 = (dp : Int) + 1 ∧ ∀ j, j ≠ 1 → j ≠ 2 → cOp c dp v 38 j = c 38 j := by
  unfold cOp
  refine ⟨sset_self _ _ _ _, ?_, fun j j1 j2 => ?_⟩
  · rw [sset_place _ _ _ (by decide), sset_row _ _ _ (by decide), sset_row _ _ _ (by decide), sset_self]
  · rw [sset_place _ _ _ j1, sset_row _ _ _ (by decide), sset_row _ _ _ (by decide), sset_place _ _ _ j2]
/-- a block is opened by both: from a relation whose row of term ends is already right -/
theorem oc_open {s : Nat} {v k o : Int} (hA : OM m m' s B b dp v k o) (hsN : s < N) (hk : OKd m s v k o) (hYD : YD m N B nd ck) (hYE : YE m N B ck ts) (hYS : YS m e N B nd dp) : oc m' (dp + 1) = oc m dp + (if v = 0 ∧ k = 2 then 1 else 0) := by
  have e8 := OM_89 hA
  obtain ⟨-, -, h15, h16, h17, h18, h19, h25, hr⟩ := hA
  have hz := ok_8 hk
  have hEs := hYE s hsN
  have old : oc m' dp = oc m dp := by
    refine oc_cong dp (fun d hd => ?_)
    have q1 := hYS.2.1 d hd
    rw [up_ne h25 (by omega), up_ne h15 (by omega), up_ne h16 (by omega)]
    have hDd := (hYD.1 (m 25 d).toNat (by omega)).2.2
    have key : m 15 (m 25 d).toNat = 2 → m' 8 (m 16 (m 25 d).toNat).toNat = m 8 (m 16 (m 25 d).toNat).toNat := by
      intro u
      refine e8.1 _ ?_
      by_cases t : (m 16 (m 25 d).toNat).toNat = s
      · right
        rcases hDd with r | r | ⟨r1, r2, r3, r4, r5⟩
        · omega
        · omega
        · rw [t] at r4 r5
          have := (hEs.1 r4).2.2.2
          omega
      · exact Or.inl t
    constructor
    · rintro ⟨u1, u2⟩
      exact ⟨u1, by rw [key u1] at u2; exact u2⟩
    · rintro ⟨u1, u2⟩
      exact ⟨u1, by rw [key u1]; exact u2⟩
  show oc m' dp + (if m' 15 (m' 25 dp).toNat = 2 ∧ m' 8 (m' 16 (m' 25 dp).toNat).toNat = m' 25 dp then 1 else 0) = _
  rw [old, up_at h25, Int.toNat_natCast, up_at h15, up_at h16]
  congr 1
  rcases hk with ⟨k1, k2, k3, k4, k5⟩ | ⟨k1, k2, k3, k4, k5, k6⟩ | ⟨k1, k2, k3, k4, k5⟩
  · have : m' 8 o.toNat = B := by rw [k3, Int.toNat_natCast]; exact e8.2.1 k4
    rw [if_pos (show k = 2 ∧ m' 8 o.toNat = B from ⟨k1, this⟩), if_pos ⟨k4, k1⟩]
  · rw [if_neg (show ¬ (v = 0 ∧ k = 2) from fun u => by omega), if_neg]
    rintro ⟨-, u⟩
    rw [k3, Int.toNat_natCast, e8.1 s (Or.inr k4)] at u
    have := (hEs.1 k2).2.2.1
    omega
  · rw [if_neg (show ¬ (v = 0 ∧ k = 2) from fun u => by omega), if_neg]
    rintro ⟨u, -⟩; omega
theorem YR_open {s : Nat} {v k o : Int} (hA : OM m m' s B b dp v k o) (hsN : s < N) (hk : OKd m s v k o) (h9s : v = 0 → m 9 s = -1) (hYD : YD m N B nd ck) (hYE : YE m N B ck ts) (hYS : YS m e N B nd dp) (hns : ∀ d, d < dp → m 15 (m 25 d).toNat = 2 → m 16 (m 25 d).toNat ≠ s) (h : YR m dp) : YR m' (dp + 1) := by
  have e8 := OM_89 hA
  obtain ⟨-, -, h15, h16, h17, h18, h19, h25, hr⟩ := hA
  have hEs := hYE s hsN
  intro d hd
  by_cases g : d = dp
  · rw [g, up_at h25, Int.toNat_natCast, up_at h15, up_at h16]
    intro g1 g2
    rcases hk with ⟨k1, k2, k3, k4, k5⟩ | ⟨k1, k2, k3, k4, k5, k6⟩ | ⟨k1, k2, k3, k4, k5⟩
    · rw [k3, Int.toNat_natCast, e8.2.2.1 s (Or.inr k4)]
      exact h9s k4
    · exfalso
      rw [k3, Int.toNat_natCast, e8.1 s (Or.inr k4)] at g2
      have := (hEs.1 k2).2.2.1
      omega
    · omega
  · have q1 := hYS.2.1 d (by omega)
    rw [up_ne h25 g, up_ne h15 (by omega), up_ne h16 (by omega)]
    intro g1 g2
    have hne := hns d (by omega) g1
    have hDd := (hYD.1 (m 25 d).toNat (by omega)).2.2
    have ne : (m 16 (m 25 d).toNat).toNat ≠ s := by omega
    rw [e8.1 _ (Or.inl ne)] at g2
    rw [e8.2.2.1 _ (Or.inl ne)]
    exact h d (by omega) g1 g2
/-- no open block is owned by the last statement of the innermost one -/
theorem SY_ns (hd : 0 < dp) (hcur : m 25 (dp - 1) = (b : Int)) {s : Nat} (hs : m 18 b = s) (hYC : YC m N B) (hYS : YS m e N B nd dp) (hb : b < B) : ∀ d, d < dp → m 15 (m 25 d).toNat = 2 → m 16 (m 25 d).toNat ≠ s := by
  obtain ⟨s0, s1, s2, s3, s4, s5, s6⟩ := hYS
  intro d hdp g1 g2
  cases d with
  | zero => have := (s3 hd).1; omega
  | succ d =>
    rcases s4 d hdp with ⟨u1, u2⟩ | ⟨u1, -⟩
    · have p1 := s1 d (by omega)
      have p2 := s2 d (dp - 1) (by omega) (by omega)
      rcases hYC b hb with ⟨-, t⟩ | ⟨-, -, -, t4, t5, t6, -⟩
      · omega
      · rcases hYC (m 25 d).toNat (by omega) with ⟨-, r⟩ | ⟨-, -, -, r4, r5, r6, -⟩
        · omega
        · have : m 18 (m 25 d).toNat = m 18 b := by omega
          rw [this, t6] at r6
          omega
    · omega
end HCLOSE
