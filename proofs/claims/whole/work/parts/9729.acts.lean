/-! ===== pure layer: calls that act ===== -/
section ACTS
variable {c m c1 m1 : St} {KB a : Int}
theorem Jx_text (h : Jx KB c m) (hz : HIz c1 m1) (hT : JTx c1 m1) (h02 : c1 0 2 = c 0 2) (h03 : c1 0 3 = c 0 3) (hc : ∀ q, 2 ≤ q → c1 q = c q) (hm : ∀ q, 2 ≤ q → m1 q = m q) (h0 : ∀ i, i ≠ 1 → i ≠ 5 → m1 0 i = m 0 i) : Jx KB c1 m1 := by
  obtain ⟨-, -, D, a3, a4⟩ := h
  exact ⟨hz, hT, D, JA_fr a3 h02 h03 hc hm h0, JB_fr a3.1 (Int.le_refl _) a4 hc hm h0⟩
theorem Q_type (hJ : Jx KB c m) (ha : inR a) : JRi (Jx KB) (f_X9_type a c) (f_X10_type a m) (fun e v => (e = IAE ∧ v = 1) ∨ (e = ISE ∧ v = 2)) := by
  have hJ' := hJ
  obtain ⟨hz, ⟨n, n1, n2, n3, n4⟩, -⟩ := hJ'
  by_cases ok : 0 ≤ a ∧ a ≤ 255
  · by_cases full : n = 400
    · refine q_thr (r := 0) (v := 2) (e := ISE) hJ (Or.inr (Or.inl rfl)) (Or.inr ⟨rfl, rfl⟩) (fun Q hQ => ?_) (fun Q E hE => ?_)
      · exact s_type ha (by omega) (by omega) (fun u => by omega) (fun _ _ _ => by rw [sset_twice]; exact hQ) (fun _ _ u => by omega)
      · unfold f_X9_type f_X9_type_J40
        rw [n2]
        exact ⟨ha, fun u => by omega, fun _ => ⟨ha, fun _ => ⟨⟨by omega, by omega⟩, fun _ => hE, fun _ => ⟨⟨by omega, by omega⟩, fun u => by omega, fun _ => hE⟩⟩, fun u => by omega⟩⟩
    · obtain ⟨c1, e1⟩ : ∃ c1 : St, c1 = sset (sset c 1 n a) 0 1 ((n : Int) + 1) := ⟨_, rfl⟩
      obtain ⟨m1, f1⟩ : ∃ m1 : St, m1 = sset (sset (sset m 0 5 0) 1 n a) 0 1 ((n : Int) + 1) := ⟨_, rfl⟩
      have c00 : ∀ i, i ≠ 1 → c1 0 i = c 0 i := fun i hi => by rw [e1, sset_place _ _ _ hi, sset_row _ _ _ (by decide)]
      have cq : ∀ q, 2 ≤ q → c1 q = c q := fun q hq => by rw [e1, sset_row _ _ _ (by omega), sset_row _ _ _ (by omega)]
      have mq : ∀ q, 2 ≤ q → m1 q = m q := fun q hq => by rw [f1, sset_row _ _ _ (by omega), sset_row _ _ _ (by omega), sset_row _ _ _ (by omega)]
      have m00 : ∀ i, i ≠ 1 → i ≠ 5 → m1 0 i = m 0 i := fun i x y => by rw [f1, sset_place _ _ _ x, sset_row _ _ _ (by decide), sset_place _ _ _ y]
      have cn : c1 0 1 = (n : Int) + 1 := by rw [e1, sset_at, vu_eq]
      have mn : m1 0 1 = (n : Int) + 1 := by rw [f1, sset_at, vu_eq]
      have m5 : m1 0 5 = 0 := by rw [f1, sset_place _ _ _ (by decide), sset_row _ _ _ (by decide), sset_at, vu_eq]
      have cr : c1 1 = va_up (c 1) n a := by rw [e1, sset_row _ _ _ (by decide), sset_at]
      have mr : m1 1 = va_up (m 1) n a := by rw [f1, sset_row _ _ _ (by decide), sset_at, sset_row _ _ _ (by decide)]
      have z1 : HIz c1 m1 := ⟨fun q hq => by rw [cq q (by omega)]; exact hz.1 q hq, fun q hq => by rw [mq q (by omega)]; exact hz.2 q hq⟩
      have jt : JTx c1 m1 := by
        refine ⟨n + 1, by omega, by rw [cn]; omega, by rw [mn]; omega, fun j hj => ?_⟩
        rw [cr, mr]
        by_cases z : j = n
        · rw [z, vu_eq, vu_eq]; exact ⟨rfl, ok.1, ok.2⟩
        · rw [vu_ne _ _ z, vu_ne _ _ z]; exact n4 j (by omega)
      refine ⟨c1, m1, (n : Int) + 1, z1, Jx_text hJ z1 jt (c00 2 (by decide)) (c00 3 (by decide)) cq mq m00, by rw [m5]; exact ⟨by decide, by decide⟩, fun Q hQ => ?_, Or.inl ⟨m5, fun Q E hQ => ?_⟩⟩
      · refine s_type ha (by omega) (by omega) (fun u => by omega) (fun _ _ u => by omega) (fun _ _ _ => ?_)
        rw [n3, Int.toNat_natCast, ← f1]; exact hQ
      · unfold f_X9_type
        rw [n2]
        refine ⟨ha, fun u => by omega, fun _ => ⟨ha, fun _ => ⟨⟨by omega, by omega⟩, fun u => by omega, fun _ => ⟨⟨by omega, by omega⟩, fun _ => ⟨by omega, by omega, ?_⟩, fun u => by omega⟩⟩, fun u => by omega⟩⟩
        rintro σ1 rfl
        rintro σ2 rfl
        rw [Int.toNat_natCast, sset_row (c' := 0) _ _ _ (by decide), n2, ← e1, cn]
        exact hQ
  · refine q_thr (r := 0) (v := 1) (e := IAE) hJ (Or.inl rfl) (Or.inl ⟨rfl, rfl⟩) (fun Q hQ => ?_) (fun Q E hE => ?_)
    · exact s_type ha (by omega) (by omega) (fun _ => by rw [sset_twice]; exact hQ) (fun u w _ => by omega) (fun u w _ => by omega)
    · unfold f_X9_type f_X9_type_J11
      exact ⟨ha, fun _ => hE, fun _ => ⟨ha, fun u => by omega, fun _ => hE⟩⟩
theorem Q_clear (hJ : Jx KB c m) : JRn (Jx KB) (f_X9_clearText c) (f_X10_clearText m) := by
  have hJ' := hJ
  obtain ⟨hz, ⟨n, n1, n2, n3, n4⟩, -⟩ := hJ'
  have cq : ∀ q, 2 ≤ q → sset c 0 1 0 q = c q := fun q hq => sset_row _ _ _ (by omega)
  have mq : ∀ q, 2 ≤ q → sset (sset m 0 5 0) 0 1 0 q = m q := fun q hq => by rw [sset_row _ _ _ (by omega), sset_row _ _ _ (by omega)]
  have z1 : HIz (sset c 0 1 0) (sset (sset m 0 5 0) 0 1 0) := ⟨fun q hq => by rw [cq q (by omega)]; exact hz.1 q hq, fun q hq => by rw [mq q (by omega)]; exact hz.2 q hq⟩
  refine ⟨sset c 0 1 0, sset (sset m 0 5 0) 0 1 0, (n : Int), z1, Jx_text hJ z1 ⟨0, by decide, by rw [sset_at, vu_eq]; rfl, by rw [sset_at, vu_eq]; rfl, fun j hj => by omega⟩ (sset_place _ _ _ (by decide)) (sset_place _ _ _ (by decide)) cq mq (fun i x y => by rw [sset_place _ _ _ x, sset_place _ _ _ y]), ⟨by omega, by omega⟩, fun Q hQ => s_clear (by rw [n3]; exact hQ), fun Q hQ => ?_⟩
  unfold f_X9_clearText
  rintro x1 rfl
  rintro σ1 rfl
  rw [n2]; exact hQ
theorem t_needStory {D : Nat} {nd : Nat} (hD : D = 2 ∨ D = 20) (h2 : c 0 2 = (D : Int)) (h10 : c D 10 = (nd : Int)) (hn : nd ≤ 12) (Q : St → Prop) (E : String → St → Prop) : (0 < nd → Q c → f_X9_needStory c Q E) ∧ (nd = 0 → E ISE c → f_X9_needStory c Q E) := by
  have iS : isS D := hD
  unfold f_X9_needStory
  rw [h2, Int.toNat_natCast, h10]
  exact ⟨fun u q => ⟨iS, ⟨by omega, by omega⟩, fun _ => q, fun w => by omega⟩, fun u q => ⟨iS, ⟨by omega, by omega⟩, fun w => by omega, fun _ => q⟩⟩
/-- what both keep besides the story -/
theorem JTx_fr (h : JTx c m) (c0 : c1 0 1 = c 0 1) (cr : c1 1 = c 1) (m0 : m1 0 1 = m 0 1) (mr : m1 1 = m 1) : JTx c1 m1 := by
  unfold JTx at *
  rw [c0, cr, m0, mr]
  exact h
theorem PW_fr2 {D P nd ck H : Nat} (h : PW c m P D nd ck H) (h0 : c1 P = c P) (h1 : c1 (P + 1) = c (P + 1)) (h2 : c1 (P + 2) = c (P + 2)) (h26 : ∀ i, i < 31 → m1 26 i = m 26 i) (h44 : m1 0 44 = 0) : PW c1 m1 P D nd ck H := by
  obtain ⟨a1, a2, a3, a4, ⟨E, e1, e2, -⟩⟩ := h
  refine ⟨?_, ?_, ?_, ?_, ⟨E, e1, by rw [h0]; exact e2, fun u => absurd h44 u⟩⟩
  · unfold PWa at *
    rw [h0, h1, h26 0 (by decide), h26 1 (by decide), h26 2 (by decide), h26 3 (by decide), h26 4 (by decide), h26 5 (by decide), h26 6 (by decide), h26 7 (by decide), h26 9 (by decide), h26 10 (by decide)]
    exact a1
  · unfold PWv at *
    rw [h26 2 (by decide), h26 3 (by decide), h26 4 (by decide), h26 5 (by decide), h26 6 (by decide), h26 7 (by decide), h26 9 (by decide), h26 10 (by decide)]
    exact a2
  · unfold PWt at *
    rw [h0, h26 8 (by decide)]
    exact a3
  · intro j hj hp
    rw [h26 10 (by decide)] at hp ⊢
    rw [h2, h26 (11 + j) (by omega)]
    exact a4 j hj hp
/-- start -/
theorem Q_start (hJ : Jx KB c m) (hK : 0 ≤ KB) : JRi (Jx (KB + 150)) (f_X9_start c) (f_X10_start m) (fun e v => e = ISE ∧ v = 1) := by
  have hJ2 : Jx (KB + 150) c (sset m 0 5 1) := Jx_code hJ (by omega)
  obtain ⟨hz, hT, D, ⟨hD, h2, h3, hX, h44, E0, hE1, hE2⟩, hB⟩ := hJ
  rcases hB with ⟨n4, ⟨n10, -⟩, -⟩ | ⟨n4, φ, e, N, S, B, nd, ck, ts, tm, H, hS, hH, hHc, hTo, hp, ⟨sz, tp, g1, g2, g3, g4, g5, -⟩, hE, hA⟩
  · refine ⟨c, sset m 0 5 1, 0, hJ2.1, hJ2, by rw [sset_at, vu_eq]; exact ⟨by decide, by decide⟩, fun Q hQ => ?_, Or.inr ⟨ISE, by rw [sset_at, vu_eq]; decide, ⟨rfl, by rw [sset_at, vu_eq]⟩, fun Q E hE => ?_⟩⟩
    · unfold f_X10_start
      rintro σ1 rfl
      rw [sset_place _ _ _ (by decide), n4]
      exact ⟨⟨by decide, by decide⟩, fun u => absurd rfl u, fun _ => fail_c hQ⟩
    · unfold f_X9_start
      exact (t_needStory (nd := 0) hD h2 n10 (by decide) _ E).2 rfl hE
  · have nums := hS.1
    have d10 : c D 10 = (nd : Int) := nums.2.2.2.2.2.2.2.2.1
    have nd0 : 0 < nd := nums.2.2.2.2.2.2.2.2.2.2.2.1
    have nd12 : nd ≤ 12 := nums.2.2.2.2.2.2.2.2.2.2.2.2.1
    obtain ⟨c2, ec⟩ : ∃ c2 : St, c2 = sset c 48 0 0 := ⟨_, rfl⟩
    obtain ⟨m2, em⟩ : ∃ m2 : St, m2 = sset (sset m 0 5 0) 0 42 0 := ⟨_, rfl⟩
    have cq : ∀ q, q ≠ 48 → c2 q = c q := fun q hq => by rw [ec, sset_row _ _ _ hq]
    have mq : ∀ q, q ≠ 0 → m2 q = m q := fun q hq => by rw [em, sset_row _ _ _ hq, sset_row _ _ _ hq]
    have m0 : ∀ i, i ≠ 5 → i ≠ 42 → m2 0 i = m 0 i := fun i x y => by rw [em, sset_place _ _ _ y, sset_place _ _ _ x]
    have hD2 : ∀ q, D ≤ q → q ≤ D + 17 → q < 38 := fun q x y => by omega
    have hS2 : SRx D c2 m2 φ e N S B nd ck ts tm := SRx_frame hS (fun q x y => cq q (by have := hD2 q x y; omega)) (fun q x y => mq q (by omega)) (fun i hi => m0 i (by omega) (by omega))
    have hX2 : BX m2 := BX_same hX (m0 44 (by decide) (by decide)) (mq 29 (by decide)) (mq 30 (by decide)) (mq 31 (by decide))
    obtain ⟨c', m', ⟨q1, q2, q3, q4, q5, q6, q7, q8, -⟩, go, gom⟩ := J_begin (P := 44) (H := H) (Or.inl rfl) hD hS2 (HM_fr hH (cq D (by omega)) (cq (D + 16) (by omega))) hX2 (fun u => absurd (by rw [m0 44 (by decide) (by decide)]; exact h44) u)
    obtain ⟨x1, x2, x3⟩ := q2
    obtain ⟨y1, y2, y3⟩ := x3 (by rw [m0 44 (by decide) (by decide)]; exact h44)
    have c'q : ∀ q, q < 44 ∨ 48 < q → c' q = c q := fun q hq => by rw [q1 q (by omega) (by omega) (by omega) (by omega), cq q (by omega)]
    have c48 : c' 48 = c2 48 := q1 48 (by decide) (by decide) (by decide) (by decide)
    have m'q : ∀ q, q ≠ 0 → q ≠ 26 → m' q = m q := by
      intro q hq0 hq
      by_cases z29 : q = 29
      · rw [z29, y1, mq 29 (by decide)]
      · by_cases z30 : q = 30
        · rw [z30, y2, mq 30 (by decide)]
        · by_cases z31 : q = 31
          · rw [z31, y3, mq 31 (by decide)]
          · rw [x1 q hq0 hq z29 z30 z31, mq q hq0]
    have m'0 : ∀ i, i ≠ 5 → i ≠ 42 → i ≠ 48 → i ≠ 49 → m' 0 i = m 0 i := fun i x y z w => by rw [x2 i z w, m0 i x y]
    have m42 : m' 0 42 = 0 := by rw [x2 42 (by decide) (by decide), em, sset_at, vu_eq]
    have m5 : m' 0 5 = 0 := by rw [x2 5 (by decide) (by decide), em, sset_place _ _ _ (by decide), sset_at, vu_eq]
    have z1 : HIz c' m' := ⟨fun q hq => by rw [c'q q (by omega)]; exact hz.1 q hq, fun q hq => by rw [m'q q (by omega) (by omega)]; exact hz.2 q hq⟩
    have st : c' 44 1 = m' 26 0 := q3.1.2.1
    have jx : Jx (KB + 150) c' m' := by
      refine ⟨z1, JTx_fr hT (by rw [c'q 0 (by decide)]) (c'q 1 (by decide)) (m'0 1 (by decide) (by decide) (by decide) (by decide)) (m'q 1 (by decide) (by decide)), D, ⟨hD, by rw [c'q 0 (by decide)]; exact h2, by rw [c'q 0 (by decide)]; exact h3, q4, by rw [m'0 44 (by decide) (by decide) (by decide) (by decide)]; exact h44, ?_⟩, Or.inr ⟨by rw [m'0 4 (by decide) (by decide) (by decide) (by decide)]; exact n4, φ, e, N, S, B, nd, ck, ts, tm, H, SRx_frame hS (fun q x y => c'q q (by have := hD2 q x y; omega)) (fun q x y => m'q q (by omega) (by omega)) (fun i hi => m'0 i (by omega) (by omega) (by omega) (by omega)), HM_fr hH (c'q D (by omega)) (c'q (D + 16) (by omega)), hHc, JTold_fr hTo (fun q x y => c'q q (by have := hD2 q x y; omega)) (m'0 3 (by decide) (by decide) (by decide) (by decide)) (m'q 2 (by decide) (by decide)), Or.inr ⟨q3, q6, q7, q8, by omega⟩, ?_, EXPL_fr hE (fun q x y => c'q q (by omega)) (fun q x y => m'q q (by omega) (by omega)) (m'0 51 (by decide) (by decide) (by decide) (by decide)) (m'0 52 (by decide) (by decide) (by decide) (by decide)) (m'0 53 (by decide) (by decide) (by decide) (by decide)) (m'0 54 (by decide) (by decide) (by decide) (by decide)), JAn_fr hA (c'q 65 (by decide)) (c'q 66 (by decide)) (c'q 67 (by decide)) (c'q 71 (by decide)) (m'q 36 (by decide) (by decide)) (m'q 44 (by decide) (by decide)) (m'0 70 (by decide) (by decide) (by decide) (by decide)) (m'0 72 (by decide) (by decide) (by decide) (by decide)) (m'0 73 (by decide) (by decide) (by decide) (by decide))⟩⟩
      · obtain ⟨E1, e1, e2, -⟩ := q3.2.2.2.2
        exact ⟨E1, e1, e2⟩
      · refine ⟨0, tp, by rw [c48, ec, sset_at, vu_eq]; rfl, ?_, by rw [m42]; rfl, by decide, g5, fun i hi => by omega⟩
        rw [c48, ec, sset_place _ _ _ (by decide)]; exact g2
    refine ⟨c', m', m' 26 0, z1, jx, by rw [m5]; exact ⟨by decide, by decide⟩, fun Q hQ => ?_, Or.inl ⟨m5, fun Q E hQ => ?_⟩⟩
    · unfold f_X10_start
      rintro σ1 rfl
      rw [sset_place _ _ _ (by decide), n4]
      refine ⟨⟨by decide, by decide⟩, fun _ => ?_, fun u => absurd u (by decide)⟩
      rintro σ2 rfl
      rw [← em]
      exact gom _ hQ
    · unfold f_X9_start
      refine (t_needStory hD h2 d10 nd12 _ E).1 nd0 ?_
      unfold f_X2_forget
      rintro σ1 rfl
      rw [← ec, cq 0 (by decide), h2, Int.toNat_natCast]
      refine go _ ?_
      rw [st]; exact hQ
/-- back -/
theorem Q_back (hJ : Jx KB c m) : JRi (Jx KB) (f_X9_back c) (f_X10_back m) (fun e v => e = ISE ∧ v = 1) := by
  have hJ0 := hJ
  obtain ⟨hz, hT, D, ⟨hD, h2, h3, hX, h44, E0, hE1, hE2⟩, hB⟩ := hJ
  have empty : c 48 0 = 0 → m 0 42 = 0 → JRi (Jx KB) (f_X9_back c) (f_X10_back m) (fun e v => e = ISE ∧ v = 1) := by
    intro k1 k2
    refine q_thr (r := 0) (v := 1) (e := ISE) hJ0 (Or.inl rfl) ⟨rfl, rfl⟩ (fun Q hQ => ?_) (fun Q E hE => ?_)
    · unfold f_X10_back
      rintro σ1 rfl
      rw [sset_place _ _ _ (by decide), k2]
      exact ⟨⟨by decide, by decide⟩, fun u => absurd rfl u, fun _ => fail_c hQ⟩
    · unfold f_X9_back
      rw [k1]
      exact ⟨⟨by decide, by decide⟩, fun u => absurd rfl u, fun _ => hE⟩
  rcases hB with ⟨-, -, -, ⟨k1, k2, -⟩, -⟩ | ⟨n4, φ, e, N, S, B, nd, ck, ts, tm, H, hS, hH, hHc, hTo, hp, hHi, hE, hA⟩
  · exact empty k1 k2
  · by_cases z : m 0 42 = 0
    · obtain ⟨sz, tp, g1, g2, g3, -⟩ := hHi
      exact empty (by omega) z
    · have nd12 : nd ≤ 12 := hS.1.2.2.2.2.2.2.2.2.2.2.2.2.1
      have ck16 : ck ≤ 16 := hS.1.2.2.2.2.2.2.2.2.2.2.2.2.2.1
      have c440 : c 44 0 = (D : Int) := by
        rcases hp with hp | hp
        · exact hp.1.1
        · exact hp.1.1.1
      obtain ⟨m2, em⟩ : ∃ m2 : St, m2 = sset m 0 5 0 := ⟨_, rfl⟩
      have mq : ∀ q, q ≠ 0 → m2 q = m q := fun q hq => by rw [em, sset_row _ _ _ hq]
      have m0 : ∀ i, i ≠ 5 → m2 0 i = m 0 i := fun i x => by rw [em, sset_place _ _ _ x]
      have w44 : m2 0 44 = 0 := by rw [m0 44 (by decide)]; exact h44
      have hHi2 : HIS c m2 nd ck H KB := HIS_frame hHi (Int.le_refl _) rfl rfl rfl rfl (m0 42 (by decide)) (mq 27 (by decide))
      obtain ⟨c', m', q1, q2, q3, q4, q5, q6, q7, q8, q9, q10, go, gom⟩ := J_back (D := D) ck16 nd12 hH.1 c440 ⟨E0, hE1, hE2, fun u => absurd w44 u⟩ w44 hHi2 (by rw [m0 42 (by decide)]; exact z)
      have sz48 : c 48 0 = m 0 42 := by obtain ⟨sz, tp, g1, g2, g3, -⟩ := hHi; rw [g1, g3]
      have i48 : inR (m 0 42) := by obtain ⟨sz, tp, g1, g2, g3, g4, -⟩ := hHi; rw [g3]; exact ⟨by omega, by omega⟩
      have c'q : ∀ q, q ≠ 44 → q ≠ 45 → q ≠ 46 → q ≠ 48 → c' q = c q := q1
      have m'q : ∀ q, q ≠ 0 → q ≠ 26 → m' q = m q := fun q x y => by rw [q2 q x y, mq q x]
      have m'0 : ∀ i, i ≠ 5 → i ≠ 42 → m' 0 i = m 0 i := fun i x y => by rw [q3 i y, m0 i x]
      have m5 : m' 0 5 = 0 := by rw [q3 5 (by decide), em, sset_at, vu_eq]
      have hD2 : ∀ q, D ≤ q → q ≤ D + 17 → q < 38 := fun q x y => by omega
      have z1 : HIz c' m' := ⟨fun q hq => by rw [c'q q (by omega) (by omega) (by omega) (by omega)]; exact hz.1 q hq, fun q hq => by rw [m'q q (by omega) (by omega)]; exact hz.2 q hq⟩
      have ck0 : ∀ q, q < 44 ∨ 48 < q → c' q = c q := fun q hq => c'q q (by omega) (by omega) (by omega) (by omega)
      have jx : Jx KB c' m' := by
        refine ⟨z1, JTx_fr hT (by rw [ck0 0 (by decide)]) (ck0 1 (by decide)) (m'0 1 (by decide) (by decide)) (m'q 1 (by decide) (by decide)), D, ⟨hD, by rw [ck0 0 (by decide)]; exact h2, by rw [ck0 0 (by decide)]; exact h3, BX_same hX (m'0 44 (by decide) (by decide)) (m'q 29 (by decide) (by decide)) (m'q 30 (by decide) (by decide)) (m'q 31 (by decide) (by decide)), by rw [m'0 44 (by decide) (by decide)]; exact h44, ?_⟩, Or.inr ⟨by rw [m'0 4 (by decide) (by decide)]; exact n4, φ, e, N, S, B, nd, ck, ts, tm, H, SRx_frame hS (fun q x y => ck0 q (by have := hD2 q x y; omega)) (fun q x y => m'q q (by omega) (by omega)) (fun i hi => m'0 i (by omega) (by omega)), HM_fr hH (ck0 D (by omega)) (ck0 (D + 16) (by omega)), hHc, JTold_fr hTo (fun q x y => ck0 q (by have := hD2 q x y; omega)) (m'0 3 (by decide) (by decide)) (m'q 2 (by decide) (by decide)), Or.inr ⟨q4, by omega, by omega, ⟨fun _ => q6, fun _ => q5⟩, q7⟩, q8, EXPL_fr hE (fun q x y => ck0 q (by omega)) (fun q x y => m'q q (by omega) (by omega)) (m'0 51 (by decide) (by decide)) (m'0 52 (by decide) (by decide)) (m'0 53 (by decide) (by decide)) (m'0 54 (by decide) (by decide)), JAn_fr hA (ck0 65 (by decide)) (ck0 66 (by decide)) (ck0 67 (by decide)) (ck0 71 (by decide)) (m'q 36 (by decide) (by decide)) (m'q 44 (by decide) (by decide)) (m'0 70 (by decide) (by decide)) (m'0 72 (by decide) (by decide)) (m'0 73 (by decide) (by decide))⟩⟩
        obtain ⟨E1, e1, e2, -⟩ := q4.2.2.2.2
        exact ⟨E1, e1, e2⟩
      refine ⟨c', m', m' 0 42, z1, jx, by rw [m5]; exact ⟨by decide, by decide⟩, fun Q hQ => ?_, Or.inl ⟨m5, fun Q E hQ => ?_⟩⟩
      · unfold f_X10_back
        rintro σ1 rfl
        rw [← em]
        refine ⟨by rw [m0 42 (by decide)]; exact i48, fun _ σ2 e2 => gom Q hQ σ2 e2, fun u => absurd (by rw [m0 42 (by decide)] at u; exact u) z⟩
      · unfold f_X9_back
        refine ⟨by rw [sz48]; exact i48, fun _ => go _ (by rw [q9]; exact hQ), fun u => absurd (by rw [← sz48]; exact u) z⟩
/-- choose -/
theorem Q_choose (hJ : Jx KB c m) (hK0 : 0 ≤ KB) (hK : KB < 1000000) (ha : inR a) : JRi (Jx (KB + 150)) (f_X9_choose a c) (f_X10_choose a m) (fun e v => (e = ISE ∧ v = 1) ∨ (e = IOE ∧ v = 2)) := by
  have hpl := J_play hJ hK
  have hJc : ∀ v : Int, Jx (KB + 150) c (sset m 0 5 v) := fun v => Jx_code hJ (by omega)
  obtain ⟨hz, hT, D, ⟨hD, h2, h3, hX, h44, E0, hE1, hE2⟩, hB⟩ := hJ
  obtain ⟨O, ck', ⟨o1, o2, o32⟩, o3, o4, ⟨p1, p2, p3⟩, -⟩ := hpl
  have le : 2 ^ ck' ≤ 2 ^ 16 := Nat.pow_le_pow_right (by decide) o2
  have e16 : (2 : Nat) ^ 16 = 65536 := rfl
  have hO : O < 65536 := by omega
  have i0 : inR (m 26 0) := ⟨by omega, by omega⟩
  have thr : ∀ (v : Int) (ex : String), (v = 1 ∨ v = 2) → ((ex = ISE ∧ v = 1) ∨ (ex = IOE ∧ v = 2)) → (∀ Q : St → Int → Prop, Q (sset m 0 5 v) 0 → f_X10_choose a m Q) → (∀ (Q : St → Int → Prop) (E : String → St → Prop), E ex c → f_X9_choose a c Q E) → JRi (Jx (KB + 150)) (f_X9_choose a c) (f_X10_choose a m) (fun e v => (e = ISE ∧ v = 1) ∨ (e = IOE ∧ v = 2)) := by
    intro v ex hv hex hm hc
    exact ⟨c, sset m 0 5 v, 0, (hJc v).1, hJc v, by rw [sset_at, vu_eq]; exact ⟨by omega, by omega⟩, hm, Or.inr ⟨ex, by rw [sset_at, vu_eq]; omega, by rw [sset_at, vu_eq]; exact hex, hc⟩⟩
  have r26 : sset m 0 5 0 26 = m 26 := sset_row _ _ _ (by decide)
  have e9 : sset m 0 5 0 26 9 = (O : Int) := by rw [r26]; exact o4
  have e32 : sset m 0 5 0 0 32 = (ck' : Int) := by rw [sset_place _ _ _ (by decide)]; exact o32
  by_cases wait : m 26 0 = 1
  · by_cases ok : 0 ≤ a ∧ a < ((pcr O 16 0 : Nat) : Int)
    · rcases hB with ⟨-, -, hp, -⟩ | ⟨n4, φ, e, N, S, B, nd, ck, ts, tm, H, hS, hH, hHc, hTo, hp, hHi, hE, hA⟩
      · have := hp.2 0 (by decide)
        omega
      · rcases hp with hp | ⟨w1, w2, w3, w4, w5⟩
        · have := hp.2 0 (by decide)
          omega
        · have nd12 : nd ≤ 12 := hS.1.2.2.2.2.2.2.2.2.2.2.2.2.1
          have ck16 : ck ≤ 16 := hS.1.2.2.2.2.2.2.2.2.2.2.2.2.2.1
          have h32 : m 0 32 = (ck : Int) := hS.1.2.2.2.2.1
          have eck : ck' = ck := by omega
          subst eck
          obtain ⟨p, ep⟩ : ∃ p : Nat, a = (p : Int) := ⟨a.toNat, by omega⟩
          subst ep
          have hp31 : p < 2147483648 := by have := ha.2; omega
          have hne : nthb O 16 0 p ≠ -1 := by
            intro u
            have := (nthb_iff 16 0 p).1 u
            omega
          have e16' := nthb_16 (pos := p) o1 o2
          obtain ⟨kk, k1, k2, k3⟩ : ∃ kk : Nat, nthb O ck' 0 p = (kk : Int) ∧ kk < 16 ∧ True := by
            rcases nthb_r (O := O) 16 0 p with u | ⟨i, u1, u2, u3, -⟩
            · exact absurd u hne
            · exact ⟨i, by rw [← e16']; exact u1, by omega, trivial⟩
          obtain ⟨m2, em⟩ : ∃ m2 : St, m2 = sset m 0 5 0 := ⟨_, rfl⟩
          rw [← em] at e9 e32
          have mq : ∀ q, q ≠ 0 → m2 q = m q := fun q hq => by rw [em, sset_row _ _ _ hq]
          have m0 : ∀ i, i ≠ 5 → m2 0 i = m 0 i := fun i x => by rw [em, sset_place _ _ _ x]
          have m226 := mq 26 (by decide)
          have pw2 : PW c m2 44 D nd ck' H := PW_fr w1 rfl rfl rfl rfl m226 (mq 29 (by decide)) (mq 30 (by decide)) (m0 44 (by decide))
          have hHi2 : HIS c m2 nd ck' H KB := HIS_frame hHi (Int.le_refl _) rfl rfl rfl rfl (m0 42 (by decide)) (mq 27 (by decide))
          have O0 : m 26 9 ≠ 0 := w4.1 wait
          obtain ⟨c3, m3, j1, j2, j3, j4, j5, j6⟩ := J_keep ck16 nd12 pw2 (by rw [m226]; exact wait) (by rw [m226]; exact O0) (by rw [m226]; exact w5) hH.1 hHi2
          have hD2 : ∀ q, D ≤ q → q ≤ D + 17 → q < 38 := fun q x y => by omega
          have c3q : ∀ q, q < 48 ∨ 51 < q → c3 q = c q := fun q hq => j1 q (by omega) (by omega) (by omega) (by omega)
          have m3q : ∀ q, q ≠ 0 → q ≠ 27 → m3 q = m q := fun q x y => by rw [j2 q x y, mq q x]
          have m30 : ∀ i, i ≠ 5 → i ≠ 42 → m3 0 i = m 0 i := fun i x y => by rw [j3 i y, m0 i x]
          have hS3 : SRx D c3 m3 φ e N S B nd ck' ts tm := SRx_frame hS (fun q x y => c3q q (by have := hD2 q x y; omega)) (fun q x y => m3q q (by omega) (by omega)) (fun i hi => m30 i (by omega) (by omega))
          have m326 := m3q 26 (by decide) (by decide)
          have pw3 : PW c3 m3 44 D nd ck' H := PW_fr w1 (c3q 44 (by decide)) (c3q 45 (by decide)) (c3q 46 (by decide)) (c3q 47 (by decide)) m326 (m3q 29 (by decide) (by decide)) (m3q 30 (by decide) (by decide)) (m30 44 (by decide) (by decide))
          have hX3 : BX m3 := BX_same hX (m30 44 (by decide) (by decide)) (m3q 29 (by decide) (by decide)) (m3q 30 (by decide) (by decide)) (m3q 31 (by decide) (by decide))
          obtain ⟨c', m', ⟨q1, q2, q3, q4, q5, q6, q7, q8, -⟩, go, gom⟩ := J_take (P := 44) (H := H) (O := O) (pos := p) (k := kk) (Or.inl rfl) hD hS3 (HM_fr hH (c3q D (by omega)) (c3q (D + 16) (by omega))) pw3 hX3 (by rw [m326]; exact o4) hp31 k1 (by rw [m326]; omega)
          obtain ⟨x1, x2, x3⟩ := q2
          have w44 : m3 0 44 = 0 := by rw [m30 44 (by decide) (by decide)]; exact h44
          obtain ⟨y1, y2, y3⟩ := x3 w44
          have c'q : ∀ q, q < 44 ∨ 51 < q → c' q = c q := fun q hq => by rw [q1 q (by omega) (by omega) (by omega) (by omega), c3q q (by omega)]
          have c'h : ∀ q, 48 ≤ q → c' q = c3 q := fun q hq => q1 q (by omega) (by omega) (by omega) (by omega)
          have m'q : ∀ q, q ≠ 0 → q ≠ 26 → q ≠ 27 → m' q = m q := by
            intro q hq0 hq hq2
            by_cases z29 : q = 29
            · rw [z29, y1, m3q 29 (by decide) (by decide)]
            · by_cases z30 : q = 30
              · rw [z30, y2, m3q 30 (by decide) (by decide)]
              · by_cases z31 : q = 31
                · rw [z31, y3, m3q 31 (by decide) (by decide)]
                · rw [x1 q hq0 hq z29 z30 z31, m3q q hq0 hq2]
          have m'0 : ∀ i, i ≠ 5 → i ≠ 42 → i ≠ 48 → i ≠ 49 → m' 0 i = m 0 i := fun i x y z w => by rw [x2 i z w, m30 i x y]
          have m5 : m' 0 5 = 0 := by rw [x2 5 (by decide) (by decide), j3 5 (by decide), em, sset_at, vu_eq]
          have z1 : HIz c' m' := ⟨fun q hq => by rw [c'q q (by omega)]; exact hz.1 q hq, fun q hq => by rw [m'q q (by omega) (by omega) (by omega)]; exact hz.2 q hq⟩
          have st : c' 44 1 = m' 26 0 := q3.1.2.1
          have q5' : m' 26 10 ≤ KB + 150 := by rw [m326] at q5; omega
          have jx : Jx (KB + 150) c' m' := by
            refine ⟨z1, JTx_fr hT (by rw [c'q 0 (by decide)]) (c'q 1 (by decide)) (m'0 1 (by decide) (by decide) (by decide) (by decide)) (m'q 1 (by decide) (by decide) (by decide)), D, ⟨hD, by rw [c'q 0 (by decide)]; exact h2, by rw [c'q 0 (by decide)]; exact h3, q4, by rw [m'0 44 (by decide) (by decide) (by decide) (by decide)]; exact h44, ?_⟩, Or.inr ⟨by rw [m'0 4 (by decide) (by decide) (by decide) (by decide)]; exact n4, φ, e, N, S, B, nd, ck', ts, tm, H, SRx_frame hS (fun q x y => c'q q (by have := hD2 q x y; omega)) (fun q x y => m'q q (by omega) (by omega) (by omega)) (fun i hi => m'0 i (by omega) (by omega) (by omega) (by omega)), HM_fr hH (c'q D (by omega)) (c'q (D + 16) (by omega)), hHc, JTold_fr hTo (fun q x y => c'q q (by have := hD2 q x y; omega)) (m'0 3 (by decide) (by decide) (by decide) (by decide)) (m'q 2 (by decide) (by decide) (by decide)), Or.inr ⟨q3, q6, q7, q8, q5'⟩, HIS_frame j4 (by omega) (c'h 48 (by decide)) (c'h 49 (by decide)) (c'h 50 (by decide)) (c'h 51 (by decide)) (x2 42 (by decide) (by decide)) (x1 27 (by decide) (by decide) (by decide) (by decide) (by decide)), EXPL_fr hE (fun q x y => c'q q (by omega)) (fun q x y => m'q q (by omega) (by omega) (by omega)) (m'0 51 (by decide) (by decide) (by decide) (by decide)) (m'0 52 (by decide) (by decide) (by decide) (by decide)) (m'0 53 (by decide) (by decide) (by decide) (by decide)) (m'0 54 (by decide) (by decide) (by decide) (by decide)), JAn_fr hA (c'q 65 (by decide)) (c'q 66 (by decide)) (c'q 67 (by decide)) (c'q 71 (by decide)) (m'q 36 (by decide) (by decide) (by decide)) (m'q 44 (by decide) (by decide) (by decide)) (m'0 70 (by decide) (by decide) (by decide) (by decide)) (m'0 72 (by decide) (by decide) (by decide) (by decide)) (m'0 73 (by decide) (by decide) (by decide) (by decide))⟩⟩
            obtain ⟨E1, e1, e2, -⟩ := q3.2.2.2.2
            exact ⟨E1, e1, e2⟩
          refine ⟨c', m', m' 26 0, z1, jx, by rw [m5]; exact ⟨by decide, by decide⟩, fun Q hQ => ?_, Or.inl ⟨m5, fun Q E hQ => ?_⟩⟩
          · unfold f_X10_choose
            rintro σ1 rfl
            rw [← em, m226, wait]
            refine ⟨⟨by decide, by decide⟩, fun _ => ⟨ha, fun _ => r_offeredAt e9 hO e32 o2 hp31 ?_, fun u => by omega⟩, fun u => absurd rfl u⟩
            rw [k1]
            unfold f_X10_choose_J34
            exact ⟨⟨by omega, by omega⟩, fun _ => j6 _ _ (gom _ hQ), fun u => by omega⟩
          · unfold f_X9_choose
            rw [p1, wait]
            refine ⟨⟨by decide, by decide⟩, fun _ => (t_needPos hO o3 ha _ E).1 ok.1 ok.2 (j5 _ (go _ ?_)), fun u => absurd rfl u⟩
            rw [st]; exact hQ
    · refine thr 2 IOE (Or.inr rfl) (Or.inr ⟨rfl, rfl⟩) (fun Q hQ => ?_) (fun Q E hE => ?_)
      · unfold f_X10_choose
        rintro σ1 rfl
        rw [r26, wait]
        refine ⟨⟨by decide, by decide⟩, fun _ => ⟨ha, fun u => ?_, fun u => ?_⟩, fun u => absurd rfl u⟩
        · obtain ⟨p, ep⟩ : ∃ p : Nat, a = (p : Int) := ⟨a.toNat, by omega⟩
          subst ep
          have hp31 : p < 2147483648 := by have := ha.2; omega
          refine r_offeredAt e9 hO e32 o2 hp31 ?_
          rw [← nthb_16 (pos := p) o1 o2, (nthb_iff 16 0 p).2 (by omega)]
          unfold f_X10_choose_J34
          exact ⟨⟨by decide, by decide⟩, fun w => absurd rfl w, fun _ => fail_c hQ⟩
        · unfold f_X10_choose_J34
          exact ⟨⟨by decide, by decide⟩, fun w => absurd rfl w, fun _ => fail_c hQ⟩
      · unfold f_X9_choose
        rw [p1, wait]
        exact ⟨⟨by decide, by decide⟩, fun _ => (t_needPos hO o3 ha _ E).2 (by omega) hE, fun u => absurd rfl u⟩
  · refine thr 1 ISE (Or.inl rfl) (Or.inl ⟨rfl, rfl⟩) (fun Q hQ => ?_) (fun Q E hE => ?_)
    · unfold f_X10_choose
      rintro σ1 rfl
      rw [r26]
      exact ⟨i0, fun u => absurd u wait, fun _ => fail_c hQ⟩
    · unfold f_X9_choose
      rw [p1]
      exact ⟨i0, fun u => absurd u wait, fun _ => hE⟩
/-- explore -/
theorem Q_explore (hJ : Jx KB c m) (ha : inR a) : JRi (Jx KB) (f_X9_explore a c) (f_X10_explore a m) (fun e v => (e = IAE ∧ v = 1) ∨ (e = ISE ∧ v = 2)) := by
  have hJ0 := hJ
  obtain ⟨hz, hT, D, ⟨hD, h2, h3, hX, h44, E0, hE1, hE2⟩, hB⟩ := hJ
  by_cases ok : 1 ≤ a ∧ a ≤ 300
  · rcases hB with ⟨n4, ⟨n10, -⟩, -⟩ | ⟨n4, φ, e, N, S, B, nd, ck, ts, tm, H, hS, hH, hHc, hTo, hp, hHi, hE, hA⟩
    · refine q_thr (r := 0) (v := 2) (e := ISE) hJ0 (Or.inr (Or.inl rfl)) (Or.inr ⟨rfl, rfl⟩) (fun Q hQ => ?_) (fun Q E hE => ?_)
      · unfold f_X10_explore
        rintro σ1 rfl
        refine s_in ha ⟨by decide, by decide⟩ ⟨by decide, by decide⟩ (fun _ _ => ⟨⟨by decide, by decide⟩, fun _ => ?_, fun u => absurd u (by decide)⟩) (fun u => by omega)
        rw [sset_place _ _ _ (by decide), n4]
        exact ⟨⟨by decide, by decide⟩, fun u => absurd rfl u, fun _ => fail_c hQ⟩
      · unfold f_X9_explore
        exact ⟨ha, fun u => by omega, fun _ => ⟨ha, fun _ => (t_needStory (nd := 0) hD h2 n10 (by decide) _ E).2 rfl hE, fun u => by omega⟩⟩
    · have d10 : c D 10 = (nd : Int) := hS.1.2.2.2.2.2.2.2.2.1
      have nd0 : 0 < nd := hS.1.2.2.2.2.2.2.2.2.2.2.2.1
      have nd12 : nd ≤ 12 := hS.1.2.2.2.2.2.2.2.2.2.2.2.2.1
      obtain ⟨li, el⟩ : ∃ li : Nat, a = (li : Int) := ⟨a.toNat, by omega⟩
      subst el
      obtain ⟨m2, em⟩ : ∃ m2 : St, m2 = sset m 0 5 0 := ⟨_, rfl⟩
      have mq : ∀ q, q ≠ 0 → m2 q = m q := fun q hq => by rw [em, sset_row _ _ _ hq]
      have m0 : ∀ i, i ≠ 5 → m2 0 i = m 0 i := fun i x => by rw [em, sset_place _ _ _ x]
      have hS2 : SRx D c m2 φ e N S B nd ck ts tm := SRx_frame hS (fun q x y => rfl) (fun q x y => mq q (by omega)) (fun i hi => m0 i (by omega))
      have hX2 : BX m2 := BX_same hX (m0 44 (by decide)) (mq 29 (by decide)) (mq 30 (by decide)) (mq 31 (by decide))
      obtain ⟨c', m', q1, q2, q3, q4, q5, q6, q7, q8, q9, go, gom⟩ := J_explore (lim := li) hD hS2 hH hHc hX2 (by omega) (by omega)
      have hD2 : ∀ q, D ≤ q → q ≤ D + 17 → q < 38 := fun q x y => by omega
      have m'q : ∀ q, q ≠ 0 → q ≠ 26 → q ≠ 28 → q < 29 ∨ 35 < q → m' q = m q := fun q x y z w => by rw [q2 q x y z w, mq q x]
      have m'26 : ∀ i, i < 31 → m' 26 i = m 26 i := fun i hi => by rw [q3 i hi, mq 26 (by decide)]
      have m'0 : ∀ i, i ≠ 5 → i ≠ 44 → i ≠ 48 → i ≠ 49 → i ≠ 51 → i ≠ 52 → i ≠ 53 → i ≠ 54 → m' 0 i = m 0 i := fun i a0 a1 a2 a3 a4 a5 a6 a7 => by rw [q4 i a1 a2 a3 a4 a5 a6 a7, m0 i a0]
      have m5 : m' 0 5 = 0 := by rw [q4 5 (by decide) (by decide) (by decide) (by decide) (by decide) (by decide) (by decide), em, sset_at, vu_eq]
      have z1 : HIz c' m' := ⟨fun q hq => by rw [q1 q (by omega)]; exact hz.1 q hq, fun q hq => by rw [m'q q (by omega) (by omega) (by omega) (by omega)]; exact hz.2 q hq⟩
      have jx : Jx KB c' m' := by
        refine ⟨z1, JTx_fr hT (by rw [q1 0 (by decide)]) (q1 1 (by decide)) (m'0 1 (by decide) (by decide) (by decide) (by decide) (by decide) (by decide) (by decide) (by decide)) (m'q 1 (by decide) (by decide) (by decide) (by decide)), D, ⟨hD, by rw [q1 0 (by decide)]; exact h2, by rw [q1 0 (by decide)]; exact h3, q6, q5, ⟨E0, hE1, by rw [q1 44 (by decide)]; exact hE2⟩⟩, Or.inr ⟨by rw [m'0 4 (by decide) (by decide) (by decide) (by decide) (by decide) (by decide) (by decide) (by decide)]; exact n4, φ, e, N, S, B, nd, ck, ts, tm, H, SRx_frame hS (fun q x y => q1 q (by have := hD2 q x y; omega)) (fun q x y => m'q q (by omega) (by omega) (by omega) (by omega)) (fun i hi => m'0 i (by omega) (by omega) (by omega) (by omega) (by omega) (by omega) (by omega) (by omega)), HM_fr hH (q1 D (by omega)) (q1 (D + 16) (by omega)), hHc, JTold_fr hTo (fun q x y => q1 q (by have := hD2 q x y; omega)) (m'0 3 (by decide) (by decide) (by decide) (by decide) (by decide) (by decide) (by decide) (by decide)) (m'q 2 (by decide) (by decide) (by decide) (by decide)), ?_, HIS_frame hHi (Int.le_refl _) (q1 48 (by decide)) (q1 49 (by decide)) (q1 50 (by decide)) (q1 51 (by decide)) (m'0 42 (by decide) (by decide) (by decide) (by decide) (by decide) (by decide) (by decide) (by decide)) (m'q 27 (by decide) (by decide) (by decide) (by decide)), q7, JAn_fr hA (q1 65 (by decide)) (q1 66 (by decide)) (q1 67 (by decide)) (q1 71 (by decide)) (m'q 36 (by decide) (by decide) (by decide) (by decide)) (m'q 44 (by decide) (by decide) (by decide) (by decide)) (m'0 70 (by decide) (by decide) (by decide) (by decide) (by decide) (by decide) (by decide) (by decide)) (m'0 72 (by decide) (by decide) (by decide) (by decide) (by decide) (by decide) (by decide) (by decide)) (m'0 73 (by decide) (by decide) (by decide) (by decide) (by decide) (by decide) (by decide) (by decide))⟩⟩
        rcases hp with ⟨hp1, hp2⟩ | ⟨w1, w2, w3, w4, w5⟩
        · left
          refine ⟨by rw [q1 44 (by decide), q1 45 (by decide)]; exact hp1, fun i hi => by rw [m'26 i hi]; exact hp2 i hi⟩
        · right
          refine ⟨PW_fr2 w1 (q1 44 (by decide)) (q1 45 (by decide)) (q1 46 (by decide)) m'26 q5, ?_⟩
          rw [m'26 0 (by decide), m'26 9 (by decide), m'26 10 (by decide)]
          exact ⟨w2, w3, w4, w5⟩
      refine ⟨c', m', m' 0 51, z1, jx, by rw [m5]; exact ⟨by decide, by decide⟩, fun Q hQ => ?_, Or.inl ⟨m5, fun Q E hQ => ?_⟩⟩
      · unfold f_X10_explore
        rintro σ1 rfl
        refine s_in ha ⟨by decide, by decide⟩ ⟨by decide, by decide⟩ (fun _ _ => ⟨⟨by decide, by decide⟩, fun _ => ?_, fun u => absurd u (by decide)⟩) (fun u => by omega)
        rw [sset_place _ _ _ (by decide), n4, ← em]
        exact ⟨⟨by decide, by decide⟩, fun _ => gom Q hQ, fun u => absurd u (by decide)⟩
      · unfold f_X9_explore
        refine ⟨ha, fun u => by omega, fun _ => ⟨ha, fun _ => (t_needStory hD h2 d10 nd12 _ E).1 nd0 ?_, fun u => by omega⟩⟩
        rw [h2, Int.toNat_natCast]
        refine go _ ?_
        rw [q8]; exact hQ
  · refine q_thr (r := 0) (v := 1) (e := IAE) hJ0 (Or.inl rfl) (Or.inl ⟨rfl, rfl⟩) (fun Q hQ => ?_) (fun Q E hE => ?_)
    · unfold f_X10_explore
      rintro σ1 rfl
      exact s_in ha ⟨by decide, by decide⟩ ⟨by decide, by decide⟩ (fun u w => by omega) (fun _ => ⟨⟨by decide, by decide⟩, fun u => absurd rfl u, fun _ => fail_c hQ⟩)
    · unfold f_X9_explore f_X9_explore_J12
      exact ⟨ha, fun _ => hE, fun _ => ⟨ha, fun u => by omega, fun _ => hE⟩⟩
/-- analyze -/
theorem Q_analyze (hJ : Jx KB c m) : JRi (Jx KB) (f_X9_analyze c) (f_X10_analyze m) (fun e v => e = ISE ∧ v = 1) := by
  have hJ0 := hJ
  obtain ⟨hz, hT, D, ⟨hD, h2, h3, hX, h44, E0, hE1, hE2⟩, hB⟩ := hJ
  rcases hB with ⟨n4, ⟨n10, -⟩, -⟩ | ⟨n4, φ, e, N, S, B, nd, ck, ts, tm, H, hS, hH, hHc, hTo, hp, hHi, hE, hA⟩
  · refine q_thr (r := 0) (v := 1) (e := ISE) hJ0 (Or.inl rfl) ⟨rfl, rfl⟩ (fun Q hQ => ?_) (fun Q E hE => ?_)
    · unfold f_X10_analyze
      rintro σ1 rfl
      rw [sset_place _ _ _ (by decide), n4]
      exact ⟨⟨by decide, by decide⟩, fun u => absurd rfl u, fun _ => fail_c hQ⟩
    · unfold f_X9_analyze
      exact (t_needStory (nd := 0) hD h2 n10 (by decide) _ E).2 rfl hE
  · have d10 : c D 10 = (nd : Int) := hS.1.2.2.2.2.2.2.2.2.1
    have nd0 : 0 < nd := hS.1.2.2.2.2.2.2.2.2.2.2.2.1
    have nd12 : nd ≤ 12 := hS.1.2.2.2.2.2.2.2.2.2.2.2.2.1
    obtain ⟨c', m', r, q1, q2, q3, q4, ⟨q5, q6⟩, m5, q7, q8, go, go2, gom⟩ := J_settle hD hS hH n4
    have hD2 : ∀ q, D ≤ q → q ≤ D + 17 → q < 38 := fun q x y => by omega
    have m'q : ∀ q, q ≠ 0 → q < 36 → m' q = m q := fun q x y => q5 q x (Or.inl y)
    have m'0 : ∀ i, i ≠ 5 → i < 48 ∨ (49 < i ∧ i < 66) → m' 0 i = m 0 i := fun i x y => q6 i x (by omega) (by omega) (by omega) (by omega) (by omega) (by omega) (by omega) (by omega) (by omega)
    have z1 : HIz c' m' := ⟨fun q hq => by rw [q2 q (by omega)]; exact hz.1 q hq, fun q hq => by rw [q5 q (by omega) (by omega)]; exact hz.2 q hq⟩
    have jx : Jx KB c' m' := by
      refine ⟨z1, JTx_fr hT (by rw [q2 0 (by decide)]) (q2 1 (by decide)) (m'0 1 (by decide) (by decide)) (m'q 1 (by decide) (by decide)), D, ⟨hD, by rw [q2 0 (by decide)]; exact h2, by rw [q2 0 (by decide)]; exact h3, BX_same hX (m'0 44 (by decide) (by decide)) (m'q 29 (by decide) (by decide)) (m'q 30 (by decide) (by decide)) (m'q 31 (by decide) (by decide)), by rw [m'0 44 (by decide) (by decide)]; exact h44, ⟨E0, hE1, by rw [q2 44 (by decide)]; exact hE2⟩⟩, Or.inr ⟨by rw [m'0 4 (by decide) (by decide)]; exact n4, φ, e, N, S, B, nd, ck, ts, tm, H, SRx_frame hS (fun q x y => q2 q (by have := hD2 q x y; omega)) (fun q x y => m'q q (by omega) (by omega)) (fun i hi => m'0 i (by omega) (by omega)), HM_fr hH (q2 D (by omega)) (q2 (D + 16) (by omega)), hHc, JTold_fr hTo (fun q x y => q2 q (by have := hD2 q x y; omega)) (m'0 3 (by decide) (by decide)) (m'q 2 (by decide) (by decide)), ?_, HIS_frame hHi (Int.le_refl _) (q2 48 (by decide)) (q2 49 (by decide)) (q2 50 (by decide)) (q2 51 (by decide)) (m'0 42 (by decide) (by decide)) (m'q 27 (by decide) (by decide)), EXPL_fr hE (fun q x y => q2 q (by omega)) (fun q x y => m'q q (by omega) (by omega)) (m'0 51 (by decide) (by decide)) (m'0 52 (by decide) (by decide)) (m'0 53 (by decide) (by decide)) (m'0 54 (by decide) (by decide)), Or.inr ⟨q4, q7, q1⟩⟩⟩
      have m26 := m'q 26 (by decide) (by decide)
      rcases hp with hp | ⟨w1, w2, w3, w4, w5⟩
      · exact Or.inl (PN_fr hp (q2 44 (by decide)) (q2 45 (by decide)) m26)
      · refine Or.inr ⟨PW_fr w1 (q2 44 (by decide)) (q2 45 (by decide)) (q2 46 (by decide)) (q2 47 (by decide)) m26 (m'q 29 (by decide) (by decide)) (m'q 30 (by decide) (by decide)) (m'0 44 (by decide) (by decide)), ?_⟩
        rw [m26]
        exact ⟨w2, w3, w4, w5⟩
    refine ⟨c', m', (r : Int), z1, jx, by rw [m5]; exact ⟨by decide, by decide⟩, gom, Or.inl ⟨m5, fun Q E hQ => ?_⟩⟩
    unfold f_X9_analyze
    refine (t_needStory hD h2 d10 nd12 _ E).1 nd0 ?_
    rw [h2, Int.toNat_natCast]
    exact go _ (go2 _ hQ)
end ACTS
