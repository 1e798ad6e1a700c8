/-! ===== pure layer: the class marks the end of a block ===== -/
section SMARK
variable {c c' m m' : St} {D N S B nd ck ts tm dp b ck' ts' : Nat} {φ : Nat → Nat} {e : Nat → Int} {w x y f w' x' y' : Int}
theorem kYS (hd : 0 < dp) (hcur : m 25 (dp - 1) = b) (hb : b < B) (hk : m 15 b ≠ 2) (hYS : YS m e N B nd dp) : YS m (eu e b S) N B nd (dp - 1) := by
  obtain ⟨s0, s1, s2, s3, s4, s5, s6⟩ := id hYS
  refine ⟨by omega, fun d hdd => ?_, fun d d' u1 u2 => s2 d d' u1 (by omega), fun u => s3 hd, fun d hdd => s4 d (by omega), fun q hq => ⟨fun g => ?_, fun g => ?_⟩, YW_pop s6⟩
  · have := s2 d (dp - 1) (by omega) (by omega)
    obtain ⟨q1, q2, q3, q4⟩ := s1 d (by omega)
    rw [eu_ne (by omega)]
    exact ⟨q1, q2, q3, q4⟩
  · have : q ≠ b := by intro u; rw [u] at g; omega
    rw [eu_ne this]; exact (s5 q hq).1 g
  · by_cases u : q = b
    · left; rw [u, eu_eq]; omega
    · rw [eu_ne u]
      rcases (s5 q hq).2 g with r | ⟨d, r1, r2⟩
      · exact Or.inl r
      · right
        refine ⟨d, ?_, r2⟩
        by_cases t : d = dp - 1
        · rw [t] at r2; omega
        · omega
theorem own_s (hO : OWN c m D φ N dp b) (hk : m 15 b ≠ 2) : 2 ≤ dp → c 41 dp = 0 := by
  intro g
  rcases hO with ⟨o1, -⟩ | ⟨o1, o, o2, o3, o4, o5⟩
  · omega
  · by_cases u : c 41 dp = 0
    · exact u
    · exact absurd (o5.1 u).1 hk
theorem kYN (hC : AC c c' D S nd dp tm tm w' x' y') (hb : b < B) (hk : m 15 b ≠ 2) (hP : YP φ N S) (hYA : YA m N B) (hYB : YB m N) (hYC : YC m N B) (hYE : YE m N B ck ts) (hl : c 40 dp = lp φ (m 18 b)) (hO : OWN c m D φ N dp b) (hYN : YN c m D φ e N) : YN c' m D φ (eu e b S) N := by
  have bf := SY_bf hYC hb
  have lr := SY_lr hP bf hl
  have nosec := own_s hO hk
  obtain ⟨a1, a2, a3⟩ := AC_4 hC (by clear bf; omega)
  obtain ⟨b1, b2, b3⟩ := AC_5 hC (OWN_r hP hO)
  obtain ⟨d1, d2, d3⟩ := AC_6 hC (OWN_r hP hO)
  clear bf
  intro s hs
  obtain ⟨y1, y2, y3⟩ := hYN s hs
  have hφ := hP.1 s hs
  have a7 := hYA s hs
  have hEs := hYE s hs
  refine ⟨?_, fun g => ?_, fun g => ?_⟩
  · rcases hYB s hs with ⟨u1, u2⟩ | ⟨u1, u2, u3⟩
    · by_cases g : (m 7 s).toNat = b
      · rw [g] at u2
        have e1 := a2 (by omega)
        rcases lr with ⟨l1, -⟩ | ⟨l1, l2, l3, l4⟩
        · omega
        · rw [l3, Int.toNat_natCast, show (m 18 b).toNat = s by omega] at e1
          rw [e1, u1, lk_n, g, eu_eq]
      · rw [u1, lk_n, eu_ne g]
        rw [u1, lk_n] at y1
        rw [a3 _ (by omega), y1]
        rcases lr with ⟨-, l2⟩ | ⟨l1, l2, l3, l4⟩
        · exact Or.inl l2
        · right
          rw [l3, Int.toNat_natCast]
          intro r
          have := ph_inj hP hs (by omega) r
          rcases hYC b hb with ⟨-, t⟩ | ⟨-, -, -, t4, t5, t6, -⟩
          · omega
          · rw [← this] at t6; omega
    · rw [lk_eu (Or.inl (by omega)), ← y1]
      refine a3 _ (by omega) ?_
      rcases lr with ⟨-, l2⟩ | ⟨l1, l2, l3, l4⟩
      · exact Or.inl l2
      · right
        rw [l3, Int.toNat_natCast]
        intro r
        have := ph_inj hP hs (by omega) r
        rcases hYC b hb with ⟨-, t⟩ | ⟨-, -, -, t4, t5, t6, t7⟩
        · omega
        · rw [← this] at t7; omega
  · have y2 := y2 g
    have same : m 8 s ≠ b → c' (D + 5) (φ s) = c (D + 5) (φ s) := by
      intro g2
      refine b3 _ (by omega) ?_
      rcases hO with ⟨o1, -⟩ | ⟨o1, o, o2, o3, o4, o5⟩
      · right; left; omega
      · right; right; right
        rw [o3, Int.toNat_natCast]
        intro v
        have so := ph_inj hP hs o2 v
        subst so
        rcases o4 with ⟨t1, -⟩ | ⟨t1, t2, t3, t4, t5, t6⟩
        · omega
        · exact g2 t5
    by_cases g2 : m 8 s = -1
    · rw [if_pos g2] at y2 ⊢
      rw [same (by omega), y2]
    · rw [if_neg g2] at y2 ⊢
      have hr : 0 ≤ m 8 s ∧ m 8 s < B := by
        rcases g with g | g
        · have := (hEs.1 g).2.2.1; omega
        · have := (hEs.2 g).2.2.2; omega
      by_cases g3 : m 8 s = b
      · rw [g3, Int.toNat_natCast] at y2 ⊢
        rcases hO with ⟨o1, o2⟩ | ⟨o1, o, o2, o3, o4, o5⟩
        · exfalso
          rcases g with g | g
          · have := (hEs.1 g).2.2.1; rw [g3, Int.toNat_natCast] at this; omega
          · have := (hEs.2 g).2.2.2; rw [g3, Int.toNat_natCast] at this; omega
        · have so : s = o := by
            rcases g with g | g
            · have := (hEs.1 g).2.2.1; rw [g3, Int.toNat_natCast] at this
              rcases o4 with ⟨t1, t2, -⟩ | ⟨t1, -⟩ <;> omega
            · obtain ⟨-, -, t1, t2⟩ := hEs.2 g
              rw [g3, Int.toNat_natCast] at t2
              rcases o4 with ⟨w1, -⟩ | ⟨w1, w2, -⟩
              · omega
              · rcases t2 with t2 | ⟨-, -, -, t2⟩
                · omega
                · rw [t2, t1] at w2; omega
          subst so
          rcases lr with ⟨l1, l2⟩ | ⟨l1, l2, l3, l4⟩
          · have := b2 l2 o1 (nosec o1)
            rw [o3, Int.toNat_natCast] at this
            have f0 : m 17 b = -1 := by
              rcases hYC b hb with ⟨t, -⟩ | ⟨-, -, -, t4, -⟩
              · exact t
              · omega
            rw [this, f0, lk_n, Int.toNat_natCast, eu_eq]
          · have f0 : m 17 b ≠ -1 := by
              rcases hYC b hb with ⟨-, t⟩ | ⟨t, -⟩
              · omega
              · omega
            rw [b3 _ (by omega) (Or.inl (by omega)), y2, lk_eu (Or.inl f0)]
      · rw [same g3, y2, lk_eu (Or.inr (by omega))]
  · have y3 := y3 g
    have e6 : c' (D + 6) (φ s) = c (D + 6) (φ s) := by
      refine d3 _ (by omega) ?_
      by_cases u : 2 ≤ dp
      · right; right; left; exact nosec u
      · right; left; omega
    rw [e6]
    by_cases g2 : m 9 s = -1
    · rw [if_pos g2] at y3 ⊢; exact y3
    · rw [if_neg g2] at y3 ⊢
      obtain ⟨-, -, -, t3⟩ := hEs.1 g
      rcases t3 with t3 | ⟨t3, t4, t5, t6, t7, t8⟩
      · exact absurd t3 g2
      · have : (m 9 s).toNat ≠ b := by intro u; rw [u] at t5; omega
        rw [lk_eu (Or.inr this)]; exact y3
theorem kYV (hC : AC c c' D S nd dp tm tm w' x' y') (hd : 0 < dp) (hcur : m 25 (dp - 1) = b) (hb : b < B) (hP : YP φ N S) (hYC : YC m N B) (hYF : YF m N B nd ck) (hYS : YS m e N B nd dp) (hl : c 40 dp = lp φ (m 18 b)) (hO : OWN c m D φ N dp b) (hYV : YV c m D φ e nd) : YV c' m D φ (eu e b S) nd := by
  have lr := SY_lr hP (SY_bf hYC hb) hl
  obtain ⟨v1, v2⟩ := AC_14 hC
  obtain ⟨s0, s1, s2, s3, s4, s5, s6⟩ := id hYS
  intro v hv
  obtain ⟨f1, f2, f3, f4⟩ := hYF.2 v hv
  have old := hYV v hv
  have s3' := s3 hd
  have s10 := s1 0 hd
  by_cases g : m 22 v = b
  · rw [g, Int.toNat_natCast] at f3 f4 old ⊢
    have hdp : dp = 1 := by
      rcases hO with ⟨o1, -⟩ | ⟨o1, o, o2, o3, o4, o5⟩
      · exact o1
      · omega
    subst hdp
    rw [show (1 : Nat) - 1 = 0 from rfl] at hcur
    rw [hcur, Int.toNat_natCast] at s10
    have hvn : v = nd - 1 := by omega
    rcases lr with ⟨l1, l2⟩ | ⟨l1, l2, l3, l4⟩
    · intro _
      have f0 : m 17 b = -1 := by
        rcases hYC b hb with ⟨t, -⟩ | ⟨-, -, -, t4, -⟩
        · exact t
        · omega
      rw [f0, lk_n, Int.toNat_natCast, eu_eq, hvn]
      exact v1 l2 (by omega)
    · have f0 : m 17 b ≠ -1 := by
        rcases hYC b hb with ⟨-, t⟩ | ⟨t, -⟩
        · omega
        · omega
      rw [lk_eu (Or.inl f0), v2 _ (Or.inl (by omega))]
      exact old
  · rw [lk_eu (Or.inr (by omega)), v2]
    · exact old
    · by_cases u : dp < 2
      · right; right
        intro r
        have hdp : dp = 1 := by omega
        subst hdp
        rw [show (1 : Nat) - 1 = 0 from rfl] at hcur
        rw [r] at g
        omega
      · right; left; omega
/-- the mark of a block -/
def MKd (m : St) (b : Nat) (w' x' : Int) : Prop := (m 15 b = 0 ∧ w' = 11 ∧ x' = m 19 b) ∨ (m 15 b = 1 ∧ w' = 12 ∧ x' = m 16 b)
theorem mk_2 (h : MKd m b w' x') : m 15 b ≠ 2 := by unfold MKd at h; omega
theorem kYX (hC : AC c c' D S nd dp tm tm w' x' y') (hb : b < B) (hk : MKd m b w' x') (hP : YP φ N S) (hYC : YC m N B) (hYK : YK c m D φ N) (hl : c 40 dp = lp φ (m 18 b)) (hO : OWN c m D φ N dp b) (hYX : YX c m D e B S) : YX c' m D (eu e b S) B (S + 1) := by
  have lr := SY_lr hP (SY_bf hYC hb) hl
  have hk2 := mk_2 hk
  obtain ⟨a1, a2, a3⟩ := AC_4 hC (by omega)
  obtain ⟨k1, k2, k3, -, -, -, k7, k8, -, k40, k42, k10, k11, k12, k13, k39, k41, kh⟩ := id hC
  intro q hq
  by_cases g : q = b
  · right
    rw [g, eu_eq, Int.toNat_natCast, up_at k1, up_at k2, up_at k42, a1]
    refine ⟨by omega, by omega, ?_, ?_, rfl⟩
    · rcases hk with h | h
      · exact Or.inl h
      · exact Or.inr h
    rw [if_neg]
    rintro ⟨g1, g2⟩
    rcases hO with ⟨o1, -⟩ | ⟨o1, o, o2, o3, o4, o5⟩
    · omega
    · rw [o3, Int.toNat_natCast] at g2
      rcases o4 with ⟨t1, -⟩ | ⟨t1, t2, t3, t4, t5, t6⟩ <;> omega
  · rw [eu_ne g]
    rcases hYX q hq with u | ⟨g1, g2, g3, g4, g5⟩
    · exact Or.inl u
    · right
      rw [up_ne k1 (by omega), up_ne k2 (by omega), up_ne k42 (by omega)]
      refine ⟨g1, by omega, g3, g4, ?_⟩
      rw [a3 _ (by omega)]
      · exact g5
      · rcases lr with ⟨l1, l2⟩ | ⟨l1, l2, l3, l4⟩
        · exact Or.inl l2
        · right
          rw [l3, Int.toNat_natCast]
          intro u
          have := hYK (m 18 b).toNat (by omega)
          unfold KR at this
          rw [u] at g3
          omega
theorem SY_mark (hC : AC c c' D S nd dp tm tm w' x' y') (hd : 0 < dp) (hcur : m 25 (dp - 1) = b) (hk : MKd m b w' x') (h43 : c' 43 = c 43) (h15 : c' (D + 15) = c (D + 15)) (h16 : c' (D + 16) = c (D + 16))
    (h : SY c m D φ e N S B nd ck ts tm dp) : SY c' m D φ (eu e b S) N (S + 1) B nd ck ts tm (dp - 1) := by
  obtain ⟨hb, he, hbn⟩ := SY_cur hd hcur h
  obtain ⟨hP, hYA, hYB, hYC, hYD, hYE, hYF, hYS, hYN, hYV, hYO, hYL, hYK, hYG, hYT, hYM, hYH, hYQ, hYX, hYU, hYZ⟩ := h
  have hO := SY_own hd hcur hb hYD hYF hYS hYL hYK
  have hl := SY_lat hd hcur hYL
  have host := SY_ost hP hYC hYD hYF hYS hYN hYO hYL
  have hlr : c 40 dp = -1 ∨ (0 ≤ c 40 dp ∧ c 40 dp < S) := by
    have lr := SY_lr hP (SY_bf hYC hb) hl
    omega
  have hk2 := mk_2 hk
  obtain ⟨k1, k2, k3, -, -, -, k7, k8, -, k40, k42, k10, k11, k12, k13, k39, k41, kh⟩ := id hC
  refine ⟨⟨fun s hs => by have := hP.1 s hs; omega, hP.2⟩, hYA, hYB, hYC, hYD, hYE, hYF, kYS hd hcur hb hk2 hYS, kYN hC hb hk2 hP hYA hYB hYC hYE hl hO hYN, kYV hC hd hcur hb hP hYC hYF hYS hl hO hYV, ?_, ?_, ?_, ?_, ?_, ?_, ?_, ?_, kYX hC hb hk hP hYC hYK hl hO hYX, ?_, aYZ hC hd hlr host hYZ⟩
  · -- YO
    intro s hs
    rw [up_ne k42 (by have := hP.1 s hs; omega)]
    exact hYO s hs
  · -- YL
    exact ⟨fun d hdd => by rw [up_ne k40 (by omega)]; exact hYL.1 d (by omega), fun j hj => by rw [k41]; exact hYL.2.1 j (by omega), fun d hdd => by rw [k41]; exact hYL.2.2 d (by omega)⟩
  · -- YK
    intro s hs
    have := hP.1 s hs
    rw [up_ne k1 (by omega), up_ne k2 (by omega), up_ne k3 (by omega)]
    exact hYK s hs
  · unfold YG; rw [h43]; exact hYG
  · -- YT
    refine ⟨by rw [k10, k11, k12]; exact hYT.1, fun s hs => ?_⟩
    have := hP.1 s hs
    rw [up_ne k7 (by omega), up_ne k8 (by omega)]
    exact hYT.2 s hs
  · unfold YM; rw [k39, k13]; exact hYM
  · unfold YH; rw [kh]; exact hYH
  · unfold YQ; rw [h15, h16]; exact hYQ
  · -- YU
    intro q hq
    by_cases g : q = S
    · right; exact ⟨b, hb, by rw [eu_eq, g]⟩
    · rcases hYU q (by omega) with r | ⟨r, r1, r2⟩
      · exact Or.inl r
      · right
        refine ⟨r, r1, ?_⟩
        rw [eu_ne]
        · exact r2
        · intro u; rw [u, he] at r2; omega
end SMARK
