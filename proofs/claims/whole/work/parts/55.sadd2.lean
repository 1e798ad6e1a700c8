/-! ===== pure layer: a statement is added to both, the class's rows ===== -/
section SADD2
variable {c c' m m' : St} {D N S B nd ck ts tm tm' dp b ck' ts' : Nat} {φ : Nat → Nat} {e : Nat → Int} {w x y f w' x' y' tmc tmc' : Int}
theorem AC_4 (h : AC c c' D S nd dp tmc tmc' w x y) (hc : c 40 dp = -1 ∨ (0 ≤ c 40 dp ∧ c 40 dp < S)) : c' (D + 4) S = -1 ∧ (c 40 dp ≠ -1 → c' (D + 4) (c 40 dp).toNat = S) ∧ ∀ q, q ≠ S → (c 40 dp = -1 ∨ q ≠ (c 40 dp).toNat) → c' (D + 4) q = c (D + 4) q := by
  obtain ⟨-, -, -, h4, -⟩ := h
  by_cases g : c 40 dp = -1
  · rw [if_pos g] at h4
    exact ⟨up_at h4, fun q => absurd g q, fun q hq _ => up_ne h4 hq⟩
  · rw [if_neg g] at h4
    refine ⟨?_, fun _ => up_at h4, fun q hq hq2 => ?_⟩
    · rw [up_ne h4 (by omega)]; exact vu_eq _ _ _
    · rw [up_ne h4 (by omega)]; exact vu_ne _ _ hq
theorem AC_5 (h : AC c c' D S nd dp tmc tmc' w x y) (ho : 2 ≤ dp → 0 ≤ c 40 (dp - 1) ∧ c 40 (dp - 1) < S) : c' (D + 5) S = -1 ∧ (c 40 dp = -1 → 2 ≤ dp → c 41 dp = 0 → c' (D + 5) (c 40 (dp - 1)).toNat = S) ∧ ∀ q, q ≠ S → (c 40 dp ≠ -1 ∨ dp < 2 ∨ c 41 dp ≠ 0 ∨ q ≠ (c 40 (dp - 1)).toNat) → c' (D + 5) q = c (D + 5) q := by
  obtain ⟨-, -, -, -, h5, -⟩ := h
  by_cases g : c 40 dp = -1 ∧ 2 ≤ dp ∧ c 41 dp = 0
  · rw [if_pos g] at h5
    have := ho g.2.1
    refine ⟨?_, fun _ _ _ => up_at h5, fun q hq hq2 => ?_⟩
    · rw [up_ne h5 (by omega)]; exact vu_eq _ _ _
    · rw [up_ne h5 (by omega)]; exact vu_ne _ _ hq
  · rw [if_neg g] at h5
    exact ⟨up_at h5, fun a1 a2 a3 => absurd ⟨a1, a2, a3⟩ g, fun q hq _ => up_ne h5 hq⟩
theorem AC_6 (h : AC c c' D S nd dp tmc tmc' w x y) (ho : 2 ≤ dp → 0 ≤ c 40 (dp - 1) ∧ c 40 (dp - 1) < S) : c' (D + 6) S = -1 ∧ (c 40 dp = -1 → 2 ≤ dp → c 41 dp ≠ 0 → c' (D + 6) (c 40 (dp - 1)).toNat = S) ∧ ∀ q, q ≠ S → (c 40 dp ≠ -1 ∨ dp < 2 ∨ c 41 dp = 0 ∨ q ≠ (c 40 (dp - 1)).toNat) → c' (D + 6) q = c (D + 6) q := by
  obtain ⟨-, -, -, -, -, h5, -⟩ := h
  by_cases g : c 40 dp = -1 ∧ 2 ≤ dp ∧ c 41 dp ≠ 0
  · rw [if_pos g] at h5
    have := ho g.2.1
    refine ⟨?_, fun _ _ _ => up_at h5, fun q hq hq2 => ?_⟩
    · rw [up_ne h5 (by omega)]; exact vu_eq _ _ _
    · rw [up_ne h5 (by omega)]; exact vu_ne _ _ hq
  · rw [if_neg g] at h5
    exact ⟨up_at h5, fun a1 a2 a3 => absurd ⟨a1, a2, a3⟩ g, fun q hq _ => up_ne h5 hq⟩
theorem AC_14 (h : AC c c' D S nd dp tmc tmc' w x y) : (c 40 dp = -1 → dp < 2 → c' (D + 14) (nd - 1) = S) ∧ ∀ q, (c 40 dp ≠ -1 ∨ 2 ≤ dp ∨ q ≠ nd - 1) → c' (D + 14) q = c (D + 14) q := by
  obtain ⟨-, -, -, -, -, -, -, -, h5, -⟩ := h
  by_cases g : c 40 dp = -1 ∧ dp < 2
  · rw [if_pos g] at h5
    exact ⟨fun _ _ => up_at h5, fun q hq => up_ne h5 (by omega)⟩
  · rw [if_neg g] at h5
    exact ⟨fun a1 a2 => absurd ⟨a1, a2⟩ g, fun q _ => by rw [h5]⟩
/-- the open block and its owner -/
def OWN (c m : St) (D : Nat) (φ : Nat → Nat) (N dp b : Nat) : Prop := (dp = 1 ∧ m 15 b = 0) ∨ (2 ≤ dp ∧ ∃ o : Nat, o < N ∧ c 40 (dp - 1) = ((φ o : Nat) : Int) ∧ ((m 15 b = 2 ∧ m 16 b = o ∧ m 3 o = 3 ∧ (m 8 o = b ∨ m 9 o = b) ∧ c (D + 1) (φ o) = 6) ∨ (m 15 b = 1 ∧ m 24 (m 16 b).toNat = o ∧ m 3 o = 4 ∧ m 4 o = m 16 b ∧ m 8 o = b ∧ c (D + 1) (φ o) = 7)) ∧ (c 41 dp ≠ 0 ↔ (m 15 b = 2 ∧ m 8 o ≠ b)))
theorem SY_own (hd : 0 < dp) (hcur : m 25 (dp - 1) = b) (hb : b < B) (hYD : YD m N B nd ck) (hYF : YF m N B nd ck) (hYS : YS m e N B nd dp) (hYL : YL c m φ dp) (hYK : YK c m D φ N) : OWN c m D φ N dp b := by
  obtain ⟨s0, s1, s2, s3, s4, s5, s6⟩ := hYS
  obtain ⟨l1, l2, l3⟩ := hYL
  by_cases g : dp = 1
  · left
    have := s3 hd
    subst g
    rw [show (1 : Nat) - 1 = 0 from rfl] at hcur
    rw [hcur, Int.toNat_natCast] at this
    exact ⟨rfl, this.1⟩
  · right
    refine ⟨by omega, ?_⟩
    have h4 := s4 (dp - 2) (by omega)
    have h1 := l1 (dp - 2) (by omega)
    have h3 := l3 (dp - 2) (by omega)
    rw [show dp - 2 + 1 = dp - 1 by omega] at h4 h1 h3
    rw [show dp - 2 + 2 = dp by omega] at h3
    rw [hcur, Int.toNat_natCast] at h4 h3
    have hD := (hYD.1 b hb).2.2
    rcases h4 with ⟨g1, g2⟩ | ⟨g1, g2⟩
    · rcases hD with r | r | ⟨r1, r2, r3, r4, r5⟩
      · omega
      · omega
      · have e0 : ((m 16 b).toNat : Int) = m 16 b := by omega
        refine ⟨(m 16 b).toNat, by omega, ?_, Or.inl ⟨g1, e0.symm, r4, r5, ?_⟩, h3⟩
        · rw [h1, ← g2, lp_p (by omega)]
        · have := hYK (m 16 b).toNat (by omega)
          unfold KR at this
          omega
    · rcases hD with r | ⟨r1, r2, r3, r4⟩ | r
      · omega
      · obtain ⟨f1, f2, f3, f4⟩ := hYF.1 (m 16 b).toNat (by omega)
        have e0 : ((m 24 (m 16 b).toNat).toNat : Int) = m 24 (m 16 b).toNat := by omega
        refine ⟨(m 24 (m 16 b).toNat).toNat, by omega, ?_, Or.inr ⟨g1, e0.symm, f3, by omega, r4, ?_⟩, ?_⟩
        · rw [h1, ← g2, lp_p (by omega)]
        · have := hYK (m 24 (m 16 b).toNat).toNat (by omega)
          unfold KR at this
          omega
        · rw [h3]
          constructor
          · rintro ⟨u, -⟩; omega
          · rintro ⟨u, -⟩; omega
      · omega
theorem ph_inj (hP : YP φ N S) {s t : Nat} (hs : s < N) (ht : t < N) (h : φ s = φ t) : s = t := by
  rcases Nat.lt_trichotomy s t with g | g | g
  · have := hP.2 s t g ht; omega
  · exact g
  · have := hP.2 t s g hs; omega
/-- what the class has of the open block -/
theorem SY_lat (hd : 0 < dp) (hcur : m 25 (dp - 1) = b) (hYL : YL c m φ dp) : c 40 dp = lp φ (m 18 b) := by
  have := hYL.1 (dp - 1) (by omega)
  rw [show dp - 1 + 1 = dp by omega, hcur, Int.toNat_natCast] at this
  exact this
theorem SY_lr (hP : YP φ N S) (hbf : m 18 b = -1 ∨ (0 ≤ m 18 b ∧ m 18 b < N)) (hl : c 40 dp = lp φ (m 18 b)) : (m 18 b = -1 ∧ c 40 dp = -1) ∨ (0 ≤ m 18 b ∧ m 18 b < N ∧ c 40 dp = ((φ (m 18 b).toNat : Nat) : Int) ∧ φ (m 18 b).toNat < S) := by
  rcases hbf with g | ⟨g1, g2⟩
  · left; rw [hl, g]; exact ⟨rfl, lp_n⟩
  · right
    rw [hl, lp_p (by omega)]
    exact ⟨g1, g2, rfl, hP.1 _ (by omega)⟩
theorem OWN_r (hP : YP φ N S) (h : OWN c m D φ N dp b) : 2 ≤ dp → 0 ≤ c 40 (dp - 1) ∧ c 40 (dp - 1) < S := by
  intro g
  rcases h with ⟨h1, -⟩ | ⟨-, o, h1, h2, -⟩
  · omega
  · rw [h2]; have := hP.1 o h1; omega
theorem aYN (hA : AM m m' N b tm tm' w x y f) (hC : AC c c' D S nd dp tmc tmc' w' x' y') (hb : b < B) (he : e b = -1) (hf : w = 3 ∨ w = 4 → f = -1) (hP : YP φ N S) (hYA : YA m N B) (hYB : YB m N) (hYC : YC m N B) (hYE : YE m N B ck ts) (hl : c 40 dp = lp φ (m 18 b)) (hO : OWN c m D φ N dp b) (h : YN c m D φ e N) : YN c' m' D (pu φ N S) e (N + 1) := by
  have h3 := hA.1
  have h7 := hA.2.2.2.2.1
  have h8 := hA.2.2.2.2.2.1
  have h9 := hA.2.2.2.2.2.2.1
  have bf := SY_bf hYC hb
  obtain ⟨n1, n2, n3⟩ := AM_6 hA bf
  obtain ⟨k1, k2, k3⟩ := AM_17 hA
  have lr := SY_lr hP bf hl
  obtain ⟨a1, a2, a3⟩ := AC_4 hC (by omega)
  obtain ⟨b1, b2, b3⟩ := AC_5 hC (OWN_r hP hO)
  obtain ⟨d1, d2, d3⟩ := AC_6 hC (OWN_r hP hO)
  intro s hs
  by_cases q : s = N
  · rw [q, pu_eq, up_at h3, up_at h8, up_at h9, up_at h7, n1, a1, b1, d1, lk_n, Int.toNat_natCast, he]
    exact ⟨rfl, fun g => by rw [if_pos (hf g)], fun _ => by rw [if_pos rfl]⟩
  · have hs' : s < N := by omega
    rw [pu_lt hs', up_ne h3 q, up_ne h8 q, up_ne h9 q, up_ne h7 q]
    obtain ⟨y1, y2, y3⟩ := h s hs'
    have hφ := hP.1 s hs'
    have rg : ∀ q : Nat, q < B → m 17 q = -1 ∨ (0 ≤ m 17 q ∧ m 17 q < N) := fun q hq => by
      rcases hYC q hq with ⟨g, -⟩ | ⟨g1, g2, -⟩
      · exact Or.inl g
      · exact Or.inr ⟨g1, g2⟩
    refine ⟨?_, fun g => ?_, fun g => ?_⟩
    · rcases lr with ⟨g1, g2⟩ | ⟨g1, g2, g3, g4⟩
      · rw [a3 _ (by omega) (Or.inl g2), n3 s q (Or.inl g1), y1]
        refine (lk_pu ?_).symm
        rcases hYB s hs' with ⟨u, -⟩ | ⟨u1, u2, -⟩
        · exact Or.inl u
        · exact Or.inr ⟨by omega, u2⟩
      · by_cases g5 : s = (m 18 b).toNat
        · have e1 := n2 (by omega)
          have e2 := a2 (by omega)
          rw [g3, Int.toNat_natCast] at e2
          rw [g5, e1, e2, lk_N]
        · rw [a3 _ (by omega) (Or.inr ?_), n3 s q (Or.inr g5), y1]
          · refine (lk_pu ?_).symm
            rcases hYB s hs' with ⟨u, -⟩ | ⟨u1, u2, -⟩
            · exact Or.inl u
            · exact Or.inr ⟨by omega, u2⟩
          · rw [g3, Int.toNat_natCast]
            intro u
            exact g5 (ph_inj hP hs' (by omega) u)
    · -- the first block
      have y2 := y2 g
      have same : m 8 s ≠ b → c' (D + 5) (φ s) = c (D + 5) (φ s) := by
        intro g2
        refine b3 _ (by omega) ?_
        rcases hO with ⟨o1, -⟩ | ⟨o1, o, o2, o3, o4, o5⟩
        · right; left; omega
        · by_cases u : c 41 dp ≠ 0
          · right; right; left; exact u
          · right; right; right
            rw [o3, Int.toNat_natCast]
            intro v
            have so := ph_inj hP hs' o2 v
            subst so
            rcases o4 with ⟨v1, v2, v3, v4, v5⟩ | ⟨v1, v2, v3, v4, v5, v6⟩
            · exact u (o5.2 ⟨v1, g2⟩)
            · exact g2 v5
      by_cases g2 : m 8 s = -1
      · rw [if_pos g2] at y2 ⊢
        rw [same (by omega), y2]
      · rw [if_neg g2] at y2 ⊢
        have hr : 0 ≤ m 8 s ∧ m 8 s < B := by
          have := hYE s hs'
          rcases g with g | g
          · have := (this.1 g).2.2.1; omega
          · have := (this.2 g).2.2.2; omega
        by_cases g3 : m 8 s = b
        · rw [g3, Int.toNat_natCast] at y2 ⊢
          -- the owner
          rcases hO with ⟨o1, o2⟩ | ⟨o1, o, o2, o3, o4, o5⟩
          · exfalso
            have := hYE s hs'
            rcases g with g | g
            · have := (this.1 g).2.2.1; rw [g3, Int.toNat_natCast] at this; omega
            · have := (this.2 g).2.2.2; rw [g3, Int.toNat_natCast] at this; omega
          · have so : s = o := by
              have := hYE s hs'
              rcases g with g | g
              · have := (this.1 g).2.2.1; rw [g3, Int.toNat_natCast] at this
                rcases o4 with ⟨v1, v2, -⟩ | ⟨v1, -⟩ <;> omega
              · obtain ⟨-, -, t1, t2⟩ := this.2 g
                rw [g3, Int.toNat_natCast] at t2
                rcases o4 with ⟨v1, -⟩ | ⟨v1, v2, -⟩
                · omega
                · rcases t2 with t2 | ⟨-, -, -, t2⟩
                  · omega
                  · rw [t2, t1] at v2; omega
            subst so
            have sec : c 41 dp = 0 := by
              by_cases u : c 41 dp = 0
              · exact u
              · exact absurd g3 (o5.1 u).2
            rcases lr with ⟨l1, l2⟩ | ⟨l1, l2, l3, l4⟩
            · have := b2 l2 o1 sec
              rw [o3, Int.toNat_natCast] at this
              rw [this, k1 l1, lk_N]
            · rw [b3 _ (by omega) (Or.inl (by omega)), y2, k2 (by omega)]
              exact (lk_pu (rg b hb)).symm
        · rw [same g3, y2, k3 _ (by omega)]
          exact (lk_pu (rg _ (by omega))).symm
    · -- the second block
      have y3 := y3 g
      have same : m 9 s ≠ b → c' (D + 6) (φ s) = c (D + 6) (φ s) := by
        intro g2
        refine d3 _ (by omega) ?_
        rcases hO with ⟨o1, -⟩ | ⟨o1, o, o2, o3, o4, o5⟩
        · right; left; omega
        · by_cases u : c 41 dp = 0
          · right; right; left; exact u
          · right; right; right
            rw [o3, Int.toNat_natCast]
            intro v
            have so := ph_inj hP hs' o2 v
            subst so
            have := (o5.1 u).2
            rcases o4 with ⟨v1, v2, v3, v4, v5⟩ | ⟨v1, v2, v3, v4, v5, v6⟩
            · rcases v4 with v4 | v4
              · exact this v4
              · exact g2 v4
            · exact this v5
      obtain ⟨-, -, -, t3⟩ := (hYE s hs').1 g
      by_cases g2 : m 9 s = -1
      · rw [if_pos g2] at y3 ⊢
        rw [same (by omega), y3]
      · rw [if_neg g2] at y3 ⊢
        rcases t3 with t3 | ⟨t3, t4, t5, t6, t7, t8⟩
        · exact absurd t3 g2
        · by_cases g3 : m 9 s = b
          · rw [g3, Int.toNat_natCast] at t5 t6
            rw [g3, Int.toNat_natCast] at y3 ⊢
            rcases hO with ⟨o1, o2⟩ | ⟨o1, o, o2, o3, o4, o5⟩
            · omega
            · have so : s = o := by
                rcases o4 with ⟨v1, v2, -⟩ | ⟨v1, -⟩ <;> omega
              subst so
              have sec : c 41 dp ≠ 0 := o5.2 ⟨t5, fun u => t8 (by omega)⟩
              rcases lr with ⟨l1, l2⟩ | ⟨l1, l2, l3, l4⟩
              · have := d2 l2 o1 sec
                rw [o3, Int.toNat_natCast] at this
                rw [this, k1 l1, lk_N]
              · rw [d3 _ (by omega) (Or.inl (by omega)), y3, k2 (by omega)]
                exact (lk_pu (rg b hb)).symm
          · rw [same g3, y3, k3 _ (by omega)]
            exact (lk_pu (rg _ (by omega))).symm
theorem aYV (hA : AM m m' N b tm tm' w x y f) (hC : AC c c' D S nd dp tmc tmc' w' x' y') (hb : b < B) (hd : 0 < dp) (hcur : m 25 (dp - 1) = b) (hP : YP φ N S) (hYC : YC m N B) (hYF : YF m N B nd ck) (hYS : YS m e N B nd dp) (hl : c 40 dp = lp φ (m 18 b)) (hO : OWN c m D φ N dp b) (h : YV c m D φ e nd) : YV c' m' D (pu φ N S) e nd := by
  obtain ⟨-, -, -, -, -, -, -, -, -, -, -, -, -, -, -, -, -, -, -, -, h22, -⟩ := id hA
  have bf := SY_bf hYC hb
  obtain ⟨k1, k2, k3⟩ := AM_17 hA
  have lr := SY_lr hP bf hl
  obtain ⟨a1, a2⟩ := AC_14 hC
  obtain ⟨s0, s1, s2, s3, s4, s5, s6⟩ := hYS
  intro v hv
  rw [h22]
  obtain ⟨f1, f2, f3, f4⟩ := hYF.2 v hv
  have rg : ∀ q : Nat, q < B → m 17 q = -1 ∨ (0 ≤ m 17 q ∧ m 17 q < N) := fun q hq => by
    rcases hYC q hq with ⟨g, -⟩ | ⟨g1, g2, -⟩
    · exact Or.inl g
    · exact Or.inr ⟨g1, g2⟩
  have old := h v hv
  have s3' := s3 hd
  have s10 := s1 0 hd
  by_cases g : m 22 v = b
  · rw [g, Int.toNat_natCast] at f3 f4 old ⊢
    have hdp : dp = 1 := by
      rcases hO with ⟨o1, -⟩ | ⟨o1, o, o2, o3, o4, o5⟩
      · exact o1
      · omega
    subst hdp
    rw [show (1 : Nat) - 1 = 0 from rfl] at hcur
    rw [hcur, Int.toNat_natCast] at s10
    have hvn : v = nd - 1 := by omega
    rcases lr with ⟨l1, l2⟩ | ⟨l1, l2, l3, l4⟩
    · intro _
      rw [k1 l1, lk_N, hvn]
      exact a1 l2 (by omega)
    · rw [k2 (by omega), lk_pu (rg b hb), a2 _ (Or.inl (by omega))]
      exact old
  · rw [k3 _ (by omega), lk_pu (rg _ (by omega))]
    rw [a2]
    · exact old
    · by_cases u : dp < 2
      · right; right
        intro r
        have hdp : dp = 1 := by omega
        subst hdp
        rw [show (1 : Nat) - 1 = 0 from rfl] at hcur
        rw [r] at g
        omega
      · right; left; omega
theorem aYO (hA : AM m m' N b tm tm' w x y f) (hC : AC c c' D S nd dp tmc tmc' w' x' y') (hP : YP φ N S) (hYD : YD m N B nd ck) (hYA : YA m N B) (hO : OWN c m D φ N dp b) (h : YO c m φ N) : YO c' m' (pu φ N S) (N + 1) := by
  obtain ⟨-, -, -, -, h7, -, -, -, -, -, -, -, -, -, -, h15, h16, -⟩ := id hA
  obtain ⟨-, -, -, -, -, -, -, -, -, -, h42, -⟩ := id hC
  intro s hs
  rw [h15, h16]
  by_cases q : s = N
  · rw [q, pu_eq, up_at h42, up_at h7, Int.toNat_natCast]
    rcases hO with ⟨o1, o2⟩ | ⟨o1, o, o2, o3, o4, o5⟩
    · rw [if_neg (by omega), if_neg (by omega)]
    · rw [o3, Int.toNat_natCast]
      rcases o4 with ⟨v1, v2, v3, v4, v5⟩ | ⟨v1, v2, v3, v4, v5, v6⟩
      · rw [if_pos ⟨o1, v5⟩, if_pos v1, v2, Int.toNat_natCast, pu_lt o2]
      · rw [if_neg (by rintro ⟨-, u⟩; omega), if_neg (by omega)]
  · have hs' : s < N := by omega
    rw [pu_lt hs', up_ne h42 (by have := hP.1 s hs'; omega), up_ne h7 q, h s hs']
    by_cases g : m 15 (m 7 s).toNat = 2
    · rw [if_pos g, if_pos g]
      have := hYD.2 s hs' g
      have h7' := hYA s hs'
      have := (hYD.1 (m 7 s).toNat (by omega)).2.2
      rw [pu_lt (by omega)]
    · rw [if_neg g, if_neg g]
theorem aYL (hA : AM m m' N b tm tm' w x y f) (hC : AC c c' D S nd dp tmc tmc' w' x' y') (hd : 0 < dp) (hcur : m 25 (dp - 1) = b) (hYC : YC m N B) (hYD : YD m N B nd ck) (hYS : YS m e N B nd dp) (h : YL c m φ dp) : YL c' m' (pu φ N S) dp := by
  obtain ⟨-, -, -, -, -, h8, -, -, -, -, h18, -, -, -, -, h15, h16, -, -, -, -, -, h25⟩ := id hA
  obtain ⟨-, -, -, -, -, -, -, -, -, h40, -, -, -, -, -, -, h41, -⟩ := id hC
  obtain ⟨s0, s1, s2, s3, s4, s5, s6⟩ := hYS
  obtain ⟨l1, l2, l3⟩ := h
  refine ⟨fun d hdp => ?_, fun j hj => by rw [h41]; exact l2 j hj, fun d hdp => ?_⟩
  · rw [h25]
    by_cases g : d + 1 = dp
    · rw [g, up_at h40, show d = dp - 1 by omega, hcur, Int.toNat_natCast, up_at h18, lp_N]
    · have o1 := s2 d (dp - 1) (by omega) (by omega)
      have o2 := s1 d (by omega)
      rw [up_ne h40 g, up_ne h18 (by omega), l1 d hdp]
      refine (lp_pu ?_).symm
      exact SY_bf hYC (by omega)
  · rw [h41, h25, h15, h16]
    rw [l3 d hdp]
    have o2 := s1 (d + 1) (by omega)
    have := (hYD.1 (m 25 (d + 1)).toNat (by omega)).2.2
    constructor
    · rintro ⟨g1, g2⟩
      refine ⟨g1, ?_⟩
      rw [up_ne h8 (by omega)]; exact g2
    · rintro ⟨g1, g2⟩
      refine ⟨g1, ?_⟩
      rw [up_ne h8 (by omega)] at g2; exact g2
theorem aYK (hA : AM m m' N b tm tm' w x y f) (hC : AC c c' D S nd dp tmc tmc' w' x' y') (hP : YP φ N S) (hK : KR w x y f (m 19 b) w' x' y') (h : YK c m D φ N) : YK c' m' D (pu φ N S) (N + 1) := by
  obtain ⟨h3, h4, h5, -, h7, h8, -, -, -, -, -, -, -, -, -, -, -, h19, -⟩ := id hA
  obtain ⟨c1, c2, c3, -⟩ := id hC
  intro s hs
  rw [h19]
  by_cases q : s = N
  · rw [q, pu_eq, up_at h3, up_at h4, up_at h5, up_at h8, up_at h7, Int.toNat_natCast, up_at c1, up_at c2, up_at c3]
    exact hK
  · have hs' : s < N := by omega
    have hφ := hP.1 s hs'
    rw [pu_lt hs', up_ne h3 q, up_ne h4 q, up_ne h5 q, up_ne h8 q, up_ne h7 q, up_ne c1 (by omega), up_ne c2 (by omega), up_ne c3 (by omega)]
    exact h s hs'
theorem aYG (hA : AM m m' N b tm tm' w x y f) (hP : YP φ N S) (hg : w = 5 → c' 43 S = y) (hg2 : ∀ q, q < S → c' 43 q = c 43 q) (h : YG c m φ N) : YG c' m' (pu φ N S) (N + 1) := by
  obtain ⟨h3, -, h5, -⟩ := id hA
  intro s hs
  by_cases q : s = N
  · rw [q, pu_eq, up_at h3, up_at h5]; exact hg
  · have hs' : s < N := by omega
    have hφ := hP.1 s hs'
    rw [pu_lt hs', up_ne h3 q, up_ne h5 q, hg2 _ hφ]
    exact h s hs'
theorem aYT (hA : AM m m' N b tm tm' w x y f) (hC : AC c c' D S nd dp tm tm' w' x' y') (hP : YP φ N S) (htm : tm' = tm) (h : YT c m D φ N tm) : YT c' m' D (pu φ N S) (N + 1) tm := by
  obtain ⟨-, -, -, -, -, -, -, h10, h11, -, -, -, h12, h13, h14, -⟩ := id hA
  obtain ⟨-, -, -, -, -, -, c7, c8, -, -, -, c10, c11, c12, -⟩ := id hC
  refine ⟨fun t ht => by rw [c10, c11, c12, h12, h13, h14]; exact h.1 t ht, fun s hs => ?_⟩
  by_cases q : s = N
  · rw [q, pu_eq, up_at h10, up_at h11, up_at c7, up_at c8]
    exact ⟨rfl, rfl, by omega, by omega, by omega⟩
  · have hs' : s < N := by omega
    have hφ := hP.1 s hs'
    rw [pu_lt hs', up_ne h10 q, up_ne h11 q, up_ne c7 (by omega), up_ne c8 (by omega)]
    exact h.2 s hs'
theorem aYM (hA : AM m m' N b tm tm' w x y f) (hC : AC c c' D S nd dp tmc tmc' w' x' y') (h : YM c m D nd) : YM c' m' D nd := by
  obtain ⟨-, -, -, -, -, -, -, -, -, -, -, -, -, -, -, -, -, -, h20, -, -, h23, -⟩ := id hA
  obtain ⟨-, -, -, -, -, -, -, -, -, -, -, -, -, -, c13, c39, -⟩ := id hC
  unfold YM
  rw [h23, h20, c13, c39]
  exact h
theorem aYH (hA : AM m m' N b tm tm' w x y f) (hC : AC c c' D S nd dp tmc tmc' w' x' y') (h : YH c m D nd) : YH c' m' D nd := by
  obtain ⟨-, -, -, -, -, -, -, -, -, -, -, -, -, -, -, -, -, -, -, h21, -⟩ := id hA
  obtain ⟨-, -, -, -, -, -, -, -, -, -, -, -, -, -, -, -, -, c13⟩ := id hC
  unfold YH
  rw [h21, c13]
  exact h
theorem aYQ (hA : AM m m' N b tm tm' w x y f) (hw4 : w = 4 → x = ck ∧ ck' = ck + 1 ∧ c' (D + 15) = va_up (c (D + 15)) ck y ∧ c' (D + 16) = va_up (c (D + 16)) ck (m 19 b)) (hw : w ≠ 4 → ck' = ck ∧ c' (D + 15) = c (D + 15) ∧ c' (D + 16) = c (D + 16)) (hYF : YF m N B nd ck) (h : YQ c m D ck) : YQ c' m' D ck' := by
  obtain ⟨-, -, h5, -, h7, -, -, -, -, -, -, -, -, -, -, -, -, h19, -⟩ := id hA
  obtain ⟨a1, a2⟩ := AM_24 hA
  intro k hk
  rw [h19]
  by_cases g : w = 4
  · obtain ⟨g1, g2, g3, g4⟩ := hw4 g
    by_cases q : k = ck
    · have e1 := a1 g
      rw [g1, Int.toNat_natCast, ← q] at e1
      rw [e1, Int.toNat_natCast, up_at h5, up_at h7, Int.toNat_natCast, q, up_at g3, up_at g4]
      exact ⟨rfl, rfl⟩
    · have hk' : k < ck := by omega
      obtain ⟨f1, f2, -⟩ := hYF.1 k hk'
      rw [up_ne g3 q, up_ne g4 q, a2 k (fun _ => by rw [g1]; omega), up_ne h5 (by omega), up_ne h7 (by omega)]
      exact h k hk'
  · obtain ⟨g1, g2, g3⟩ := hw g
    have hk' : k < ck := by omega
    obtain ⟨f1, f2, -⟩ := hYF.1 k hk'
    rw [g2, g3, a2 k (fun u => absurd u g), up_ne h5 (by omega), up_ne h7 (by omega)]
    exact h k hk'
theorem aYX (hA : AM m m' N b tm tm' w x y f) (hC : AC c c' D S nd dp tmc tmc' w' x' y') (hb : b < B) (hP : YP φ N S) (hYC : YC m N B) (hYK : YK c m D φ N) (hl : c 40 dp = lp φ (m 18 b)) (h : YX c m D e B S) : YX c' m' D e B (S + 1) := by
  have lr := SY_lr hP (SY_bf hYC hb) hl
  obtain ⟨-, -, -, -, -, -, -, -, -, -, -, -, -, -, -, h15, h16, h19, -⟩ := id hA
  obtain ⟨a1, a2, a3⟩ := AC_4 hC (by omega)
  obtain ⟨c1, c2, -, -, -, -, -, -, -, -, c42, -⟩ := id hC
  intro q hq
  rw [h15, h16, h19]
  rcases h q hq with g | ⟨g1, g2, g3, g4, g5⟩
  · exact Or.inl g
  · right
    rw [up_ne c1 (by omega), up_ne c2 (by omega), up_ne c42 (by omega)]
    refine ⟨g1, by omega, g3, g4, ?_⟩
    rw [a3 _ (by omega)]
    · exact g5
    · rcases lr with ⟨l1, l2⟩ | ⟨l1, l2, l3, l4⟩
      · exact Or.inl l2
      · right
        rw [l3, Int.toNat_natCast]
        intro u
        have := hYK (m 18 b).toNat (by omega)
        unfold KR at this
        rw [u] at g3
        omega
theorem aYU (h : YU φ e N B S) : YU (pu φ N S) e (N + 1) B (S + 1) := by
  intro q hq
  by_cases g : q = S
  · left; exact ⟨N, by omega, by rw [pu_eq, g]⟩
  · rcases h q (by omega) with ⟨s, hs, r⟩ | r
    · left; exact ⟨s, by omega, by rw [pu_lt hs]; exact r⟩
    · exact Or.inr r
end SADD2
