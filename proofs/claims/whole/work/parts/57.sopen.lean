/-! ===== pure layer: a statement is added (all), a block is opened, a test's block is left ===== -/
section SOPEN
variable {c c' m m' : St} {D N S B nd ck ts tm dp b ck' ts' : Nat} {φ : Nat → Nat} {e : Nat → Int} {w x y f w' x' y' : Int}
theorem SY_cur (hd : 0 < dp) (hcur : m 25 (dp - 1) = b) (h : SY c m D φ e N S B nd ck ts tm dp) : b < B ∧ e b = -1 ∧ m 19 b + 1 = nd := by
  obtain ⟨-, -, -, -, -, -, -, hS, -⟩ := h
  have := hS.2.1 (dp - 1) (by omega)
  rw [hcur, Int.toNat_natCast] at this
  exact ⟨by omega, this.2.2.1, this.2.2.2⟩
theorem SY_add (hA : AM m m' N b tm tm w x y f) (hC : AC c c' D S nd dp tm tm w' x' y') (hd : 0 < dp) (hcur : m 25 (dp - 1) = b)
    (hK : KR w x y f (m 19 b) w' x' y') (hw3 : w = 3 → (ts : Int) ≤ x ∧ x < ts' ∧ f = -1) (hw4 : w = 4 → x = ck ∧ ck' = ck + 1 ∧ f = -1 ∧ c' (D + 15) = va_up (c (D + 15)) ck y ∧ c' (D + 16) = va_up (c (D + 16)) ck (m 19 b)) (hw : w ≠ 4 → ck' = ck ∧ c' (D + 15) = c (D + 15) ∧ c' (D + 16) = c (D + 16)) (hts : ts ≤ ts') (hg : w = 5 → c' 43 S = y) (hg2 : ∀ q, q < S → c' 43 q = c 43 q)
    (h : SY c m D φ e N S B nd ck ts tm dp) : SY c' m' D (pu φ N S) e (N + 1) (S + 1) B nd ck' ts' tm dp := by
  obtain ⟨hb, he, -⟩ := SY_cur hd hcur h
  obtain ⟨hP, hYA, hYB, hYC, hYD, hYE, hYF, hYS, hYN, hYV, hYO, hYL, hYK, hYG, hYT, hYM, hYH, hYQ, hYX, hYU, hYZ⟩ := h
  have hO := SY_own hd hcur hb hYD hYF hYS hYL hYK
  have hl := SY_lat hd hcur hYL
  have hlr := SY_lr hP (SY_bf hYC hb) hl
  have hck : ck ≤ ck' := by
    by_cases g : w = 4
    · have := (hw4 g).2.1; omega
    · have := (hw g).1; omega
  refine ⟨aYP hP, aYA hA hb hYA, aYB hA hb hYA hYC hYB, aYC hA hb hYA hYC, aYD hA hb (fun g => (hw4 g).1) hck hYF hYD, aYE hA (fun g => ⟨by have := (hw3 g).1; omega, (hw3 g).2⟩) (fun g => ⟨(hw4 g).1, by have := (hw4 g).2.1; omega, (hw4 g).2.2.1⟩) hck hts hYE, aYF hA (fun g => ⟨(hw4 g).1, (hw4 g).2.1⟩) (fun g => (hw g).1) hYF, aYS hA hd hcur (fun g => (hw4 g).1) hYF hYA hYB hYC hYE (fun g => (hw3 g).1) hYD hYS, aYN hA hC hb he ?_ hP hYA hYB hYC hYE hl hO hYN, aYV hA hC hb hd hcur hP hYC hYF hYS hl hO hYV, aYO hA hC hP hYD hYA hO hYO, aYL hA hC hd hcur hYC hYD hYS hYL, aYK hA hC hP hK hYK, aYG hA hP hg hg2 hYG, aYT hA hC hP rfl hYT, aYM hA hC hYM, aYH hA hC hYH, aYQ hA (fun g => ⟨(hw4 g).1, (hw4 g).2.1, (hw4 g).2.2.2⟩) hw hYF hYQ, aYX hA hC hb hP hYC hYK hl hYX, aYU hYU, aYZ hC hd (by omega) (SY_ost hP hYC hYD hYF hYS hYN hYO hYL) hYZ⟩
  rintro (g | g)
  · exact (hw3 g).2.2
  · exact (hw4 g).2.2.1
/-- the reference opens a block: of a test (2) or of a choice (1), as first (8) or second (9) -/
def OM (m m' : St) (s B b dp : Nat) (z k o : Int) : Prop :=
  m' 8 = (if z = 0 then va_up (m 8) s B else m 8) ∧ m' 9 = (if z = 0 then m 9 else va_up (m 9) s B) ∧ m' 15 = va_up (m 15) B k ∧ m' 16 = va_up (m 16) B o ∧ m' 17 = va_up (m 17) B (-1) ∧ m' 18 = va_up (m 18) B (-1) ∧ m' 19 = va_up (m 19) B (m 19 b) ∧ m' 25 = va_up (m 25) dp B ∧ (∀ q, q = 3 ∨ q = 4 ∨ q = 5 ∨ q = 6 ∨ q = 7 ∨ q = 10 ∨ q = 11 ∨ q = 12 ∨ q = 13 ∨ q = 14 ∨ q = 20 ∨ q = 21 ∨ q = 22 ∨ q = 23 ∨ q = 24 → m' q = m q)
/-- the class opens a block -/
def OC (c c' : St) (D dp : Nat) (z : Int) : Prop := c' 40 = va_up (c 40) (dp + 1) (-1) ∧ c' 41 = va_up (c 41) (dp + 1) z ∧ (∀ q, q = D + 1 ∨ q = D + 2 ∨ q = D + 3 ∨ q = D + 4 ∨ q = D + 5 ∨ q = D + 6 ∨ q = D + 7 ∨ q = D + 8 ∨ q = D + 10 ∨ q = D + 11 ∨ q = D + 12 ∨ q = D + 13 ∨ q = D + 14 ∨ q = D + 15 ∨ q = D + 16 ∨ q = 39 ∨ q = 42 ∨ q = 43 → c' q = c q) ∧ c' D 13 = c D 13
def eu (e : Nat → Int) (B : Nat) (v : Int) : Nat → Int := fun q => if q = B then v else e q
theorem eu_eq {v : Int} : eu e B v B = v := by unfold eu; rw [if_pos rfl]
theorem eu_ne {v : Int} {q : Nat} (h : q ≠ B) : eu e B v q = e q := by unfold eu; rw [if_neg h]
theorem lk_eu {u v q : Int} (h : u ≠ -1 ∨ q.toNat ≠ B) : lk φ (eu e B v) u q = lk φ e u q := by
  unfold lk
  by_cases g : u = -1
  · rw [if_pos g, if_pos g, eu_ne (by omega)]
  · rw [if_neg g, if_neg g]
/-- which block of which statement -/
def OKd (m : St) (s : Nat) (z k o : Int) : Prop := (k = 2 ∧ m 3 s = 3 ∧ o = s ∧ z = 0 ∧ m 8 s = -1) ∨ (k = 2 ∧ m 3 s = 3 ∧ o = s ∧ z = 1 ∧ m 8 s ≠ -1 ∧ m 9 s = -1) ∨ (k = 1 ∧ m 3 s = 4 ∧ o = m 4 s ∧ z = 0 ∧ m 8 s = -1)
def R89 (m m' : St) (s B : Nat) (z : Int) : Prop := (∀ t, (t ≠ s ∨ z = 1) → m' 8 t = m 8 t) ∧ (z = 0 → m' 8 s = B) ∧ (∀ t, (t ≠ s ∨ z = 0) → m' 9 t = m 9 t) ∧ (z = 1 → m' 9 s = B)
theorem ok_8 {s : Nat} {z k o : Int} (h : OKd m s z k o) : (z = 0 ∧ m 8 s = -1) ∨ (z = 1 ∧ m 8 s ≠ -1 ∧ m 9 s = -1) := by unfold OKd at h; omega
theorem ok_t {s : Nat} {z k o : Int} (h : OKd m s z k o) (h3 : m 3 s = 3) : k = 2 ∧ o = s := by unfold OKd at h; omega
theorem ok_c {s : Nat} {z k o : Int} (h : OKd m s z k o) (h3 : m 3 s = 4) : k = 1 ∧ o = m 4 s ∧ z = 0 := by unfold OKd at h; omega
theorem OM_89 {s : Nat} {z k o : Int} (hA : OM m m' s B b dp z k o) : R89 m m' s B z := by
  obtain ⟨h8, h9, -⟩ := hA
  refine ⟨fun t ht => ?_, fun g => ?_, fun t ht => ?_, fun g => ?_⟩
  · rw [h8]
    by_cases g : z = 0
    · rw [if_pos g]; exact vu_ne _ _ (by omega)
    · rw [if_neg g]
  · rw [h8, if_pos g]; exact vu_eq _ _ _
  · rw [h9]
    by_cases g : z = 0
    · rw [if_pos g]
    · rw [if_neg g]; exact vu_ne _ _ (by omega)
  · rw [h9, if_neg (by omega)]; exact vu_eq _ _ _
theorem oYD {s : Nat} {z k o : Int} (hA : OM m m' s B b dp z k o) (hsN : s < N) (hbn : m 19 b + 1 = nd) (hbn0 : 0 ≤ m 19 b) (hk : OKd m s z k o) (hYA : YA m N B) (hYE : YE m N B ck ts) (hYF : YF m N B nd ck) (hYD : YD m N B nd ck) : YD m' N (B + 1) nd ck := by
  obtain ⟨e8, e8s, e9, e9s⟩ := OM_89 hA
  obtain ⟨-, -, h15, h16, h17, h18, h19, h25, hr⟩ := hA
  have r3 := hr 3 (by omega)
  have r7 := hr 7 (by omega)
  have r24 := hr 24 (by omega)
  have hEs := hYE s hsN
  have hz := ok_8 hk
  refine ⟨fun q hq => ?_, fun t ht hk2 => ?_⟩
  · by_cases g : q = B
    · rw [g, up_at h19, up_at h15, up_at h16]
      refine ⟨by omega, by omega, ?_⟩
      rcases hk with ⟨k1, k2, k3, k4, k5⟩ | ⟨k1, k2, k3, k4, k5, k6⟩ | ⟨k1, k2, k3, k4, k5⟩
      · right; right
        rw [k3, Int.toNat_natCast, r3, e8s k4]
        exact ⟨k1, by omega, by omega, k2, Or.inl rfl⟩
      · right; right
        rw [k3, Int.toNat_natCast, r3, e9s k4]
        exact ⟨k1, by omega, by omega, k2, Or.inr rfl⟩
      · right; left
        obtain ⟨u1, u2, u3, -⟩ := hEs.2 k2
        rw [k3, r24, u3, Int.toNat_natCast, e8s k4]
        exact ⟨k1, u1, u2, rfl⟩
    · rw [up_ne h19 g, up_ne h15 g, up_ne h16 g, r3, r24]
      obtain ⟨g1, g2, g3⟩ := hYD.1 q (by omega)
      refine ⟨g1, g2, ?_⟩
      rcases g3 with u | ⟨u1, u2, u3, u4⟩ | ⟨u1, u2, u3, u4, u5⟩
      · exact Or.inl u
      · right; left
        refine ⟨u1, u2, u3, ?_⟩
        have hF := hYF.1 (m 16 q).toNat (by omega)
        rw [e8 _ ?_]
        · exact u4
        · by_cases g5 : (m 24 (m 16 q).toNat).toNat = s
          · right
            rw [g5] at hF u4
            omega
          · exact Or.inl g5
      · right; right
        refine ⟨u1, u2, u3, u4, ?_⟩
        by_cases g5 : (m 16 q).toNat = s
        · rw [g5] at u4 u5 ⊢
          have := (hEs.1 u4).2.2.2
          rcases u5 with u5 | u5
          · left
            rw [e8 s (Or.inr (by omega))]; exact u5
          · right
            rw [e9 s (Or.inr (by omega))]; exact u5
        · rw [e8 _ (Or.inl g5), e9 _ (Or.inl g5)]; exact u5
  · rw [r7] at hk2 ⊢
    have := hYA t ht
    rw [up_ne h15 (by omega)] at hk2
    rw [up_ne h16 (by omega)]
    exact hYD.2 t ht hk2
theorem oYE {s : Nat} {z k o : Int} (hA : OM m m' s B b dp z k o) (hsN : s < N) (hk : OKd m s z k o) (hYE : YE m N B ck ts) : YE m' N (B + 1) ck ts := by
  obtain ⟨e8, e8s, e9, e9s⟩ := OM_89 hA
  obtain ⟨-, -, h15, h16, h17, h18, h19, h25, hr⟩ := hA
  have r3 := hr 3 (by omega)
  have r4 := hr 4 (by omega)
  have r24 := hr 24 (by omega)
  have hz := ok_8 hk
  intro t ht
  rw [r3, r4, r24]
  obtain ⟨g1, g2⟩ := hYE t ht
  refine ⟨fun g => ?_, fun g => ?_⟩
  · obtain ⟨u1, u2, u3, u4⟩ := g1 g
    refine ⟨u1, u2, ?_, ?_⟩
    · by_cases q : t = s ∧ z = 0
      · right
        rw [q.1] at g
        obtain ⟨w1, w2⟩ := ok_t hk g
        rw [q.1, e8s q.2, Int.toNat_natCast, up_at h15, up_at h16]
        exact ⟨by omega, by omega, w1, w2⟩
      · rw [e8 t (by omega)]
        rcases u3 with u3 | ⟨v1, v2, v3, v4⟩
        · exact Or.inl u3
        · right
          rw [up_ne h15 (by omega), up_ne h16 (by omega)]
          exact ⟨v1, by omega, v3, v4⟩
    · by_cases q : t = s ∧ z = 1
      · right
        rw [q.1] at g u3
        obtain ⟨w1, w2⟩ := ok_t hk g
        rw [q.1, e9s q.2, Int.toNat_natCast, up_at h15, up_at h16, e8 s (Or.inr q.2)]
        refine ⟨by omega, by omega, w1, w2, by omega, by omega⟩
      · rw [e9 t (by omega)]
        rcases u4 with u4 | ⟨v1, v2, v3, v4, v5, v6⟩
        · exact Or.inl u4
        · right
          have e8t : m' 8 t = m 8 t := by
            refine e8 t ?_
            by_cases q2 : t = s
            · right; rw [q2] at v5; omega
            · exact Or.inl q2
          rw [up_ne h15 (by omega), up_ne h16 (by omega), e8t]
          exact ⟨v1, by omega, v3, v4, v5, v6⟩
  · obtain ⟨u1, u2, u3, u4⟩ := g2 g
    refine ⟨u1, u2, u3, ?_⟩
    by_cases q : t = s
    · right
      rw [q] at g ⊢
      obtain ⟨w1, w2, w3⟩ := ok_c hk g
      rw [e8s w3, Int.toNat_natCast, up_at h15, up_at h16]
      exact ⟨by omega, by omega, w1, w2⟩
    · rw [e8 t (Or.inl q)]
      rcases u4 with u4 | ⟨v1, v2, v3, v4⟩
      · exact Or.inl u4
      · right
        rw [up_ne h15 (by omega), up_ne h16 (by omega)]
        exact ⟨v1, by omega, v3, v4⟩
theorem oYW {s : Nat} {z k o : Int} (hA : OM m m' s B b dp z k o) (hd : 0 < dp) (hd2 : dp < 6) (hcur : m 25 (dp - 1) = b) (hs : m 18 b = s) (hsN : s < N) (hk : OKd m s z k o) (hYF : YF m N B nd ck) (hYA : YA m N B) (hYC : YC m N B) (hYD : YD m N B nd ck) (hYE : YE m N B ck ts) (hYS : YS m e N B nd dp) : YW m' N (B + 1) (dp + 1) := by
  obtain ⟨e8, e8s, e9, e9s⟩ := OM_89 hA
  obtain ⟨-, -, h15, h16, h17, h18, h19, h25, hr⟩ := hA
  obtain ⟨s0, s1, s2, s3, s4, s5, δ, h, w1, w2, w3, w4, w5⟩ := hYS
  have r6 := hr 6 (by omega)
  have r7 := hr 7 (by omega)
  have hbB : b < B := by have := (s1 (dp - 1) (by omega)).2.1; omega
  have w1b := w1 (dp - 1) (by omega)
  rw [hcur, Int.toNat_natCast] at w1b
  have hsb : m 7 s = b ∧ m 6 s = -1 := by
    rcases hYC b hbB with ⟨-, v⟩ | ⟨-, -, -, -, -, v1, v2⟩
    · omega
    · rw [hs, Int.toNat_natCast] at v1 v2; exact ⟨v1, v2⟩
  have own : ∀ q : Nat, m 15 q = 2 → q < B → 0 ≤ m 16 q ∧ m 16 q < N ∧ m 3 (m 16 q).toNat = 3 := by
    intro q hq hqB
    rcases (hYD.1 q hqB).2.2 with ⟨u, -⟩ | ⟨u, -⟩ | ⟨-, u1, u2, u3, -⟩
    · omega
    · omega
    · exact ⟨u1, u2, u3⟩
  have ne : ∀ q : Nat, q ≠ B → (fun q => if q = B then dp + 1 else δ q) q = δ q ∧ (fun q => if q = B then N else h q) q = h q := fun q hq => ⟨if_neg hq, if_neg hq⟩
  have eqB : (fun q => if q = B then dp + 1 else δ q) B = dp + 1 ∧ (fun q => if q = B then N else h q) B = N := ⟨if_pos rfl, if_pos rfl⟩
  refine ⟨fun q => if q = B then dp + 1 else δ q, fun q => if q = B then N else h q, fun d hdd => ?_, fun q hq => ?_, fun t ht => ?_, fun t ht k1 k2 => ?_, ?_⟩
  · by_cases g : d = dp
    · rw [g, up_at h25, Int.toNat_natCast]
      exact ⟨if_pos rfl, if_pos rfl⟩
    · rw [up_ne h25 g]
      have x1 := s1 d (by omega)
      rw [(ne _ (by omega)).1, (ne _ (by omega)).2]
      exact w1 d (by omega)
  · by_cases g : q = B
    · rw [g, up_at h15, up_at h16, r6, r7]
      refine ⟨by rw [eqB.1]; omega, by rw [eqB.1]; omega, by rw [eqB.2]; exact Nat.le_refl _, fun g2 => ?_, fun g2 => ?_, fun g2 => ?_⟩
      rotate_left
      · have ho : o = s := by unfold OKd at hk; omega
        rw [ho, Int.toNat_natCast, hsb.1, Int.toNat_natCast, up_at h19, up_ne h19 (by omega)]
      · have ho : o = m 4 s ∧ m 3 s = 4 := by unfold OKd at hk; omega
        have o2 := ((hYE s hsN).2 ho.2).2.2.1
        rw [ho.1, hr 24 (by omega), o2, Int.toNat_natCast, hsb.1, Int.toNat_natCast, up_at h19, up_ne h19 (by omega)]
      have ho : o = s := by unfold OKd at hk; omega
      rw [ho, Int.toNat_natCast, hsb.1, Int.toNat_natCast, eqB.1, eqB.2, (ne b (by omega)).1, (ne b (by omega)).2]
      exact ⟨by omega, by omega, fun u => absurd hsb.2 u⟩
    · rw [up_ne h15 g, up_ne h16 g, r6, r7, (ne q g).1, (ne q g).2]
      obtain ⟨q1, q2, q3, q4, q5, q6⟩ := w2 q (by omega)
      refine ⟨q1, q2, q3, fun g2 => ?_, fun g2 => ?_, fun g2 => ?_⟩
      rotate_left
      · have o1 := own q g2 (by omega)
        have a7 := hYA (m 16 q).toNat (by omega)
        rw [up_ne h19 g, up_ne h19 (by omega)]; exact q5 g2
      · have o1 : 0 ≤ m 16 q ∧ m 16 q < ck := by
          rcases (hYD.1 q (by omega)).2.2 with ⟨u, -⟩ | ⟨-, u1, u2, -⟩ | ⟨u, -⟩
          · omega
          · exact ⟨u1, u2⟩
          · omega
        have o2 := hYF.1 (m 16 q).toNat (by omega)
        have a7 := hYA (m 24 (m 16 q).toNat).toNat (by omega)
        rw [hr 24 (by omega), up_ne h19 g, up_ne h19 (by omega)]; exact q6 g2
      have o1 := own q g2 (by omega)
      have a7 := hYA (m 16 q).toNat (by omega)
      rw [(ne (m 7 (m 16 q).toNat).toNat (by omega)).1, (ne (m 7 (m 16 q).toNat).toNat (by omega)).2]
      exact q4 g2
  · rw [r7]
    have a7 := hYA t ht
    rw [(ne _ (by omega)).2]; exact w3 t ht
  · rw [r7] at k1 k2 ⊢
    have a7 := hYA t ht
    rw [up_ne h15 (by omega)] at k1
    rw [up_ne h16 (by omega)] at k2 ⊢
    have o1 := own (m 7 t).toNat k1 (by omega)
    obtain ⟨-, -, y1, y2⟩ := (hYE (m 16 (m 7 t).toNat).toNat (by omega)).1 o1.2.2
    have hk9 : m 9 (m 16 (m 7 t).toNat).toNat = m 7 t := by
      by_cases g : (m 16 (m 7 t).toNat).toNat = s ∧ z = 1
      · rw [g.1, e9s g.2] at k2; omega
      · rw [e9 _ (by unfold OKd at hk; omega)] at k2; exact k2
    have y3 : m 8 (m 16 (m 7 t).toNat).toNat ≠ -1 := by
      rcases y2 with v | ⟨-, -, -, -, v1, v2⟩
      · omega
      · exact v1
    have e8' : m' 8 (m 16 (m 7 t).toNat).toNat = m 8 (m 16 (m 7 t).toNat).toNat := by
      by_cases g : (m 16 (m 7 t).toNat).toNat = s ∧ z = 0
      · exfalso
        rw [g.1] at y3
        unfold OKd at hk; omega
      · exact e8 _ (by unfold OKd at hk; omega)
    rw [e8', (ne _ (by omega)).2]
    exact w4 t ht k1 hk9
  · rw [hr 3 (by omega), hr 4 (by omega)]; exact w5
theorem oYS {s : Nat} {z k o : Int} (hA : OM m m' s B b dp z k o) (hd : 0 < dp) (hd2 : dp < 6) (hcur : m 25 (dp - 1) = b) (hs : m 18 b = s) (hsN : s < N) (hbn : m 19 b + 1 = nd) (hk : OKd m s z k o) (hYF : YF m N B nd ck) (hYA : YA m N B) (hYC : YC m N B) (hYD : YD m N B nd ck) (hYE : YE m N B ck ts) (hYS : YS m e N B nd dp) : YS m' (eu e B (-1)) N (B + 1) nd (dp + 1) := by
  have hW := oYW hA hd hd2 hcur hs hsN hk hYF hYA hYC hYD hYE hYS
  obtain ⟨-, -, h15, h16, h17, h18, h19, h25, hr⟩ := hA
  obtain ⟨s0, s1, s2, s3, s4, s5, s6⟩ := hYS
  have r22 := hr 22 (by omega)
  have r24 := hr 24 (by omega)
  refine ⟨by omega, fun d hdd => ?_, fun d d' hdd hd' => ?_, fun _ => ?_, fun d hdd => ?_, fun q hq => ?_, hW⟩
  · by_cases g : d = dp
    · rw [g, up_at h25, Int.toNat_natCast, eu_eq, up_at h19]
      exact ⟨by omega, by omega, rfl, hbn⟩
    · obtain ⟨q1, q2, q3, q4⟩ := s1 d (by omega)
      rw [up_ne h25 g, eu_ne (by omega), up_ne h19 (by omega)]
      exact ⟨q1, by omega, q3, q4⟩
  · have q1 := s1 d (by omega)
    by_cases g : d' = dp
    · rw [g, up_at h25, up_ne h25 (by omega)]; omega
    · rw [up_ne h25 g, up_ne h25 (by omega)]; exact s2 d d' hdd (by omega)
  · have q1 := s1 0 hd
    rw [up_ne h25 (by omega), up_ne h15 (by omega), r22]
    exact s3 hd
  · have q1 := s1 d (by omega)
    rw [r24, up_ne h25 (show d ≠ dp by omega), up_ne h18 (by omega)]
    by_cases g : d + 1 = dp
    · rw [g, up_at h25, Int.toNat_natCast, up_at h15, up_at h16, show d = dp - 1 by omega, hcur, Int.toNat_natCast, hs]
      rcases hk with ⟨k1, k2, k3, k4, k5⟩ | ⟨k1, k2, k3, k4, k5, k6⟩ | ⟨k1, k2, k3, k4, k5⟩
      · exact Or.inl ⟨k1, k3⟩
      · exact Or.inl ⟨k1, k3⟩
      · right
        obtain ⟨u1, u2, u3, -⟩ := (hYE s hsN).2 k2
        rw [k3]
        exact ⟨k1, u3⟩
    · have q2 := s1 (d + 1) (by omega)
      rw [up_ne h25 g, up_ne h15 (by omega), up_ne h16 (by omega)]
      exact s4 d (by omega)
  · by_cases g : q = B
    · rw [g, eu_eq, up_at h15]
      exact ⟨fun _ => rfl, fun _ => Or.inr ⟨dp, by omega, up_at h25⟩⟩
    · rw [eu_ne g, up_ne h15 g]
      obtain ⟨t1, t2⟩ := s5 q (by omega)
      refine ⟨t1, fun t3 => ?_⟩
      rcases t2 t3 with t | ⟨d, t4, t5⟩
      · exact Or.inl t
      · exact Or.inr ⟨d, by omega, by rw [up_ne h25 (by omega)]; exact t5⟩
theorem oYN {s : Nat} {z k o : Int} (hA : OM m m' s B b dp z k o) (hC : OC c c' D dp z) (hsN : s < N) (hk : OKd m s z k o) (hYA : YA m N B) (hYE : YE m N B ck ts) (hYN : YN c m D φ e N) : YN c' m' D φ (eu e B (-1)) N := by
  obtain ⟨e8, e8s, e9, e9s⟩ := OM_89 hA
  obtain ⟨-, -, h15, h16, h17, h18, h19, h25, hr⟩ := hA
  obtain ⟨c40, c41, cr, c13⟩ := hC
  have r3 := hr 3 (by omega)
  have r6 := hr 6 (by omega)
  have r7 := hr 7 (by omega)
  have hz := ok_8 hk
  intro t ht
  rw [cr (D + 4) (by omega), cr (D + 5) (by omega), cr (D + 6) (by omega), r6, r7, r3]
  obtain ⟨y1, y2, y3⟩ := hYN t ht
  have a7 := hYA t ht
  have hEt := hYE t ht
  refine ⟨?_, fun g => ?_, fun g => ?_⟩
  · rw [lk_eu (Or.inr (by omega))]; exact y1
  · have y2 := y2 g
    by_cases q : t = s ∧ z = 0
    · have : m 8 t = -1 := by rw [q.1]; omega
      rw [if_pos this] at y2
      rw [q.1, e8s q.2, if_neg (by omega), Int.toNat_natCast, up_at h17, lk_n, Int.toNat_natCast, eu_eq]
      rw [q.1] at y2; exact y2
    · rw [e8 t (by omega)]
      by_cases g3 : m 8 t = -1
      · rw [if_pos g3] at y2 ⊢; exact y2
      · rw [if_neg g3] at y2 ⊢
        have : 0 ≤ m 8 t ∧ m 8 t < B := by
          rcases g with g | g
          · have := (hEt.1 g).2.2.1; omega
          · have := (hEt.2 g).2.2.2; omega
        rw [up_ne h17 (by omega), lk_eu (Or.inr (by omega))]; exact y2
  · have y3 := y3 g
    by_cases q : t = s ∧ z = 1
    · have : m 9 t = -1 := by rw [q.1]; omega
      rw [if_pos this] at y3
      rw [q.1, e9s q.2, if_neg (by omega), Int.toNat_natCast, up_at h17, lk_n, Int.toNat_natCast, eu_eq]
      rw [q.1] at y3; exact y3
    · rw [e9 t (by omega)]
      by_cases g3 : m 9 t = -1
      · rw [if_pos g3] at y3 ⊢; exact y3
      · rw [if_neg g3] at y3 ⊢
        have := (hEt.1 g).2.2.2
        rw [up_ne h17 (by omega), lk_eu (Or.inr (by omega))]; exact y3
theorem oYL {s : Nat} {z k o : Int} (hA : OM m m' s B b dp z k o) (hC : OC c c' D dp z) (hsN : s < N) (hk : OKd m s z k o) (hYD : YD m N B nd ck) (hYE : YE m N B ck ts) (hYS : YS m e N B nd dp) (hYL : YL c m φ dp) : YL c' m' φ (dp + 1) := by
  obtain ⟨e8, e8s, e9, e9s⟩ := OM_89 hA
  obtain ⟨-, -, h15, h16, h17, h18, h19, h25, hr⟩ := hA
  obtain ⟨c40, c41, cr, c13⟩ := hC
  obtain ⟨l1, l2, l3⟩ := hYL
  obtain ⟨s0, s1, s2, s3, s4, s5, s6⟩ := hYS
  have hz := ok_8 hk
  have hEs := hYE s hsN
  refine ⟨fun d hdd => ?_, fun j hj => ?_, fun d hdd => ?_⟩
  · by_cases g : d = dp
    · rw [g, up_at c40, up_at h25, Int.toNat_natCast, up_at h18, lp_n]
    · have q1 := s1 d (by omega)
      rw [up_ne c40 (by omega), up_ne h25 g, up_ne h18 (by omega)]
      exact l1 d (by omega)
  · by_cases g : j + 1 = dp
    · rw [show j + 2 = dp + 1 by omega, up_at c41]; omega
    · rw [up_ne c41 (by omega)]; exact l2 j (by omega)
  · by_cases g : d + 1 = dp
    · rw [show d + 2 = dp + 1 by omega, up_at c41, g, up_at h25, Int.toNat_natCast, up_at h15, up_at h16]
      rcases hk with ⟨k1, k2, k3, k4, k5⟩ | ⟨k1, k2, k3, k4, k5, k6⟩ | ⟨k1, k2, k3, k4, k5⟩
      · rw [k3, Int.toNat_natCast, e8s k4, k4]
        constructor
        · intro u; exact absurd rfl u
        · rintro ⟨-, u⟩; exact absurd rfl u
      · rw [k3, Int.toNat_natCast, e8 s (Or.inr k4), k4]
        have := (hEs.1 k2).2.2.1
        exact ⟨fun _ => ⟨k1, by omega⟩, fun _ => by decide⟩
      · rw [k4, k1]
        constructor
        · intro u; exact absurd rfl u
        · rintro ⟨u, -⟩; exact absurd u (by decide)
    · have q1 := s1 (d + 1) (by omega)
      rw [up_ne c41 (by omega), up_ne h25 g, up_ne h15 (by omega), up_ne h16 (by omega), l3 d (by omega)]
      have hDd := (hYD.1 (m 25 (d + 1)).toNat (by omega)).2.2
      have key : m 15 (m 25 (d + 1)).toNat = 2 → m' 8 (m 16 (m 25 (d + 1)).toNat).toNat = m 8 (m 16 (m 25 (d + 1)).toNat).toNat := by
        intro u
        refine e8 _ ?_
        by_cases v : (m 16 (m 25 (d + 1)).toNat).toNat = s
        · right
          rcases hDd with r | r | ⟨r1, r2, r3, r4, r5⟩
          · omega
          · omega
          · rw [v] at r4 r5
            have := (hEs.1 r4).2.2.2
            omega
        · exact Or.inl v
      constructor
      · rintro ⟨u1, u2⟩
        exact ⟨u1, by rw [key u1]; exact u2⟩
      · rintro ⟨u1, u2⟩
        exact ⟨u1, by rw [key u1] at u2; exact u2⟩
theorem KR_f {k x y f f' v w x' y' : Int} (h34 : k = 3 ∨ k = 4) (h : KR k x y f v w x' y') : KR k x y f' v w x' y' := by
  rcases h with ⟨h, -⟩ | ⟨h, -⟩ | ⟨h, -⟩ | h | h | ⟨h, -⟩ | ⟨h, -⟩ | ⟨h, -⟩
  · omega
  · omega
  · omega
  · exact Or.inr (Or.inr (Or.inr (Or.inl h)))
  · exact Or.inr (Or.inr (Or.inr (Or.inr (Or.inl h))))
  · omega
  · omega
  · omega
theorem SY_open {s : Nat} {z k o : Int} (hA : OM m m' s B b dp z k o) (hC : OC c c' D dp z) (hd : 0 < dp) (hd2 : dp < 6) (hcur : m 25 (dp - 1) = b) (hs : m 18 b = s) (hk : OKd m s z k o)
    (h : SY c m D φ e N S B nd ck ts tm dp) : SY c' m' D φ (eu e B (-1)) N S (B + 1) nd ck ts tm (dp + 1) := by
  obtain ⟨hb, he, hbn⟩ := SY_cur hd hcur h
  obtain ⟨hP, hYA, hYB, hYC, hYD, hYE, hYF, hYS, hYN, hYV, hYO, hYL, hYK, hYG, hYT, hYM, hYH, hYQ, hYX, hYU, hYZ⟩ := h
  have hsN : s < N := by
    rcases SY_bf hYC hb with g | g <;> omega
  have hbn0 := (hYD.1 b hb).1
  refine ⟨hP, ?_, ?_, ?_, oYD hA hsN hbn hbn0 hk hYA hYE hYF hYD, oYE hA hsN hk hYE, ?_, oYS hA hd hd2 hcur hs hsN hbn hk hYF hYA hYC hYD hYE hYS, oYN hA hC hsN hk hYA hYE hYN, ?_, ?_, oYL hA hC hsN hk hYD hYE hYS hYL, ?_, ?_, ?_, ?_, ?_, ?_, ?_, ?_, ?_⟩
  all_goals obtain ⟨e8, -⟩ := OM_89 hA
  all_goals obtain ⟨-, -, h15, h16, h17, h18, h19, h25, hr⟩ := hA
  all_goals obtain ⟨c40, c41, cr, c13⟩ := hC
  all_goals clear hYS hYL hYN
  · intro t ht
    rw [hr 7 (by omega)]; have := hYA t ht; omega
  · intro t ht
    have := hYA t ht
    rw [hr 6 (by omega), hr 7 (by omega), up_ne h18 (by omega)]
    exact hYB t ht
  · intro q hq
    by_cases g : q = B
    · left; rw [g]; exact ⟨up_at h17, up_at h18⟩
    · rw [up_ne h17 g, up_ne h18 g, hr 7 (by omega), hr 6 (by omega)]
      exact hYC q (by omega)
  · refine ⟨?_, fun v hv => ?_⟩
    · rw [hr 24 (by omega), hr 3 (by omega), hr 4 (by omega)]; exact hYF.1
    · rw [hr 22 (by omega)]
      obtain ⟨f1, f2, f3, f4⟩ := hYF.2 v hv
      rw [up_ne h15 (by omega), up_ne h19 (by omega)]
      exact ⟨f1, by omega, f3, f4⟩
  · intro v hv
    have f1 := hYF.2 v hv
    rw [cr (D + 14) (by omega), hr 22 (by omega), up_ne h17 (by omega), lk_eu (Or.inr (by omega))]
    exact hYV v hv
  · intro t ht
    have a7 := hYA t ht
    rw [cr 42 (by omega), hr 7 (by omega), up_ne h15 (by omega), up_ne h16 (by omega)]
    exact hYO t ht
  · intro t ht
    have a7 := hYA t ht
    rw [cr (D + 1) (by omega), cr (D + 2) (by omega), cr (D + 3) (by omega), hr 3 (by omega), hr 4 (by omega), hr 5 (by omega), hr 7 (by omega), up_ne h19 (by omega)]
    have := hYK t ht
    by_cases q : t = s
    · have h34 : m 3 s = 3 ∨ m 3 s = 4 := by unfold OKd at hk; omega
      rw [q] at this ⊢
      exact KR_f h34 this
    · rw [e8 t (Or.inl q)]; exact this
  · unfold YG; rw [cr 43 (by omega), hr 3 (by omega), hr 5 (by omega)]; exact hYG
  · unfold YT
    rw [cr (D + 10) (by omega), cr (D + 11) (by omega), cr (D + 12) (by omega), cr (D + 7) (by omega), cr (D + 8) (by omega), hr 10 (by omega), hr 11 (by omega), hr 12 (by omega), hr 13 (by omega), hr 14 (by omega)]
    exact hYT
  · unfold YM; rw [cr 39 (by omega), cr (D + 13) (by omega), hr 20 (by omega), hr 23 (by omega)]; exact hYM
  · unfold YH; rw [c13, hr 21 (by omega)]; exact hYH
  · intro k hk'
    have f1 := hYF.1 k hk'
    have a7 := hYA (m 24 k).toNat (by omega)
    rw [cr (D + 15) (by omega), cr (D + 16) (by omega), hr 5 (by omega), hr 7 (by omega), hr 24 (by omega), up_ne h19 (by omega)]
    exact hYQ k hk'
  · intro q hq
    by_cases g : q = B
    · left; rw [g, eu_eq]
    · rw [eu_ne g, up_ne h15 g, up_ne h16 g, up_ne h19 g, cr (D + 1) (by omega), cr (D + 2) (by omega), cr 42 (by omega), cr (D + 4) (by omega)]
      exact hYX q (by omega)
  · intro q hq
    rcases hYU q hq with r | ⟨r, r1, r2⟩
    · exact Or.inl r
    · exact Or.inr ⟨r, by omega, by rw [eu_ne (by omega)]; exact r2⟩
  · unfold YZ; rw [cr 42 (by omega), cr (D + 4) (by omega)]; exact hYZ
/-- a test's block is left -/
theorem SY_pop (hd : 0 < dp) (h2 : m 15 (m 25 (dp - 1)).toNat = 2) (h : SY c m D φ e N S B nd ck ts tm dp) : SY c m D φ e N S B nd ck ts tm (dp - 1) := by
  obtain ⟨hP, hYA, hYB, hYC, hYD, hYE, hYF, hYS, hYN, hYV, hYO, hYL, hYK, hYG, hYT, hYM, hYH, hYQ, hYX, hYU, hYZ⟩ := h
  obtain ⟨s0, s1, s2, s3, s4, s5, s6⟩ := hYS
  refine ⟨hP, hYA, hYB, hYC, hYD, hYE, hYF, ?_, hYN, hYV, hYO, ?_, hYK, hYG, hYT, hYM, hYH, hYQ, hYX, hYU, hYZ⟩
  · refine ⟨by omega, fun d hdd => s1 d (by omega), fun d d' a1 a2 => s2 d d' a1 (by omega), fun a => s3 hd, fun d hdd => s4 d (by omega), fun q hq => ⟨(s5 q hq).1, fun g => ?_⟩, YW_pop s6⟩
    rcases (s5 q hq).2 g with u | ⟨d, u1, u2⟩
    · exact Or.inl u
    · right
      refine ⟨d, ?_, u2⟩
      by_cases v : d = dp - 1
      · rw [v] at u2
        rw [u2, Int.toNat_natCast] at h2
        exact absurd h2 g
      · omega
  · exact ⟨fun d hdd => hYL.1 d (by omega), fun d hdd => hYL.2.1 d (by omega), fun d hdd => hYL.2.2 d (by omega)⟩
end SOPEN
