/-! ===== pure layer: a node begins; a term is added ===== -/
section SNODE
variable {c c' m m' : St} {D N S B nd ck ts tm dp b : Nat} {φ : Nat → Nat} {e : Nat → Int}
theorem nc_le {r : Nat → Int} : ∀ k, nc r k ≤ k := by
  intro k
  induction k with
  | zero => exact Nat.le_refl _
  | succ k ih =>
    show nc r k + (if r k = -1 then 0 else 1) ≤ k + 1
    by_cases g : r k = -1
    · rw [if_pos g]; omega
    · rw [if_neg g]; omega
theorem nc_lt {r : Nat → Int} {j : Nat} (hj : r j = -1) : ∀ k, j < k → nc r k < k := by
  intro k
  induction k with
  | zero => intro h; omega
  | succ k ih =>
    intro h
    show nc r k + (if r k = -1 then 0 else 1) < k + 1
    by_cases g : j = k
    · rw [← g, if_pos hj]; have := nc_le (r := r) j; omega
    · have := ih (by omega)
      by_cases g2 : r k = -1
      · rw [if_pos g2]; omega
      · rw [if_neg g2]; omega
theorem nc_same {r r' : Nat → Int} : ∀ k, (∀ j, j < k → r' j = r j) → nc r' k = nc r k := by
  intro k
  induction k with
  | zero => intro _; rfl
  | succ k ih =>
    intro h
    show nc r' k + (if r' k = -1 then 0 else 1) = nc r k + (if r k = -1 then 0 else 1)
    rw [ih (fun j hj => h j (by omega)), h k (by omega)]
theorem nc_up {r r' : Nat → Int} {j : Nat} {v : Int} (h : r' = va_up r j v) (hj : r j = -1) (hv : v ≠ -1) : ∀ k, j < k → nc r' k = nc r k + 1 := by
  intro k
  induction k with
  | zero => intro h; omega
  | succ k ih =>
    intro hk
    show nc r' k + (if r' k = -1 then 0 else 1) = nc r k + (if r k = -1 then 0 else 1) + 1
    by_cases g : j = k
    · rw [← g, up_at h, hj, if_neg hv, if_pos rfl, nc_same j (fun i hi => up_ne h (by omega))]
    · rw [ih (by omega), up_ne h (by omega)]; omega
/-- the reference begins a node -/
def NM (m m' : St) (B nd v : Nat) (hub : Int) : Prop :=
  m' 23 = va_up (m 23) v nd ∧ m' 20 = va_up (m 20) nd (65 + v) ∧ m' 21 = va_up (m 21) nd hub ∧ m' 22 = va_up (m 22) nd B ∧ m' 15 = va_up (m 15) B 0 ∧ m' 16 = va_up (m 16) B nd ∧ m' 17 = va_up (m 17) B (-1) ∧ m' 18 = va_up (m 18) B (-1) ∧ m' 19 = va_up (m 19) B nd ∧ m' 25 = va_up (m 25) 0 B ∧ (∀ q, (3 ≤ q ∧ q ≤ 14) ∨ q = 24 → m' q = m q)
/-- the class begins a node -/
def NC (c c' : St) (D nd v : Nat) (hub : Int) : Prop := c' 39 = va_up (c 39) v nd ∧ c' (D + 13) = va_up (c (D + 13)) nd (65 + v) ∧ c' 40 = va_up (c 40) 1 (-1) ∧ (∀ h : Nat, c D 13 = (h : Int) → c' D 13 = if hub = 0 then (h : Int) else ((h ||| 2 ^ nd : Nat) : Int)) ∧ (∀ q, q = D + 1 ∨ q = D + 2 ∨ q = D + 3 ∨ q = D + 4 ∨ q = D + 5 ∨ q = D + 6 ∨ q = D + 7 ∨ q = D + 8 ∨ q = D + 10 ∨ q = D + 11 ∨ q = D + 12 ∨ q = D + 14 ∨ q = D + 15 ∨ q = D + 16 ∨ q = 41 ∨ q = 42 ∨ q = 43 → c' q = c q)
theorem SY_node {v : Nat} {hub : Int} (hh : hub = 0 ∨ hub = 1) (hv : v < 12) (hfree : m 23 v = -1) (hA : NM m m' B nd v hub) (hC : NC c c' D nd v hub) (h : SY c m D φ e N S B nd ck ts tm 0) : nd < 12 ∧ SY c' m' D φ (eu e B (-1)) N S (B + 1) (nd + 1) ck ts tm 1 := by
  obtain ⟨hP, hYA, hYB, hYC, hYD, hYE, hYF, hYS, hYN, hYV, hYO, hYL, hYK, hYG, hYT, hYM, hYH, hYQ, hYX, hYU, hYZ⟩ := h
  obtain ⟨h23, h20, h21, h22, h15, h16, h17, h18, h19, h25, hr⟩ := hA
  obtain ⟨c39, c13, c40, ch, cr⟩ := hC
  obtain ⟨s0, s1, s2, s3, s4, s5, s6⟩ := hYS
  have r3 := hr 3 (by omega)
  have r4 := hr 4 (by omega)
  have r5 := hr 5 (by omega)
  have r6 := hr 6 (by omega)
  have r7 := hr 7 (by omega)
  have r8 := hr 8 (by omega)
  have r9 := hr 9 (by omega)
  have r10 := hr 10 (by omega)
  have r11 := hr 11 (by omega)
  have r12 := hr 12 (by omega)
  have r13 := hr 13 (by omega)
  have r14 := hr 14 (by omega)
  have r24 := hr 24 (by omega)
  have hnd : nd < 12 := by have := nc_lt hfree 12 hv; have := hYM.2.1; omega
  have hW : YW m' N (B + 1) 1 := by
    obtain ⟨δ, h, w1, w2, w3, w4, w5⟩ := s6
    have ne : ∀ q : Nat, q ≠ B → (fun q => if q = B then 1 else δ q) q = δ q ∧ (fun q => if q = B then N else h q) q = h q := fun q hq => ⟨if_neg hq, if_neg hq⟩
    have own : ∀ q : Nat, m 15 q = 2 → q < B → 0 ≤ m 16 q ∧ m 16 q < N ∧ m 3 (m 16 q).toNat = 3 := by
      intro q hq hqB
      rcases (hYD.1 q hqB).2.2 with ⟨u, -⟩ | ⟨u, -⟩ | ⟨-, u1, u2, u3, -⟩
      · omega
      · omega
      · exact ⟨u1, u2, u3⟩
    have eqB : (fun q => if q = B then 1 else δ q) B = 1 ∧ (fun q => if q = B then N else h q) B = N := ⟨if_pos rfl, if_pos rfl⟩
    refine ⟨fun q => if q = B then 1 else δ q, fun q => if q = B then N else h q, fun d hdd => ?_, fun q hq => ?_, fun t ht => ?_, fun t ht k1 k2 => ?_, ?_⟩
    · have : d = 0 := by omega
      rw [this, up_at h25, Int.toNat_natCast]
      exact ⟨if_pos rfl, if_pos rfl⟩
    · by_cases g : q = B
      · rw [g, up_at h15]
        exact ⟨by rw [eqB.1]; omega, by rw [eqB.1]; omega, by rw [eqB.2]; exact Nat.le_refl _, fun u => absurd u (by decide), fun u => absurd u (by decide), fun u => absurd u (by decide)⟩
      · rw [up_ne h15 g, up_ne h16 g, r6, r7, (ne q g).1, (ne q g).2]
        obtain ⟨q1, q2, q3, q4, q5, q6⟩ := w2 q (by omega)
        refine ⟨q1, q2, q3, fun g2 => ?_, fun g2 => ?_, fun g2 => ?_⟩
        rotate_left
        · have o1 := own q g2 (by omega)
          have a7 := hYA (m 16 q).toNat (by omega)
          rw [up_ne h19 g, up_ne h19 (by omega)]; exact q5 g2
        · have o1 : 0 ≤ m 16 q ∧ m 16 q < ck := by
            rcases (hYD.1 q (by omega)).2.2 with ⟨u, -⟩ | ⟨-, u1, u2, -⟩ | ⟨u, -⟩
            · omega
            · exact ⟨u1, u2⟩
            · omega
          have o2 := hYF.1 (m 16 q).toNat (by omega)
          have a7 := hYA (m 24 (m 16 q).toNat).toNat (by omega)
          rw [hr 24 (by omega), up_ne h19 g, up_ne h19 (by omega)]; exact q6 g2
        have o1 := own q g2 (by omega)
        have a7 := hYA (m 16 q).toNat (by omega)
        rw [(ne (m 7 (m 16 q).toNat).toNat (by omega)).1, (ne (m 7 (m 16 q).toNat).toNat (by omega)).2]
        exact q4 g2
    · rw [r7]
      have a7 := hYA t ht
      rw [(ne _ (by omega)).2]; exact w3 t ht
    · rw [r7] at k1 k2 ⊢
      have a7 := hYA t ht
      rw [up_ne h15 (by omega)] at k1
      rw [up_ne h16 (by omega), r9] at k2
      rw [up_ne h16 (by omega), r8]
      have o1 := own (m 7 t).toNat k1 (by omega)
      obtain ⟨-, -, y1, y2⟩ := (hYE (m 16 (m 7 t).toNat).toNat (by omega)).1 o1.2.2
      rw [(ne _ (by rcases y1 with v | ⟨v1, v2, -⟩; rcases y2 with v' | ⟨-, -, -, -, v1, -⟩; omega; omega; omega)).2]
      exact w4 t ht k1 k2
    · rw [r3, r4]; exact w5
  refine ⟨hnd, hP, ?_, ?_, ?_, ?_, ?_, ?_, ?_, ?_, ?_, ?_, ?_, ?_, ?_, ?_, ?_, ?_, ?_, ?_, ?_, ?_⟩
  · intro t ht; rw [r7]; have := hYA t ht; omega
  · intro t ht
    have := hYA t ht
    rw [r6, r7, up_ne h18 (by omega)]; exact hYB t ht
  · intro q hq
    by_cases g : q = B
    · left; rw [g]; exact ⟨up_at h17, up_at h18⟩
    · rw [up_ne h17 g, up_ne h18 g, r7, r6]; exact hYC q (by omega)
  · refine ⟨fun q hq => ?_, fun t ht hk2 => ?_⟩
    · by_cases g : q = B
      · rw [g, up_at h19, up_at h15, up_at h16]
        exact ⟨by omega, by omega, Or.inl ⟨rfl, rfl⟩⟩
      · rw [up_ne h19 g, up_ne h15 g, up_ne h16 g, r3, r8, r9, r24]
        obtain ⟨g1, g2, g3⟩ := hYD.1 q (by omega)
        exact ⟨g1, by omega, g3⟩
    · rw [r7] at hk2 ⊢
      have := hYA t ht
      rw [up_ne h15 (by omega)] at hk2
      rw [up_ne h16 (by omega)]
      exact hYD.2 t ht hk2
  · intro t ht
    rw [r3, r4, r8, r9, r24]
    obtain ⟨g1, g2⟩ := hYE t ht
    refine ⟨fun g => ?_, fun g => ?_⟩
    · obtain ⟨u1, u2, u3, u4⟩ := g1 g
      refine ⟨u1, u2, ?_, ?_⟩
      · rcases u3 with u3 | ⟨w1, w2, w3, w4⟩
        · exact Or.inl u3
        · right; rw [up_ne h15 (by omega), up_ne h16 (by omega)]; exact ⟨w1, by omega, w3, w4⟩
      · rcases u4 with u4 | ⟨w1, w2, w3, w4, w5⟩
        · exact Or.inl u4
        · right; rw [up_ne h15 (by omega), up_ne h16 (by omega)]; exact ⟨w1, by omega, w3, w4, w5⟩
    · obtain ⟨u1, u2, u3, u4⟩ := g2 g
      refine ⟨u1, u2, u3, ?_⟩
      rcases u4 with u4 | ⟨w1, w2, w3, w4⟩
      · exact Or.inl u4
      · right; rw [up_ne h15 (by omega), up_ne h16 (by omega)]; exact ⟨w1, by omega, w3, w4⟩
  · refine ⟨by rw [r24, r3, r4]; exact hYF.1, fun q hq => ?_⟩
    by_cases g : q = nd
    · rw [g, up_at h22, Int.toNat_natCast, up_at h15, up_at h19]
      exact ⟨by omega, by omega, rfl, rfl⟩
    · obtain ⟨f1, f2, f3, f4⟩ := hYF.2 q (by omega)
      rw [up_ne h22 g, up_ne h15 (by omega), up_ne h19 (by omega)]
      exact ⟨f1, by omega, f3, f4⟩
  · refine ⟨by omega, fun d hdd => ?_, fun d d' u1 u2 => by omega, fun _ => ?_, fun d hdd => by omega, fun q hq => ?_, hW⟩
    · have : d = 0 := by omega
      rw [this, up_at h25, Int.toNat_natCast, eu_eq, up_at h19]
      exact ⟨by omega, by omega, rfl, by omega⟩
    · rw [up_at h25, Int.toNat_natCast, up_at h15, show nd + 1 - 1 = nd by omega, up_at h22]
      exact ⟨rfl, by omega, rfl⟩
    · by_cases g : q = B
      · rw [g, eu_eq, up_at h15]
        exact ⟨fun u => by omega, fun _ => Or.inr ⟨0, by omega, up_at h25⟩⟩
      · rw [eu_ne g, up_ne h15 g]
        obtain ⟨t1, t2⟩ := s5 q (by omega)
        refine ⟨t1, fun t3 => ?_⟩
        rcases t2 t3 with t | ⟨d, t4, t5⟩
        · exact Or.inl t
        · omega
  · intro t ht
    have a7 := hYA t ht
    have hEt := hYE t ht
    obtain ⟨y1, y2, y3⟩ := hYN t ht
    rw [cr (D + 4) (by omega), cr (D + 5) (by omega), cr (D + 6) (by omega), r6, r7, r3, r8, r9]
    refine ⟨?_, fun g => ?_, fun g => ?_⟩
    · rw [lk_eu (Or.inr (by omega))]; exact y1
    · have y2 := y2 g
      by_cases g3 : m 8 t = -1
      · rw [if_pos g3] at y2 ⊢; exact y2
      · rw [if_neg g3] at y2 ⊢
        have : 0 ≤ m 8 t ∧ m 8 t < B := by
          rcases g with g | g
          · have := (hEt.1 g).2.2.1; omega
          · have := (hEt.2 g).2.2.2; omega
        rw [up_ne h17 (by omega), lk_eu (Or.inr (by omega))]; exact y2
    · have y3 := y3 g
      by_cases g3 : m 9 t = -1
      · rw [if_pos g3] at y3 ⊢; exact y3
      · rw [if_neg g3] at y3 ⊢
        have := (hEt.1 g).2.2.2
        rw [up_ne h17 (by omega), lk_eu (Or.inr (by omega))]; exact y3
  · intro q hq
    by_cases g : q = nd
    · rw [g, up_at h22, Int.toNat_natCast, up_at h17, lk_n, Int.toNat_natCast, eu_eq]
      intro u; exact absurd rfl u
    · have f1 := hYF.2 q (by omega)
      rw [cr (D + 14) (by omega), up_ne h22 g, up_ne h17 (by omega), lk_eu (Or.inr (by omega))]
      exact hYV q (by omega)
  · intro t ht
    have a7 := hYA t ht
    rw [cr 42 (by omega), r7, up_ne h15 (by omega), up_ne h16 (by omega)]
    exact hYO t ht
  · refine ⟨fun d hdd => ?_, fun j hj => by omega, fun d hdd => by omega⟩
    have : d = 0 := by omega
    rw [this, up_at c40, up_at h25, Int.toNat_natCast, up_at h18, lp_n]
  · intro t ht
    have a7 := hYA t ht
    rw [cr (D + 1) (by omega), cr (D + 2) (by omega), cr (D + 3) (by omega), r3, r4, r5, r7, r8, up_ne h19 (by omega)]
    exact hYK t ht
  · unfold YG; rw [cr 43 (by omega), r3, r5]; exact hYG
  · unfold YT
    rw [cr (D + 10) (by omega), cr (D + 11) (by omega), cr (D + 12) (by omega), cr (D + 7) (by omega), cr (D + 8) (by omega), r10, r11, r12, r13, r14]
    exact hYT
  · refine ⟨fun k hk => ?_, ?_, fun q hq => ?_⟩
    · by_cases g : k = v
      · rw [g, up_at c39, up_at h23]; exact ⟨rfl, by omega, by omega⟩
      · rw [up_ne c39 g, up_ne h23 g]
        have := hYM.1 k hk
        exact ⟨this.1, this.2.1, by omega⟩
    · rw [nc_up h23 hfree (by omega) 12 hv, hYM.2.1]
    · by_cases g : q = nd
      · rw [g, up_at c13, up_at h20]
      · rw [up_ne c13 g, up_ne h20 g]; exact hYM.2.2 q (by omega)
  · obtain ⟨k, k1, k2, k3⟩ := hYH
    have e1 := ch k k1
    have lt : 2 ^ nd < 2 ^ (nd + 1) := by rw [Nat.pow_succ]; have := Nat.two_pow_pos nd; omega
    rcases hh with g | g
    · rw [if_pos g] at e1
      refine ⟨k, e1, by omega, fun q hq => ?_⟩
      by_cases u : q = nd
      · rw [u, up_at h21, Nat.testBit_lt_two_pow k2, g]; rfl
      · rw [up_ne h21 u]; exact k3 q (by omega)
    · rw [if_neg (by omega)] at e1
      refine ⟨k ||| 2 ^ nd, e1, Nat.or_lt_two_pow (by omega) lt, fun q hq => ?_⟩
      by_cases u : q = nd
      · rw [u, up_at h21, Nat.testBit_or, Nat.testBit_two_pow_self, Bool.or_true, g]; rfl
      · rw [up_ne h21 u, Nat.testBit_or, Nat.testBit_two_pow_of_ne (by omega), Bool.or_false]; exact k3 q (by omega)
  · intro k hk'
    have f1 := hYF.1 k hk'
    have a7 := hYA (m 24 k).toNat (by omega)
    rw [cr (D + 15) (by omega), cr (D + 16) (by omega), r5, r7, r24, up_ne h19 (by omega)]
    exact hYQ k hk'
  · intro q hq
    by_cases g : q = B
    · left; rw [g, eu_eq]
    · rw [eu_ne g, up_ne h15 g, up_ne h16 g, up_ne h19 g, cr (D + 1) (by omega), cr (D + 2) (by omega), cr 42 (by omega), cr (D + 4) (by omega)]
      exact hYX q (by omega)
  · intro q hq
    rcases hYU q hq with r | ⟨r, r1, r2⟩
    · exact Or.inl r
    · exact Or.inr ⟨r, by omega, by rw [eu_ne (by omega)]; exact r2⟩
  · unfold YZ; rw [cr 42 (by omega), cr (D + 4) (by omega)]; exact hYZ
/-- rows of the reference that the relation reads -/
def RQ (m m' : St) : Prop := ∀ q, 3 ≤ q → q ≤ 25 → m' q = m q
/-- rows of the class that the relation reads -/
def CQ (c c' : St) (D : Nat) : Prop := (∀ q, q = D + 1 ∨ q = D + 2 ∨ q = D + 3 ∨ q = D + 4 ∨ q = D + 5 ∨ q = D + 6 ∨ q = D + 7 ∨ q = D + 8 ∨ q = D + 10 ∨ q = D + 11 ∨ q = D + 12 ∨ q = D + 13 ∨ q = D + 14 ∨ q = D + 15 ∨ q = D + 16 ∨ q = 39 ∨ q = 40 ∨ q = 41 ∨ q = 42 ∨ q = 43 → c' q = c q) ∧ c' D 13 = c D 13
theorem SY_rq (hr : RQ m m') (hc : CQ c c' D) (h : SY c m D φ e N S B nd ck ts tm dp) : SY c' m' D φ e N S B nd ck ts tm dp := by
  obtain ⟨cr, c13⟩ := hc
  unfold SY YA YB YC YD YE YF YS YW YWc YN YV YO YL YK YG YT YM YH YQ YX YZ at *
  rw [hr 3 (by decide) (by decide), hr 4 (by decide) (by decide), hr 5 (by decide) (by decide), hr 6 (by decide) (by decide), hr 7 (by decide) (by decide), hr 8 (by decide) (by decide), hr 9 (by decide) (by decide), hr 10 (by decide) (by decide), hr 11 (by decide) (by decide), hr 12 (by decide) (by decide), hr 13 (by decide) (by decide), hr 14 (by decide) (by decide), hr 15 (by decide) (by decide), hr 16 (by decide) (by decide), hr 17 (by decide) (by decide), hr 18 (by decide) (by decide), hr 19 (by decide) (by decide), hr 20 (by decide) (by decide), hr 21 (by decide) (by decide), hr 22 (by decide) (by decide), hr 23 (by decide) (by decide), hr 24 (by decide) (by decide), hr 25 (by decide) (by decide), cr (D + 1) (by omega), cr (D + 2) (by omega), cr (D + 3) (by omega), cr (D + 4) (by omega), cr (D + 5) (by omega), cr (D + 6) (by omega), cr (D + 7) (by omega), cr (D + 8) (by omega), cr (D + 10) (by omega), cr (D + 11) (by omega), cr (D + 12) (by omega), cr (D + 13) (by omega), cr (D + 14) (by omega), cr (D + 15) (by omega), cr (D + 16) (by omega), cr 39 (by omega), cr 40 (by omega), cr 41 (by omega), cr 42 (by omega), cr 43 (by omega), c13]
  exact h
/-- a term is added to the condition of the last statement -/
theorem SY_term {s : Nat} {k o v : Int} (hs : s < N) (hT : TR k o v) (h12 : m' 12 = va_up (m 12) tm k) (h13 : m' 13 = va_up (m 13) tm o) (h14 : m' 14 = va_up (m 14) tm v) (h11 : m' 11 = va_up (m 11) s ((tm + 1 : Nat) : Int)) (hr : ∀ q, (3 ≤ q ∧ q ≤ 10) ∨ (15 ≤ q ∧ q ≤ 25) → m' q = m q)
    (c10 : c' (D + 10) = va_up (c (D + 10)) tm k) (c11 : c' (D + 11) = va_up (c (D + 11)) tm o) (c12 : c' (D + 12) = va_up (c (D + 12)) tm v) (c8 : c' (D + 8) = va_up (c (D + 8)) (φ s) ((tm + 1 : Nat) : Int)) (cr : ∀ q, q = D + 1 ∨ q = D + 2 ∨ q = D + 3 ∨ q = D + 4 ∨ q = D + 5 ∨ q = D + 6 ∨ q = D + 7 ∨ q = D + 13 ∨ q = D + 14 ∨ q = D + 15 ∨ q = D + 16 ∨ q = 39 ∨ q = 40 ∨ q = 41 ∨ q = 42 ∨ q = 43 → c' q = c q) (c13 : c' D 13 = c D 13)
    (h : SY c m D φ e N S B nd ck ts tm dp) : SY c' m' D φ e N S B nd ck ts (tm + 1) dp := by
  obtain ⟨hP, hYA, hYB, hYC, hYD, hYE, hYF, hYS, hYN, hYV, hYO, hYL, hYK, hYG, hYT, hYM, hYH, hYQ, hYX, hYU, hYZ⟩ := h
  have nT : YT c' m' D φ N (tm + 1) := by
    refine ⟨fun t ht => ?_, fun t ht => ?_⟩
    · by_cases g : t = tm
      · rw [g, up_at c10, up_at c11, up_at c12, up_at h12, up_at h13, up_at h14]
        exact ⟨rfl, rfl, rfl, hT⟩
      · rw [up_ne c10 g, up_ne c11 g, up_ne c12 g, up_ne h12 g, up_ne h13 g, up_ne h14 g]
        exact hYT.1 t (by omega)
    · rw [cr (D + 7) (by omega), hr 10 (by omega)]
      obtain ⟨u1, u2, u3, u4, u5⟩ := hYT.2 t ht
      by_cases g : t = s
      · rw [g, up_at c8, up_at h11]
        rw [g] at u1 u3 u4 u5
        exact ⟨u1, rfl, u3, by omega, by omega⟩
      · rw [up_ne c8 (fun u => g (ph_inj hP ht hs u)), up_ne h11 g]
        exact ⟨u1, u2, u3, u4, by omega⟩
  refine ⟨hP, ?_, ?_, ?_, ?_, ?_, ?_, ?_, ?_, ?_, ?_, ?_, ?_, ?_, nT, ?_, ?_, ?_, ?_, hYU, ?_⟩
  all_goals clear nT hYT c10 c11 c12 c8 h11 h12 h13 h14 hT
  all_goals unfold YA YB YC YD YE YF YS YW YWc YN YV YO YL YK YG YM YH YQ YX YZ at *
  · rw [hr 7 (by omega)]; exact hYA
  · rw [hr 6 (by omega), hr 7 (by omega), hr 18 (by omega)]; exact hYB
  · rw [hr 6 (by omega), hr 7 (by omega), hr 17 (by omega), hr 18 (by omega)]; exact hYC
  · rw [hr 3 (by omega), hr 7 (by omega), hr 8 (by omega), hr 9 (by omega), hr 15 (by omega), hr 16 (by omega), hr 19 (by omega), hr 24 (by omega)]; exact hYD
  · rw [hr 3 (by omega), hr 4 (by omega), hr 8 (by omega), hr 9 (by omega), hr 15 (by omega), hr 16 (by omega), hr 24 (by omega)]; exact hYE
  · rw [hr 3 (by omega), hr 4 (by omega), hr 15 (by omega), hr 19 (by omega), hr 22 (by omega), hr 24 (by omega)]; exact hYF
  · rw [hr 15 (by omega), hr 16 (by omega), hr 18 (by omega), hr 19 (by omega), hr 22 (by omega), hr 24 (by omega), hr 25 (by omega), hr 6 (by omega), hr 7 (by omega), hr 8 (by omega), hr 9 (by omega), hr 3 (by omega), hr 4 (by omega)]; exact hYS
  · rw [hr 3 (by omega), hr 6 (by omega), hr 7 (by omega), hr 8 (by omega), hr 9 (by omega), hr 17 (by omega), cr (D + 4) (by omega), cr (D + 5) (by omega), cr (D + 6) (by omega)]; exact hYN
  · rw [hr 17 (by omega), hr 22 (by omega), cr (D + 14) (by omega)]; exact hYV
  · rw [hr 7 (by omega), hr 15 (by omega), hr 16 (by omega), cr 42 (by omega)]; exact hYO
  · rw [hr 8 (by omega), hr 15 (by omega), hr 16 (by omega), hr 18 (by omega), hr 25 (by omega), cr 40 (by omega), cr 41 (by omega)]; exact hYL
  · rw [hr 3 (by omega), hr 4 (by omega), hr 5 (by omega), hr 7 (by omega), hr 8 (by omega), hr 19 (by omega), cr (D + 1) (by omega), cr (D + 2) (by omega), cr (D + 3) (by omega)]; exact hYK
  · rw [hr 3 (by omega), hr 5 (by omega), cr 43 (by omega)]; exact hYG
  · rw [hr 20 (by omega), hr 23 (by omega), cr 39 (by omega), cr (D + 13) (by omega)]; exact hYM
  · rw [hr 21 (by omega), c13]; exact hYH
  · rw [hr 5 (by omega), hr 7 (by omega), hr 19 (by omega), hr 24 (by omega), cr (D + 15) (by omega), cr (D + 16) (by omega)]; exact hYQ
  · rw [hr 15 (by omega), hr 16 (by omega), hr 19 (by omega), cr (D + 1) (by omega), cr (D + 2) (by omega), cr (D + 4) (by omega), cr 42 (by omega)]; exact hYX
  · rw [cr 42 (by omega), cr (D + 4) (by omega)]; exact hYZ
end SNODE
