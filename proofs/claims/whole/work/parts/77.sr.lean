/-! ===== pure layer: the story of the class and that of the reference ===== -/
def SRx (D : Nat) (c m : St) (φ : Nat → Nat) (e : Nat → Int) (N S B nd ck ts tm : Nat) : Prop :=
  (m 0 15 = (N : Int) ∧ m 0 19 = (tm : Int) ∧ m 0 25 = (B : Int) ∧ m 0 30 = (nd : Int) ∧ m 0 32 = (ck : Int) ∧ m 0 33 = (ts : Int) ∧ c D 0 = (S : Int) ∧ c (D + 9) 0 = (tm : Int) ∧ c D 10 = (nd : Int) ∧ c D 14 = (ck : Int) ∧ c D 18 = (ts : Int) ∧ 0 < nd ∧ nd ≤ 12 ∧ ck ≤ 16 ∧ ts ≤ 16 ∧ S ≤ 400 ∧ B ≤ 60 ∧ tm ≤ 199) ∧
  (YP φ N S ∧ YA m N B ∧ YB m N ∧ YC m N B ∧ YD m N B nd ck ∧ YE m N B ck ts ∧ YF m N B nd ck ∧ ∀ s, s < N → m 3 s = 3 ∨ m 3 s = 4 → m 8 s ≠ -1) ∧
  (∀ b, b < B → (m 15 b = 2 → e b = -1) ∧ (m 15 b ≠ 2 → 0 ≤ e b ∧ e b < S ∧ ((m 15 b = 0 ∧ c (D + 1) (e b).toNat = 11 ∧ c (D + 2) (e b).toNat = m 19 b) ∨ (m 15 b = 1 ∧ c (D + 1) (e b).toNat = 12 ∧ c (D + 2) (e b).toNat = m 16 b)))) ∧
  (∀ s, s < N → c (D + 4) (φ s) = if m 6 s = -1 then (if m 15 (m 7 s).toNat = 2 then c (D + 4) (φ (m 16 (m 7 s).toNat).toNat) else e (m 7 s).toNat) else ((φ (m 6 s).toNat : Nat) : Int)) ∧
  (∀ s, s < N → m 3 s = 3 → c (D + 5) (φ s) = (if m 17 (m 8 s).toNat = -1 then c (D + 4) (φ s) else ((φ (m 17 (m 8 s).toNat).toNat : Nat) : Int)) ∧ c (D + 6) (φ s) = (if m 9 s = -1 ∨ m 17 (m 9 s).toNat = -1 then c (D + 4) (φ s) else ((φ (m 17 (m 9 s).toNat).toNat : Nat) : Int))) ∧
  (∀ k : Nat, k < ck → c (D + 17) k = lk φ e (m 17 (m 8 (m 24 k).toNat).toNat) (m 8 (m 24 k).toNat)) ∧
  (∀ v : Nat, v < nd → c (D + 14) v = lk φ e (m 17 (m 22 v).toNat) (m 22 v)) ∧
  (YK c m D φ N ∧ (∀ s, s < N → m 3 s = 5 → 0 ≤ m 4 s ∧ m 4 s < nd)) ∧ YT c m D φ N tm ∧ (∀ v, v < nd → c (D + 13) v = m 20 v) ∧ YH c m D nd ∧ YQ c m D ck ∧ YU φ e N B S ∧
  (∀ x : Nat, x < S → c (D + 4) x = -1 ∨ ((x : Int) < c (D + 4) x ∧ c (D + 4) x < S)) ∧ ∃ δ h : Nat → Nat, YWc m N B δ h
def SR (D : Nat) (c m : St) : Prop := ∃ φ e N S B nd ck ts tm, SRx D c m φ e N S B nd ck ts tm
section SRS
variable {T : Nat → Int} {n D a : Nat} {z c c' c0 m m' : St} {φ : Nat → Nat} {e : Nat → Int} {N S B nd ck ts tm dp b : Nat} {R : St → St → Prop} {Q : St → Int → Prop}
theorem ca_suc {r : Nat → Int} {x : Nat} : ∀ k, ca r (k + 1) (x : Int) = ca r k (r x) ∨ (r x = -1 ∧ ca r (k + 1) (x : Int) = -1) := by
  intro k
  induction k with
  | zero =>
    left
    show (if (x : Int) = -1 then -1 else r ((x : Int)).toNat) = r x
    rw [if_neg (by omega), Int.toNat_natCast]
  | succ k ih =>
    have e1 : ca r (k + 1 + 1) (x : Int) = if ca r (k + 1) (x : Int) = -1 then -1 else r (ca r (k + 1) (x : Int)).toNat := rfl
    rcases ih with g | ⟨g1, g2⟩
    · left; rw [e1, g]; rfl
    · right; exact ⟨g1, by rw [e1, if_pos g2]⟩
theorem LK_chain (hL : LC c0 D S) (h : LK c0 D S c) : ∀ x : Nat, x < S → c (D + 4) x = -1 ∨ ∃ k, ca (c0 42) k x ≠ -1 ∧ c (D + 4) x = c0 (D + 4) (ca (c0 42) k x).toNat ∧ c (D + 4) x ≠ -1 := by
  intro x
  induction x using Nat.strongRecOn with
  | _ x ih =>
    intro hx
    obtain ⟨-, -, -, lr, -⟩ := hL
    obtain ⟨-, r42a, r42b, r4a, r4b, -⟩ := lr x hx
    have h4 := h.2.1 x
    by_cases g : c0 (D + 4) x = -1
    · rw [if_pos ⟨hx, g⟩] at h4
      by_cases g2 : c0 42 x = -1
      · left; rw [h4, if_pos g2]
      · rw [if_neg g2] at h4
        rcases ih (c0 42 x).toNat (by omega) (by omega) with u | ⟨k, u1, u2, u3⟩
        · left; rw [h4]; exact u
        · right
          have ex : (((c0 42 x).toNat : Nat) : Int) = c0 42 x := by omega
          rw [ex] at u1 u2
          rcases ca_suc (r := c0 42) (x := x) k with v | ⟨v, -⟩
          · refine ⟨k + 1, by rw [v]; exact u1, by rw [v, h4]; exact u2, by rw [h4]; exact u3⟩
          · exact absurd v g2
    · right
      rw [if_neg (fun u => g u.2)] at h4
      refine ⟨0, by show (x : Int) ≠ -1; omega, ?_, by rw [h4]; exact g⟩
      show c (D + 4) x = c0 (D + 4) ((x : Int)).toNat
      rw [Int.toNat_natCast]; exact h4
/-- the class may link -/
theorem SY_LC (h0 : c 38 0 = (D : Int)) (hS : c D 0 = (S : Int)) (hS4 : S ≤ 400) (hck : ck ≤ 16) (hnd : nd ≤ 12) (h : SY c m D φ e N S B nd ck ts tm 0) : LC c D S := by
  obtain ⟨hP, hYA, hYB, hYC, hYD, hYE, hYF, hYS, hYN, hYV, hYO, hYL, hYK, hYG, hYT, hYM, hYH, hYQ, hYX, hYU, hYZ⟩ := h
  -- the sorts
  have srt : ∀ y : Nat, y < S → (∃ s, s < N ∧ φ s = y) ∨ (c (D + 1) y = 11 ∨ c (D + 1) y = 12) := by
    intro y hy
    rcases hYU y hy with r | ⟨q, q1, q2⟩
    · exact Or.inl r
    · right
      rcases hYX q q1 with u | ⟨-, -, u, -⟩
      · rw [u] at q2; omega
      · rw [q2, Int.toNat_natCast] at u
        rcases u with ⟨-, u, -⟩ | ⟨-, u, -⟩
        · exact Or.inl u
        · exact Or.inr u
  have kr : ∀ s, s < N → (0 ≤ c (D + 1) (φ s) ∧ c (D + 1) (φ s) ≤ 10) ∧ (c (D + 1) (φ s) = 8 → 0 ≤ c (D + 2) (φ s) ∧ c (D + 2) (φ s) ≤ 11) ∧ (c (D + 1) (φ s) = 7 → m 3 s = 4 ∧ c (D + 2) (φ s) = m 4 s) ∧ (c (D + 1) (φ s) = 6 → m 3 s = 3) := by
    intro s hs
    have := hYK s hs
    rcases this with ⟨u1, u2, u3, u4, u5⟩ | ⟨u1, u2, u3, u4, u5⟩ | ⟨u1, u2, u3, u4, u5, u6, u7, u8⟩ | ⟨u1, u2, u3⟩ | ⟨u1, u2, u3, u4, u5⟩ | ⟨u1, u2, u3, u4, u5, u6, u7⟩ | ⟨u1, u2, u3⟩ | ⟨u1, u2, u3, u4, u5⟩ <;> refine ⟨by omega, fun g => by omega, fun g => ⟨by omega, by omega⟩, fun g => by omega⟩
  have lkr : ∀ q : Int, 0 ≤ q → q < B → inR (lk φ e (m 17 q.toNat) q) := by
    intro q q1 q2
    unfold lk
    split
    · rcases hYX q.toNat (by omega) with u | ⟨u1, u2, -⟩
      · rw [u]; exact ⟨by decide, by decide⟩
      · exact ⟨by omega, by omega⟩
    · rename_i g
      rcases hYC q.toNat (by omega) with ⟨u, -⟩ | ⟨u1, u2, -⟩
      · exact absurd u g
      · have := hP.1 (m 17 q.toNat).toNat (by omega)
        exact ⟨by omega, by omega⟩
  refine ⟨h0, hS, hS4, fun y hy => ?_, fun k hk => ?_, fun x y hx hy h7 h7' hw => ?_⟩
  · obtain ⟨z1, z2, -⟩ := hYZ
    have a1 := z1 y hy
    have a2 := z2 y hy
    rcases srt y hy with ⟨s, s1, s2⟩ | g
    · obtain ⟨k1, k2, k3, k4⟩ := kr s s1
      rw [s2] at k1 k2 k3 k4
      refine ⟨⟨by omega, by omega⟩, a1.1, a1.2, a2.1, a2.2, fun g => ?_, fun g => by have := k2 g; omega, fun g => ?_⟩
      · have k3' := k4 g
        obtain ⟨-, y2, y3⟩ := hYN s s1
        have y2 := y2 (Or.inl k3')
        have y3 := y3 k3'
        obtain ⟨-, -, t1, t2⟩ := (hYE s s1).1 k3'
        rw [s2] at y2 y3
        rw [y2, y3]
        constructor
        · split
          · exact ⟨by decide, by decide⟩
          · rename_i g2
            exact lkr _ (by omega) (by omega)
        · split
          · exact ⟨by decide, by decide⟩
          · rename_i g2
            exact lkr _ (by omega) (by omega)
      · obtain ⟨q1, q2⟩ := k3 g
        have := (hYE s s1).2 q1
        omega
    · exact ⟨⟨by omega, by omega⟩, a1.1, a1.2, a2.1, a2.2, fun g2 => by omega, fun g2 => by omega, fun g2 => by omega⟩
  · have := hYM.1 k hk; rw [this.1]; exact ⟨by omega, by omega⟩
  · rcases srt x hx with ⟨s, s1, s2⟩ | g
    · rcases srt y hy with ⟨t, t1, t2⟩ | g'
      · obtain ⟨-, -, k3, -⟩ := kr s s1
        obtain ⟨-, -, k3', -⟩ := kr t t1
        rw [s2] at k3
        rw [t2] at k3'
        obtain ⟨q1, q2⟩ := k3 h7
        obtain ⟨q1', q2'⟩ := k3' h7'
        have e1 := ((hYE s s1).2 q1).2.2.1
        have e2 := ((hYE t t1).2 q1').2.2.1
        rw [q2, q2'] at hw
        rw [hw, e2] at e1
        have : t = s := by omega
        rw [← s2, ← t2, this]
      · omega
    · omega
/-- both have finished: the stories belong together -/
theorem SR_end (h0 : c0 38 0 = (D : Int)) (hYY : YY c0 m D N S B nd ck ts tm dp) (hnd : 0 < nd) (hS4 : S ≤ 400) (hB : B ≤ 60) (htm : tm ≤ 199) (h : SY c0 m D φ e N S B nd ck ts tm 0) (hop : ∀ s, s < N → m 3 s = 3 ∨ m 3 s = 4 → m 8 s ≠ -1) (hLK : LK c0 D S c) (hr : ∀ q, q ≠ 4 → m' q = m q) (h4 : ∀ s, m' 4 s = if s < N ∧ m 3 s = 5 then m 23 (m 4 s).toNat else m 4 s) (hres : ∀ s, s < N → m 3 s = 5 → m 23 (m 4 s).toNat ≠ -1) : SR D c m' := by
  obtain ⟨y1, y2, y3, y4, y5, y6, y7, y8, y9, y10, y11, y12, y13, y14, y15, y16⟩ := hYY
  have hLC := SY_LC h0 y8 hS4 y14 y16 h
  have hch := LK_chain hLC hLK
  have hbn := LK_n hLC (Nat.le_refl _) hLK
  obtain ⟨hP, hYA, hYB, hYC, hYD, hYE, hYF, hYS, hYN, hYV, hYO, hYL, hYK, hYG, hYT, hYM, hYH, hYQ, hYX, hYU, hYZ⟩ := h
  obtain ⟨s0, s1, s2, s3, s4, s5, s6⟩ := hYS
  obtain ⟨cr, k4, k5, k6, k2, k17, kres⟩ := hLK
  have cr' : ∀ q, q ≠ D + 2 → q ≠ D + 4 → q ≠ D + 5 → q ≠ D + 6 → q ≠ D + 17 → c q = c0 q := cr
  have m4 : ∀ s, s < N → m 3 s ≠ 5 → m' 4 s = m 4 s := fun s _ g => by rw [h4 s, if_neg (fun u => g u.2)]
  have eb : ∀ q : Nat, q < B → m 15 q ≠ 2 → e q ≠ -1 := fun q hq g => by
    rcases (s5 q hq).2 g with u | ⟨d, u, -⟩
    · exact u
    · omega
  have nx : ∀ s, s < N → c (D + 4) (φ s) = if m 6 s = -1 then (if m 15 (m 7 s).toNat = 2 then c (D + 4) (φ (m 16 (m 7 s).toNat).toNat) else e (m 7 s).toNat) else ((φ (m 6 s).toNat : Nat) : Int) := by
    intro s hs
    have hφ := hP.1 s hs
    have hn := (hYN s hs).1
    have a7 := hYA s hs
    have := k4 (φ s)
    by_cases g : m 6 s = -1
    · rw [if_pos g]
      rw [g, lk_n] at hn
      by_cases g2 : m 15 (m 7 s).toNat = 2
      · have he := (s5 (m 7 s).toNat (by omega)).1 g2
        have ho := hYO s hs
        rw [if_pos g2] at ho ⊢
        rw [he] at hn
        rw [if_pos ⟨hφ, hn⟩, ho, if_neg (by omega), Int.toNat_natCast] at this
        exact this
      · have he := eb (m 7 s).toNat (by omega) g2
        rw [if_neg g2, ← hn]
        rw [if_neg (fun u => he (by rw [← hn]; exact u.2))] at this
        exact this
    · rw [if_neg g]
      rw [lk_p g] at hn
      rw [if_neg (fun u => by omega)] at this
      rw [this, hn]
  have kinds : YK c m' D φ N ∧ ∀ s, s < N → m' 3 s = 5 → 0 ≤ m' 4 s ∧ m' 4 s < nd := by
    constructor
    · intro s hs
      rw [hr 3 (by decide), hr 5 (by decide), hr 8 (by decide), hr 19 (by decide), hr 7 (by decide), cr (D + 1) (by omega) (by omega) (by omega) (by omega) (by omega), cr (D + 3) (by omega) (by omega) (by omega) (by omega) (by omega)]
      have hk := hYK s hs
      have hφ := hP.1 s hs
      have w2 := k2 (φ s)
      by_cases g : m 3 s = 5
      · have hres' := hres s hs g
        rcases hk with ⟨u, -⟩ | ⟨u, -⟩ | ⟨u, -⟩ | ⟨u, -⟩ | ⟨u, -⟩ | ⟨u1, u2, u3, u4, u5, u6, u7⟩ | ⟨u, -⟩ | ⟨u, -⟩
        · omega
        · omega
        · omega
        · omega
        · omega
        · have hm := hYM.1 (m 4 s).toNat (by omega)
          rw [if_pos ⟨hφ, u2⟩, u3, hm.1] at w2
          rw [w2, h4 s, if_pos ⟨hs, g⟩]
          exact Or.inr (Or.inr (Or.inr (Or.inr (Or.inr (Or.inl ⟨u1, u2, rfl, by omega, by omega, u6, u7⟩)))))
        · omega
        · omega
      · have h8 : c0 (D + 1) (φ s) ≠ 8 := by
          rcases hk with ⟨u1, u2, -⟩ | ⟨u1, -, -, -, u2⟩ | ⟨u1, -, -, -, -, -, -, u2⟩ | ⟨u1, u2, -⟩ | ⟨u1, u2, -⟩ | ⟨u1, u2, -⟩ | ⟨u1, u2, -⟩ | ⟨u1, u2, -⟩ <;> omega
        rw [if_neg (fun u => h8 u.2)] at w2
        rw [w2, m4 s hs g]
        exact hk
    · intro s hs g
      rw [hr 3 (by decide)] at g
      rw [h4 s, if_pos ⟨hs, g⟩]
      have hres' := hres s hs g
      have hk := hYK s hs
      rcases hk with ⟨u, -⟩ | ⟨u, -⟩ | ⟨u, -⟩ | ⟨u, -⟩ | ⟨u, -⟩ | ⟨u1, u2, u3, u4, u5, u6, u7⟩ | ⟨u, -⟩ | ⟨u, -⟩
      · omega
      · omega
      · omega
      · omega
      · omega
      · have hm := hYM.1 (m 4 s).toNat (by omega)
        omega
      · omega
      · omega
  refine ⟨φ, e, N, S, B, nd, ck, ts, tm, ⟨?_, ⟨hP, ?_, ?_, ?_, ?_, ?_, ?_, ?_⟩, ?_, ?_, ?_, ?_, ?_, kinds, ?_, ?_, ?_, ?_, hYU, ?_, ?_⟩⟩
  · rw [hr 0 (by decide), cr D (by omega) (by omega) (by omega) (by omega) (by omega), cr (D + 9) (by omega) (by omega) (by omega) (by omega) (by omega)]
    exact ⟨y1, y2, y3, y4, y5, y6, y8, y9, y10, y11, y12, hnd, y16, y14, y15, hS4, hB, htm⟩
  · unfold YA; rw [hr 7 (by decide)]; exact hYA
  · unfold YB; rw [hr 6 (by decide), hr 7 (by decide), hr 18 (by decide)]; exact hYB
  · unfold YC; rw [hr 6 (by decide), hr 7 (by decide), hr 17 (by decide), hr 18 (by decide)]; exact hYC
  · unfold YD; rw [hr 3 (by decide), hr 7 (by decide), hr 8 (by decide), hr 9 (by decide), hr 15 (by decide), hr 16 (by decide), hr 19 (by decide), hr 24 (by decide)]; exact hYD
  · intro s hs
    rw [hr 3 (by decide), hr 8 (by decide), hr 9 (by decide), hr 15 (by decide), hr 16 (by decide), hr 24 (by decide)]
    obtain ⟨g1, g2⟩ := hYE s hs
    exact ⟨fun g => by rw [m4 s hs (by omega)]; exact g1 g, fun g => by rw [m4 s hs (by omega)]; exact g2 g⟩
  · refine ⟨fun k hk => ?_, ?_⟩
    · obtain ⟨f1, f2, f3, f4⟩ := hYF.1 k hk
      rw [hr 24 (by decide), hr 3 (by decide), m4 _ (by omega) (by omega)]
      exact ⟨f1, f2, f3, f4⟩
    · rw [hr 22 (by decide), hr 15 (by decide), hr 19 (by decide)]; exact hYF.2
  · rw [hr 3 (by decide), hr 8 (by decide)]; exact hop
  · intro q hq
    rw [hr 15 (by decide), hr 16 (by decide), hr 19 (by decide), cr (D + 1) (by omega) (by omega) (by omega) (by omega) (by omega)]
    refine ⟨(s5 q hq).1, fun g => ?_⟩
    rcases hYX q hq with u | ⟨u1, u2, u3, -⟩
    · exact absurd u (eb q hq g)
    · have w2 := k2 (e q).toNat
      rw [if_neg (fun v => by omega)] at w2
      rw [w2]
      exact ⟨u1, u2, u3⟩
  · rw [hr 6 (by decide), hr 7 (by decide), hr 15 (by decide), hr 16 (by decide)]; exact nx
  · intro s hs g
    rw [hr 3 (by decide)] at g
    rw [hr 8 (by decide), hr 9 (by decide), hr 17 (by decide)]
    have hφ := hP.1 s hs
    obtain ⟨-, n2, n3⟩ := hYN s hs
    have n2 := n2 (Or.inl g)
    have n3 := n3 g
    rw [if_neg (hop s hs (Or.inl g))] at n2
    obtain ⟨-, -, t1, t2⟩ := (hYE s hs).1 g
    have hso : c0 (D + 1) (φ s) = 6 := by
      have hk := hYK s hs
      rcases hk with ⟨u, -⟩ | ⟨u, -⟩ | ⟨u, -⟩ | ⟨-, u, -⟩ | ⟨u, -⟩ | ⟨u, -⟩ | ⟨u, -⟩ | ⟨u, -⟩
      · omega
      · omega
      · omega
      · exact u
      · omega
      · omega
      · omega
      · omega
    have w5 := k5 (φ s)
    have w6 := k6 (φ s)
    constructor
    · have h8 := hop s hs (Or.inl g)
      rcases t1 with t1 | ⟨t1, t3, t4, t5⟩
      · exact absurd t1 h8
      · by_cases q : m 17 (m 8 s).toNat = -1
        · rw [if_pos q]
          rw [q, lk_n, (s5 (m 8 s).toNat (by omega)).1 t4] at n2
          rw [if_pos ⟨hφ, hso, n2⟩] at w5
          exact w5
        · rw [if_neg q]
          rw [lk_p q] at n2
          rw [if_neg (fun u => by omega)] at w5
          rw [w5, n2]
    · rcases t2 with t2 | ⟨t2, t3, t4, t5, -⟩
      · rw [if_pos (Or.inl t2)]
        rw [if_pos t2] at n3
        rw [if_pos ⟨hφ, hso, n3⟩] at w6
        exact w6
      · rw [if_neg (by omega)] at n3
        by_cases q : m 17 (m 9 s).toNat = -1
        · rw [if_pos (Or.inr q)]
          rw [q, lk_n, (s5 (m 9 s).toNat (by omega)).1 t4] at n3
          rw [if_pos ⟨hφ, hso, n3⟩] at w6
          exact w6
        · rw [if_neg (by omega)]
          rw [lk_p q] at n3
          rw [if_neg (fun u => by omega)] at w6
          rw [w6, n3]
  · intro k hk
    obtain ⟨f1, f2, f3, f4⟩ := hYF.1 k hk
    rw [hr 24 (by decide), hr 8 (by decide), hr 17 (by decide)]
    have hs : (m 24 k).toNat < N := by omega
    have hφ := hP.1 _ hs
    have hk' := hYK _ hs
    have n2 := (hYN _ hs).2.1 (Or.inr f3)
    rw [if_neg (hop _ hs (Or.inr f3))] at n2
    have hso : c0 (D + 1) (φ (m 24 k).toNat) = 7 ∧ c0 (D + 2) (φ (m 24 k).toNat) = k := by
      rcases hk' with ⟨u, -⟩ | ⟨u, -⟩ | ⟨u, -⟩ | ⟨u, -⟩ | ⟨-, u, u2, -⟩ | ⟨u, -⟩ | ⟨u, -⟩ | ⟨u, -⟩
      · omega
      · omega
      · omega
      · omega
      · exact ⟨u, by omega⟩
      · omega
      · omega
      · omega
    have := k17 _ hφ hso.1
    rw [hso.2, Int.toNat_natCast] at this
    rw [this, n2]
  · intro v hv
    rw [hr 22 (by decide), hr 17 (by decide), cr (D + 14) (by omega) (by omega) (by omega) (by omega) (by omega)]
    refine hYV v hv ?_
    obtain ⟨f1, f2, f3, f4⟩ := hYF.2 v hv
    unfold lk
    split
    · exact eb _ (by omega) (by omega)
    · omega
  · unfold YT at *
    rw [hr 10 (by decide), hr 11 (by decide), hr 12 (by decide), hr 13 (by decide), hr 14 (by decide), cr (D + 7) (by omega) (by omega) (by omega) (by omega) (by omega), cr (D + 8) (by omega) (by omega) (by omega) (by omega) (by omega), cr (D + 10) (by omega) (by omega) (by omega) (by omega) (by omega), cr (D + 11) (by omega) (by omega) (by omega) (by omega) (by omega), cr (D + 12) (by omega) (by omega) (by omega) (by omega) (by omega)]
    exact hYT
  · rw [hr 20 (by decide), cr (D + 13) (by omega) (by omega) (by omega) (by omega) (by omega)]; exact hYM.2.2
  · unfold YH at *; rw [hr 21 (by decide), cr D (by omega) (by omega) (by omega) (by omega) (by omega)]; exact hYH
  · intro k hk
    rw [hr 5 (by decide), hr 7 (by decide), hr 19 (by decide), hr 24 (by decide), cr (D + 15) (by omega) (by omega) (by omega) (by omega) (by omega), cr (D + 16) (by omega) (by omega) (by omega) (by omega) (by omega)]
    exact hYQ k hk
  · intro x hx
    rcases hch x hx with u | ⟨k, u1, u2, u3⟩
    · exact Or.inl u
    · right
      have := hYZ.2.2 x k hx u1
      rw [← u2] at this
      have := hbn x hx
      omega
  · obtain ⟨δ, h, -, w⟩ := s6
    obtain ⟨w1, w2, w3, w4⟩ := w
    refine ⟨δ, h, ?_, ?_, ?_, fun s t hst ht g1 g2 => ?_⟩
    · rw [hr 15 (by decide), hr 16 (by decide), hr 6 (by decide), hr 7 (by decide), hr 19 (by decide), hr 24 (by decide)]; exact w1
    · rw [hr 7 (by decide)]; exact w2
    · rw [hr 15 (by decide), hr 16 (by decide), hr 7 (by decide), hr 8 (by decide), hr 9 (by decide)]; exact w3
    · rw [hr 3 (by decide)] at g1 g2
      rw [m4 s (by omega) (by omega), m4 t ht (by omega)]
      exact w4 s t hst ht g1 g2
end SRS
