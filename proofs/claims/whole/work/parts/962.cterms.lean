/-! ===== pure layer: union, and what terms do, in the class ===== -/
def pkg (g : Nat → Nat) : Nat := if g 0 = 0 then 0 else pk (fun i => g (1 + i)) (g 7) (g 8)
theorem pkg_0 {g : Nat → Nat} (h : g 0 = 0) : pkg g = 0 := by unfold pkg; rw [if_pos h]
theorem pkg_1 {g : Nat → Nat} (h : g 0 ≠ 0) : pkg g = pk (fun i => g (1 + i)) (g 7) (g 8) := by unfold pkg; rw [if_neg h]
theorem KV_16 {g : Nat → Nat} (h : KV g) (hg : g 0 ≠ 0) : (∀ i, i < 6 → (fun i => g (1 + i)) i < 16) ∧ g 7 < 4096 ∧ g 8 < 8192 ∧ g 7 ≠ 0 := by
  rcases h with u | ⟨-, u1, u2, u3, u4⟩
  · exact absurd u hg
  · refine ⟨fun i hi => ?_, u2, u4, fun w => ?_⟩
    · show g (1 + i) < 16
      by_cases q : i < 3
      · have := u1 i q; omega
      · have := u1 (i - 3) (by omega)
        rw [show 4 + (i - 3) = 1 + i by omega] at this
        omega
    · have := u3 0 (by decide)
      rw [w] at this
      exact this (by decide)
theorem pkg_lt {g : Nat → Nat} (h : KV g) : pkg g < 9223372036854775808 := by
  by_cases q : g 0 = 0
  · rw [pkg_0 q]; decide
  · obtain ⟨a1, a2, a3, -⟩ := KV_16 h q
    rw [pkg_1 q]
    have := pkn_lt a1 a2 a3
    omega
theorem pkg_z {g : Nat → Nat} (h : KV g) : pkg g = 0 ↔ g 0 = 0 := by
  constructor
  · intro u
    by_cases q : g 0 = 0
    · exact q
    · obtain ⟨a1, a2, a3, a4⟩ := KV_16 h q
      rw [pkg_1 q] at u
      unfold pk at u
      omega
  · exact pkg_0
theorem lcmp_pkg0 {g : Nat → Nat} (h : KV g) : lcmp64 ((pkg g : Nat) : Int) 0 = 0 ↔ g 0 = 0 := by
  have := lcmp_iff (x := pkg g) (y := 0) (pkg_lt h) (by decide)
  rw [show ((0 : Nat) : Int) = 0 from rfl] at this
  rw [this, pkg_z h]
theorem pk_inj {a a' : Nat → Nat} {V V' U U' : Nat} (h : ∀ i, i < 6 → a i < 16) (h' : ∀ i, i < 6 → a' i < 16) (hV : V < 4096) (hV' : V' < 4096) (e : pk a V U = pk a' V' U') : (∀ i, i < 6 → a i = a' i) ∧ V = V' ∧ U = U' := by
  have r := R6_lt h
  have r' := R6_lt h'
  have e1 : R6 a = R6 a' ∧ V = V' ∧ U = U' := by unfold pk at e; omega
  refine ⟨?_, e1.2⟩
  have h0 := h 0 (by omega); have h1 := h 1 (by omega); have h2 := h 2 (by omega); have h3 := h 3 (by omega); have h4 := h 4 (by omega); have h5 := h 5 (by omega)
  have k0 := h' 0 (by omega); have k1 := h' 1 (by omega); have k2 := h' 2 (by omega); have k3 := h' 3 (by omega); have k4 := h' 4 (by omega); have k5 := h' 5 (by omega)
  have e2 := e1.1
  unfold R6 at e2
  intro i hi
  have : i = 0 ∨ i = 1 ∨ i = 2 ∨ i = 3 ∨ i = 4 ∨ i = 5 := by omega
  rcases this with rfl | rfl | rfl | rfl | rfl | rfl <;> omega
theorem R6_congr {a a' : Nat → Nat} (h : ∀ i, i < 6 → a i = a' i) : R6 a = R6 a' := by
  unfold R6
  rw [h 0 (by omega), h 1 (by omega), h 2 (by omega), h 3 (by omega), h 4 (by omega), h 5 (by omega)]
theorem pk_congr {a a' : Nat → Nat} {V U : Nat} (h : ∀ i, i < 6 → a i = a' i) : pk a V U = pk a' V U := by unfold pk; rw [R6_congr h]
theorem R6_or {a a' : Nat → Nat} (h : ∀ i, i < 6 → a i < 16) (h' : ∀ i, i < 6 → a' i < 16) : R6 a ||| R6 a' = R6 (fun i => a i ||| a' i) := by
  have f : ∀ a : Nat → Nat, R6 a = 2 ^ 4 * (2 ^ 4 * (2 ^ 4 * (2 ^ 4 * (2 ^ 4 * a 5 + a 4) + a 3) + a 2) + a 1) + a 0 := by
    intro a
    unfold R6
    rw [show (2 : Nat) ^ 4 = 16 from rfl]
    omega
  rw [f a, f a', f (fun i => a i ||| a' i), cat2_or (h 0 (by omega)) (h' 0 (by omega)), cat2_or (h 1 (by omega)) (h' 1 (by omega)), cat2_or (h 2 (by omega)) (h' 2 (by omega)), cat2_or (h 3 (by omega)) (h' 3 (by omega)), cat2_or (h 4 (by omega)) (h' 4 (by omega))]
theorem pk_or2 {a a' : Nat → Nat} {V V' U U' : Nat} (h : ∀ i, i < 6 → a i < 16) (h' : ∀ i, i < 6 → a' i < 16) (hV : V < 4096) (hV' : V' < 4096) : pk a V U ||| pk a' V' U' = pk (fun i => a i ||| a' i) (V ||| V') (U ||| U') := by
  have f : ∀ (a : Nat → Nat) (V U : Nat), pk a V U = 2 ^ 24 * (2 ^ 12 * U + V) + R6 a := by
    intro a V U
    unfold pk
    rw [show (2 : Nat) ^ 24 = 16777216 from rfl, show (2 : Nat) ^ 12 = 4096 from rfl]
    omega
  rw [f a, f a', f (fun i => a i ||| a' i), cat2_or (R6_lt h) (R6_lt h'), cat2_or hV hV', R6_or h h']
section CTERMS
variable {c m : St} {Q : St → Int → Prop} {g g' : Nat → Nat}
theorem t_minN {p q : Nat} (hp : p < 1000) (hq : q < 1000) (hQ : Q c ((min p q : Nat) : Int)) : f_JM_min (p : Int) (q : Int) c Q := by
  unfold f_JM_min
  refine ⟨⟨by omega, by omega⟩, ⟨by omega, by omega⟩, fun u => ?_, fun u => ?_⟩
  · rw [Nat.min_eq_right (by omega)] at hQ; exact hQ
  · rw [Nat.min_eq_left (by omega)] at hQ; exact hQ
theorem t_maxN {p q : Nat} (hp : p < 1000) (hq : q < 1000) (hQ : Q c ((max p q : Nat) : Int)) : f_JM_max (p : Int) (q : Int) c Q := by
  unfold f_JM_max
  refine ⟨⟨by omega, by omega⟩, ⟨by omega, by omega⟩, fun u => ?_, fun u => ?_⟩
  · rw [Nat.max_eq_right (by omega)] at hQ; exact hQ
  · rw [Nat.max_eq_left (by omega)] at hQ; exact hQ
theorem t_union (h : KV g) (h' : KV g') (hQ : Q c ((pkg (jn g g') : Nat) : Int)) : f_X3_union ((pkg g : Nat) : Int) ((pkg g' : Nat) : Int) c Q := by
  unfold f_X3_union
  refine ⟨lcmp_r _ _, fun u => ?_, fun u => ?_⟩
  · rw [lcmp_pkg0 h] at u
    rw [jn_0 u] at hQ; exact hQ
  · rw [lcmp_pkg0 h] at u
    refine ⟨lcmp_r _ _, fun v => ?_, fun v => ?_⟩
    · refine ⟨lcmp_r _ _, fun w => ?_, fun w => ?_⟩
      · rw [lcmp_pkg0 h'] at w
        obtain ⟨a1, a2, a3, -⟩ := KV_16 h u
        obtain ⟨b1, b2, b3, -⟩ := KV_16 h' w
        intro x1 e1
        have l1 := pkn_lt a1 a2 a3
        have l2 := pkn_lt b1 b2 b3
        have p63 : (2 : Nat) ^ 63 = 9223372036854775808 := rfl
        rw [pkg_1 u, pkg_1 w] at e1 ⊢
        rw [lor_nat (by omega) (by omega), pk_or2 a1 b1 a2 b2] at e1
        rw [e1]
        have oV : g 7 ||| g' 7 < 4096 := Nat.or_lt_two_pow (n := 12) a2 b2
        have oU : g 8 ||| g' 8 < 8192 := Nat.or_lt_two_pow (n := 13) a3 b3
        have o16 : ∀ i, i < 6 → (fun i => (fun i => g (1 + i)) i ||| (fun i => g' (1 + i)) i) i < 16 := fun i hi => Nat.or_lt_two_pow (n := 4) (a1 i hi) (b1 i hi)
        have step : ∀ (x n : Nat) (b : Nat → Nat), x < 3 → (∀ i, i < 6 → b i < 16) → f_X3_union_L30 Q n c ((pk (fun i => g (1 + i)) (g 7) (g 8) : Nat) : Int) ((pk (fun i => g' (1 + i)) (g' 7) (g' 8) : Nat) : Int) ((pk (va_up (va_up b x (min (g (1 + x)) (g' (1 + x)))) (3 + x) (max (g (1 + (3 + x))) (g' (1 + (3 + x))))) (g 7 ||| g' 7) (g 8 ||| g' 8) : Nat) : Int) ((x : Int) + 1) → f_X3_union_L30 Q (n + 1) c ((pk (fun i => g (1 + i)) (g 7) (g 8) : Nat) : Int) ((pk (fun i => g' (1 + i)) (g' 7) (g' 8) : Nat) : Int) ((pk b (g 7 ||| g' 7) (g 8 ||| g' 8) : Nat) : Int) (x : Int) := by
          intro x n b hx hb hn
          have q1 := a1 x (by omega)
          have q2 := b1 x (by omega)
          have q3 := a1 (3 + x) (by omega)
          have q4 := b1 (3 + x) (by omega)
          have k1 := KV_hi h u hx
          have k2 := KV_hi h' w hx
          rw [show 4 + x = 1 + (3 + x) by omega] at k1 k2
          unfold f_X3_union_L30
          refine ⟨⟨by omega, by omega⟩, fun z => by omega, fun _ => ?_⟩
          refine t_low a1 a2 a3 hx (t_low b1 b2 b3 hx (t_minN (by omega) (by omega) (t_high a1 a2 a3 hx (t_high b1 b2 b3 hx (t_maxN (by omega) (by omega) ?_)))))
          refine t_withRange hb oV oU hx (by omega) (by omega) (by omega) ?_
          exact hn
        have h3 : jn g g' 0 ≠ 0 := by rw [jn_there u w]; decide
        rw [pkg_1 h3, jn_7 u w, jn_8 u w] at hQ
        obtain ⟨b0, hb0⟩ : ∃ b0 : Nat → Nat, b0 = (fun i => (fun i => g (1 + i)) i ||| (fun i => g' (1 + i)) i) := ⟨_, rfl⟩
        rw [← hb0] at o16 ⊢
        obtain ⟨b1', hb1⟩ : ∃ b1' : Nat → Nat, b1' = va_up (va_up b0 0 (min (g (1 + 0)) (g' (1 + 0)))) (3 + 0) (max (g (1 + (3 + 0))) (g' (1 + (3 + 0)))) := ⟨_, rfl⟩
        obtain ⟨b2', hb2⟩ : ∃ b2' : Nat → Nat, b2' = va_up (va_up b1' 1 (min (g (1 + 1)) (g' (1 + 1)))) (3 + 1) (max (g (1 + (3 + 1))) (g' (1 + (3 + 1)))) := ⟨_, rfl⟩
        obtain ⟨b3', hb3⟩ : ∃ b3' : Nat → Nat, b3' = va_up (va_up b2' 2 (min (g (1 + 2)) (g' (1 + 2)))) (3 + 2) (max (g (1 + (3 + 2))) (g' (1 + (3 + 2)))) := ⟨_, rfl⟩
        have mm : ∀ x, x < 3 → min (g (1 + x)) (g' (1 + x)) < 16 ∧ max (g (1 + (3 + x))) (g' (1 + (3 + x))) < 16 := by
          intro x hx
          have q1 := a1 x (by omega)
          have q3 := a1 (3 + x) (by omega)
          have q4 := b1 (3 + x) (by omega)
          dsimp only at q1 q3 q4
          omega
        have p1 : ∀ i, i < 6 → b1' i < 16 := by rw [hb1]; exact up_16 (up_16 o16 (mm 0 (by omega)).1) (mm 0 (by omega)).2
        have p2 : ∀ i, i < 6 → b2' i < 16 := by rw [hb2]; exact up_16 (up_16 p1 (mm 1 (by omega)).1) (mm 1 (by omega)).2
        have fin : ∀ i, i < 6 → b3' i = (fun i => jn g g' (1 + i)) i := by
          intro i hi
          show b3' i = jn g g' (1 + i)
          have : i = 0 ∨ i = 1 ∨ i = 2 ∨ i = 3 ∨ i = 4 ∨ i = 5 := by omega
          rcases this with rfl | rfl | rfl | rfl | rfl | rfl
          · rw [jn_low u w (by decide), hb3, vu_ne _ _ (by decide), vu_ne _ _ (by decide), hb2, vu_ne _ _ (by decide), vu_ne _ _ (by decide), hb1, vu_ne _ _ (by decide), vu_eq]
          · rw [jn_low u w (by decide), hb3, vu_ne _ _ (by decide), vu_ne _ _ (by decide), hb2, vu_ne _ _ (by decide), vu_eq]
          · rw [jn_low u w (by decide), hb3, vu_ne _ _ (by decide), vu_eq]
          · rw [show jn g g' (1 + 3) = max (g (4 + 0)) (g' (4 + 0)) from jn_high u w (i := 0) (by decide), hb3, vu_ne _ _ (by decide), vu_ne _ _ (by decide), hb2, vu_ne _ _ (by decide), vu_ne _ _ (by decide), hb1]; exact vu_eq _ _ _
          · rw [show jn g g' (1 + 4) = max (g (4 + 1)) (g' (4 + 1)) from jn_high u w (i := 1) (by decide), hb3, vu_ne _ _ (by decide), vu_ne _ _ (by decide), hb2]; exact vu_eq _ _ _
          · rw [show jn g g' (1 + 5) = max (g (4 + 2)) (g' (4 + 2)) from jn_high u w (i := 2) (by decide), hb3]; exact vu_eq _ _ _
        show f_X3_union_L30 Q (99996 + 1 + 1 + 1 + 1) c _ _ _ ((0 : Nat) : Int)
        refine step 0 (99996 + 1 + 1 + 1) b0 (by decide) o16 ?_
        rw [← hb1]
        refine step 1 (99996 + 1 + 1) b1' (by decide) p1 ?_
        rw [← hb2]
        refine step 2 (99996 + 1) b2' (by decide) p2 ?_
        rw [← hb3, pk_congr fin]
        unfold f_X3_union_L30
        exact ⟨⟨by decide, by decide⟩, fun _ => hQ, fun z => absurd (by decide) z⟩
      · rw [lcmp_pkg0 h'] at w
        rw [jn_1 u w] at hQ; exact hQ
    · rw [lcmp_iff (pkg_lt h) (pkg_lt h')] at v
      have w : g' 0 ≠ 0 := by
        intro w
        rw [pkg_0 w, pkg_z h] at v
        exact u v
      obtain ⟨a1, a2, a3, -⟩ := KV_16 h u
      obtain ⟨b1, b2, b3, -⟩ := KV_16 h' w
      rw [pkg_1 u, pkg_1 w] at v
      obtain ⟨e1, e2, e3⟩ := pk_inj a1 b1 a2 b2 v
      have h3 : jn g g' 0 ≠ 0 := by rw [jn_there u w]; decide
      have : pkg (jn g g') = pkg g' := by
        rw [pkg_1 h3, pkg_1 w, jn_7 u w, jn_8 u w, e2, e3, Nat.or_self, Nat.or_self]
        refine pk_congr (fun i hi => ?_)
        show jn g g' (1 + i) = g' (1 + i)
        have ei := e1 i hi
        by_cases q : i < 3
        · rw [jn_low u w q, ei, Nat.min_self]
        · have := jn_high u w (i := i - 3) (by omega)
          rw [show 4 + (i - 3) = 1 + i by omega, ei, Nat.max_self] at this
          exact this
      rw [this] at hQ; exact hQ
theorem pkg_rng {o l u : Nat} (hg : g 0 ≠ 0) (ho : o < 3) (hlu : l ≤ u) : pkg (rng g o l u) = pk (va_up (va_up (fun i => g (1 + i)) o l) (3 + o) u) (g 7) (g 8) := by
  obtain ⟨r1, r2, r3⟩ := rng_at (g := g) ho hlu
  have h0 : rng g o l u 0 ≠ 0 := by rw [r1 0 (by omega) (by omega)]; exact hg
  rw [pkg_1 h0, r1 7 (by omega) (by omega), r1 8 (by omega) (by omega)]
  refine pk_congr (fun i hi => ?_)
  show rng g o l u (1 + i) = _
  by_cases q1 : i = 3 + o
  · rw [q1, vu_eq, show 1 + (3 + o) = 4 + o by omega, r3]
  · rw [vu_ne _ _ q1]
    by_cases q2 : i = o
    · rw [q2, vu_eq, r2]
    · rw [vu_ne _ _ q2, r1 _ (by omega) (by omega)]
theorem pkg_kfl {o b : Nat} (hg : g 0 ≠ 0) (hb : clr (g 7) (2 ^ (2 * o + b)) / 2 ^ (2 * o) % 4 ≠ 0) : pkg (kfl g o b) = pk (fun i => g (1 + i)) (clr (g 7) (2 ^ (2 * o + b))) (g 8) := by
  unfold kfl
  rw [if_neg hb]
  have h0 : va_up g 7 (clr (g 7) (2 ^ (2 * o + b))) 0 ≠ 0 := by rw [vu_ne _ _ (by decide)]; exact hg
  rw [pkg_1 h0, vu_eq, vu_ne _ _ (by decide)]
  refine pk_congr (fun i hi => ?_)
  show va_up g 7 _ (1 + i) = g (1 + i)
  rw [vu_ne _ _ (by omega)]
theorem pkg_kfl0 {o b : Nat} (hb : clr (g 7) (2 ^ (2 * o + b)) / 2 ^ (2 * o) % 4 = 0) : pkg (kfl g o b) = 0 := by
  unfold kfl
  rw [if_pos hb]; exact pkg_0 (noth_0 _)
theorem t_keep2 {o b : Nat} {w : Int} (h : KV g) (hg : g 0 ≠ 0) (ho : o < 6) (hb : b < 2) (hw : w = ((2 - b : Nat) : Int)) (hQ : Q c ((pkg (kfl g o b) : Nat) : Int)) : f_X3_keepingFlag ((pkg g : Nat) : Int) (o : Int) w c Q := by
  obtain ⟨a1, a2, a3, -⟩ := KV_16 h hg
  rw [pkg_1 hg, hw]
  refine t_keepingFlag a1 a2 a3 ho hb (fun q => ?_) (fun q => ?_)
  · rw [pkg_kfl hg q] at hQ; exact hQ
  · rw [pkg_kfl0 q] at hQ; exact hQ
theorem t_range2 {o l u : Nat} (h : KV g) (hg : g 0 ≠ 0) (ho : o < 3) (hl : l < 16) (hu : u < 16) (hQ : Q c ((pkg (rng g o l u) : Nat) : Int)) : f_X3_withRange ((pkg g : Nat) : Int) (o : Int) (l : Int) (u : Int) c Q := by
  obtain ⟨a1, a2, a3, -⟩ := KV_16 h hg
  by_cases q : l ≤ u
  · rw [pkg_1 hg]
    rw [pkg_rng hg ho q] at hQ
    exact t_withRange a1 a2 a3 ho hl hu q hQ
  · rw [pkg_0 (rng_no ho (by omega))] at hQ
    exact t_withRange0 ⟨by omega, by omega⟩ ⟨by omega, by omega⟩ (by omega) hQ
/-- a term narrows, in the class -/
theorem t_narrowed {D t k o v : Nat} (hD : D = 2 ∨ D = 20) (h : KV g) (hg : g 0 ≠ 0) (ht : t < 200) (hk : c (D + 10) t = (k : Int)) (ho : c (D + 11) t = (o : Int)) (hv : 2 ≤ k → c (D + 12) t = (v : Int)) (hT : TR (k : Int) (o : Int) (c (D + 12) t)) (hQ : Q c ((pkg (opN k o v g) : Nat) : Int)) : f_X8_narrowed (D + 9) (t : Int) ((pkg g : Nat) : Int) c Q := by
  have hT' : isT (D + 9) := by rcases hD with rfl | rfl; exact Or.inl rfl; exact Or.inr rfl
  obtain ⟨a1, a2, a3, -⟩ := KV_16 h hg
  unfold f_X8_narrowed
  rw [Int.toNat_natCast]
  show isT (D + 9) ∧ _
  rw [show D + 9 + 2 = D + 11 from rfl, show D + 9 + 3 = D + 12 from rfl, show D + 9 + 1 = D + 10 from rfl, ho]
  refine ⟨hT', by omega, by omega, ?_⟩
  rintro x1 rfl
  refine ⟨by omega, by omega, ?_⟩
  rintro x2 rfl
  unfold opN at hQ
  rcases hT with ⟨k1, k2, o1, o2⟩ | ⟨k1, k2, o1, o2, v1, v2⟩
  · rw [pkg_1 hg]
    refine t_lowx a1 a2 a3 (by omega) (fun r1 _ _ => t_highx a1 a2 a3 (by omega) (fun r2 _ _ => ?_))
    rw [← pkg_1 hg, hk]
    refine ⟨by omega, by omega, ⟨by omega, by omega⟩, fun q => ?_, fun q => ?_, fun q => by omega, fun q => by omega, fun q => by omega⟩
    · rw [if_pos (by omega)] at hQ
      exact t_keep2 h hg (by omega) (by decide) rfl hQ
    · rw [if_neg (by omega), if_pos (by omega)] at hQ
      exact t_keep2 h hg (by omega) (by decide) rfl hQ
  · rw [hv (by omega)] at v1 v2 ⊢
    have hi := KV_hi h hg (o := o) (by omega)
    have e3 : g (1 + (3 + o)) = g (4 + o) := by rw [show 1 + (3 + o) = 4 + o by omega]
    rw [pkg_1 hg]
    refine t_low a1 a2 a3 (by omega) (t_high a1 a2 a3 (by omega) ?_)
    rw [← pkg_1 hg, hk, e3]
    rw [if_neg (by omega), if_neg (by omega)] at hQ
    refine ⟨by omega, by omega, ⟨by omega, by omega⟩, fun q => by omega, fun q => by omega, fun q => ?_, fun q => ?_, fun q => ?_⟩
    · rw [if_pos (by omega)] at hQ
      by_cases qv : v = 0
      · rw [if_pos qv, pkg_0 (noth_0 _)] at hQ
        unfold f_JM_min
        refine ⟨⟨by omega, by omega⟩, ⟨by omega, by omega⟩, fun w => ?_, fun w => by omega⟩
        exact t_withRange0 ⟨by omega, by omega⟩ ⟨by omega, by omega⟩ (by first | omega | (dsimp only; omega)) hQ
      · rw [if_neg qv] at hQ
        rw [show (v : Int) - 1 = ((v - 1 : Nat) : Int) by omega]
        exact t_minN (by omega) (by omega) (t_range2 h hg (by omega) (by first | omega | (dsimp only; omega)) (by omega) hQ)
    · rw [if_neg (by omega), if_pos (by omega)] at hQ
      rw [show (v : Int) + 1 = ((v + 1 : Nat) : Int) by omega]
      exact t_maxN (by first | omega | (dsimp only; omega)) (by omega) (t_range2 h hg (by omega) (by first | omega | (dsimp only; omega)) (by omega) hQ)
    · rw [if_neg (by omega), if_neg (by omega)] at hQ
      exact t_maxN (by first | omega | (dsimp only; omega)) (by omega) (t_minN (by omega) (by omega) (t_range2 h hg (by omega) (by first | omega | (dsimp only; omega)) (by omega) hQ))
/-- the opposite of a term narrows, in the class -/
theorem t_narrowedO {D t k o v : Nat} (hD : D = 2 ∨ D = 20) (h : KV g) (hg : g 0 ≠ 0) (ht : t < 200) (hk : c (D + 10) t = (k : Int)) (ho : c (D + 11) t = (o : Int)) (hv : 2 ≤ k → c (D + 12) t = (v : Int)) (hT : TR (k : Int) (o : Int) (c (D + 12) t)) (hQ : Q c ((pkg (opO k o v g) : Nat) : Int)) : f_X8_narrowedByOpposite (D + 9) (t : Int) ((pkg g : Nat) : Int) c Q := by
  have hT' : isT (D + 9) := by rcases hD with rfl | rfl; exact Or.inl rfl; exact Or.inr rfl
  obtain ⟨a1, a2, a3, -⟩ := KV_16 h hg
  unfold f_X8_narrowedByOpposite
  rw [Int.toNat_natCast]
  show isT (D + 9) ∧ _
  rw [show D + 9 + 2 = D + 11 from rfl, show D + 9 + 3 = D + 12 from rfl, show D + 9 + 1 = D + 10 from rfl, ho]
  refine ⟨hT', by omega, by omega, ?_⟩
  rintro x1 rfl
  refine ⟨by omega, by omega, ?_⟩
  rintro x2 rfl
  unfold opO at hQ
  rcases hT with ⟨k1, k2, o1, o2⟩ | ⟨k1, k2, o1, o2, v1, v2⟩
  · rw [pkg_1 hg]
    refine t_lowx a1 a2 a3 (by omega) (fun r1 _ _ => t_highx a1 a2 a3 (by omega) (fun r2 _ _ => ?_))
    rw [← pkg_1 hg, hk]
    refine ⟨by omega, by omega, ⟨by omega, by omega⟩, fun q => ?_, fun q => ?_, fun q => by omega, fun q => by omega, fun q => by omega⟩
    · rw [if_pos (by omega)] at hQ
      exact t_keep2 h hg (by omega) (by decide) rfl hQ
    · rw [if_neg (by omega), if_pos (by omega)] at hQ
      exact t_keep2 h hg (by omega) (by decide) rfl hQ
  · rw [hv (by omega)] at v1 v2 ⊢
    have hi := KV_hi h hg (o := o) (by omega)
    have e3 : g (1 + (3 + o)) = g (4 + o) := by rw [show 1 + (3 + o) = 4 + o by omega]
    rw [pkg_1 hg]
    refine t_low a1 a2 a3 (by omega) (t_high a1 a2 a3 (by omega) ?_)
    rw [← pkg_1 hg, hk, e3]
    rw [if_neg (by omega), if_neg (by omega)] at hQ
    refine ⟨by omega, by omega, ⟨by omega, by omega⟩, fun q => by omega, fun q => by omega, fun q => ?_, fun q => ?_, fun q => ?_⟩
    · rw [if_pos (by omega)] at hQ
      exact t_maxN (by first | omega | (dsimp only; omega)) (by omega) (t_range2 h hg (by omega) (by first | omega | (dsimp only; omega)) (by omega) hQ)
    · rw [if_neg (by omega), if_pos (by omega)] at hQ
      exact t_minN (by omega) (by omega) (t_range2 h hg (by omega) (by first | omega | (dsimp only; omega)) (by omega) hQ)
    · rw [if_neg (by omega), if_neg (by omega)] at hQ
      have last : ∀ r1 : Nat, r1 < 16 → (r1 = if g (1 + o) = v then g (1 + o) + 1 else g (1 + o)) → f_X8_narrowedByOpposite_J135 Q c (v : Int) ((g (4 + o) : Nat) : Int) ((pkg g : Nat) : Int) (o : Int) (r1 : Int) := by
        intro r1 hr1 er1
        unfold f_X8_narrowedByOpposite_J135 f_X8_narrowedByOpposite_J151
        refine ⟨⟨by omega, by omega⟩, ⟨by omega, by omega⟩, fun w => ?_, fun w => ?_⟩
        · rw [if_neg (fun z => w (by omega)), ← er1, if_neg (fun z => w (by omega))] at hQ
          exact t_range2 h hg (by omega) hr1 (by omega) hQ
        · by_cases z : v = 0
          · rw [if_pos ⟨by omega, z⟩, pkg_0 (noth_0 _)] at hQ
            exact t_withRange0 ⟨by omega, by omega⟩ ⟨by omega, by omega⟩ (by omega) hQ
          · rw [if_neg (fun y => z y.2), ← er1, if_pos (show g (4 + o) = v by omega)] at hQ
            rw [show ((g (4 + o) : Nat) : Int) - 1 = ((g (4 + o) - 1 : Nat) : Int) by omega]
            exact t_range2 h hg (by omega) hr1 (by omega) hQ
      refine ⟨⟨by first | omega | (dsimp only; omega), by first | omega | (dsimp only; omega)⟩, ⟨by omega, by omega⟩, fun w => ?_, fun w => ?_⟩
      · exact last (g (1 + o)) (by omega) (by rw [if_neg (fun y => w (by first | omega | (dsimp only; omega)))])
      · have := last (g (1 + o) + 1) (by omega) (by rw [if_pos (by first | omega | (dsimp only at w; omega))])
        exact this
end CTERMS
