/-! ===== pure layer: a statement is added to both ===== -/
def pu (φ : Nat → Nat) (N S : Nat) : Nat → Nat := fun s => if s = N then S else φ s
section SADD
variable {c c' m m' : St} {D N S B nd ck ts tm tm' dp b ck' ts' : Nat} {φ : Nat → Nat} {e : Nat → Int} {w x y f w' x' y' : Int}
theorem pu_eq : pu φ N S N = S := by unfold pu; rw [if_pos rfl]
theorem pu_lt {s : Nat} (h : s < N) : pu φ N S s = φ s := by unfold pu; rw [if_neg (by omega)]
theorem lk_pu {v q : Int} (h : v = -1 ∨ (0 ≤ v ∧ v < N)) : lk (pu φ N S) e v q = lk φ e v q := by
  unfold lk
  by_cases g : v = -1
  · rw [if_pos g, if_pos g]
  · rw [if_neg g, if_neg g, pu_lt (by omega)]
theorem lp_pu {v : Int} (h : v = -1 ∨ (0 ≤ v ∧ v < N)) : lp (pu φ N S) v = lp φ v := by
  unfold lp
  by_cases g : v = -1
  · rw [if_pos g, if_pos g]
  · rw [if_neg g, if_neg g, pu_lt (by omega)]
theorem lk_N {q : Int} : lk (pu φ N S) e (N : Int) q = S := by
  unfold lk; rw [if_neg (by omega), Int.toNat_natCast, pu_eq]
theorem lp_N : lp (pu φ N S) (N : Int) = S := by
  unfold lp; rw [if_neg (by omega), Int.toNat_natCast, pu_eq]
theorem lk_n {q : Int} : lk φ e (-1) q = e q.toNat := by unfold lk; rw [if_pos rfl]
theorem lk_p {v q : Int} (h : v ≠ -1) : lk φ e v q = ((φ v.toNat : Nat) : Int) := by unfold lk; rw [if_neg h]
theorem lp_p {v : Int} (h : v ≠ -1) : lp φ v = ((φ v.toNat : Nat) : Int) := by unfold lp; rw [if_neg h]
theorem lp_n : lp φ (-1) = -1 := by unfold lp; rw [if_pos rfl]
theorem up_at {r r' : Nat → Int} {k : Nat} {v : Int} (h : r' = va_up r k v) : r' k = v := by rw [h]; exact vu_eq _ _ _
theorem up_ne {r r' : Nat → Int} {k j : Nat} {v : Int} (h : r' = va_up r k v) (hj : j ≠ k) : r' j = r j := by rw [h]; exact vu_ne _ _ hj
theorem AM_6 (h : AM m m' N b tm tm' w x y f) (hb : m 18 b = -1 ∨ (0 ≤ m 18 b ∧ m 18 b < N)) : m' 6 N = -1 ∧ (m 18 b ≠ -1 → m' 6 (m 18 b).toNat = N) ∧ ∀ s, s ≠ N → (m 18 b = -1 ∨ s ≠ (m 18 b).toNat) → m' 6 s = m 6 s := by
  obtain ⟨-, -, -, h6, -⟩ := h
  by_cases g : m 18 b = -1
  · rw [if_pos g] at h6
    exact ⟨up_at h6, fun q => absurd g q, fun s hs _ => up_ne h6 hs⟩
  · rw [if_neg g] at h6
    refine ⟨?_, fun _ => up_at h6, fun s hs hs2 => ?_⟩
    · rw [up_ne h6 (by omega)]; exact vu_eq _ _ _
    · rw [up_ne h6 (by omega)]; exact vu_ne _ _ hs
theorem AM_17 (h : AM m m' N b tm tm' w x y f) : (m 18 b = -1 → m' 17 b = N) ∧ (m 18 b ≠ -1 → m' 17 b = m 17 b) ∧ ∀ q, q ≠ b → m' 17 q = m 17 q := by
  obtain ⟨-, -, -, -, -, -, -, -, -, h17, -⟩ := h
  by_cases g : m 18 b = -1
  · rw [if_pos g] at h17
    exact ⟨fun _ => up_at h17, fun q => absurd g q, fun q hq => up_ne h17 hq⟩
  · rw [if_neg g] at h17
    exact ⟨fun q => absurd q g, fun _ => by rw [h17], fun q _ => by rw [h17]⟩
theorem AM_24 (h : AM m m' N b tm tm' w x y f) : (w = 4 → m' 24 x.toNat = N) ∧ ∀ k, (w = 4 → k ≠ x.toNat) → m' 24 k = m 24 k := by
  obtain ⟨-, -, -, -, -, -, -, -, -, -, -, h24, -⟩ := h
  by_cases g : w = 4
  · rw [if_pos g] at h24
    exact ⟨fun _ => up_at h24, fun k hk => up_ne h24 (hk g)⟩
  · rw [if_neg g] at h24
    exact ⟨fun q => absurd q g, fun k _ => by rw [h24]⟩
/-- the last statement of the open block -/
theorem SY_bf (hC : YC m N B) (hb : b < B) : m 18 b = -1 ∨ (0 ≤ m 18 b ∧ m 18 b < N) := by
  rcases hC b hb with ⟨-, q⟩ | ⟨-, -, -, q1, q2, -⟩
  · exact Or.inl q
  · exact Or.inr ⟨q1, q2⟩
theorem aYP (h : YP φ N S) : YP (pu φ N S) (N + 1) (S + 1) := by
  refine ⟨fun s hs => ?_, fun s t hst ht => ?_⟩
  · by_cases q : s = N
    · rw [q, pu_eq]; omega
    · rw [pu_lt (by omega)]; have := h.1 s (by omega); omega
  · by_cases q : t = N
    · rw [q, pu_eq, pu_lt (by omega)]; exact h.1 s (by omega)
    · rw [pu_lt (by omega), pu_lt (by omega)]; exact h.2 s t hst (by omega)
theorem aYA (hA : AM m m' N b tm tm' w x y f) (hb : b < B) (h : YA m N B) : YA m' (N + 1) B := by
  have h7 := hA.2.2.2.2.1
  intro s hs
  by_cases q : s = N
  · rw [q, up_at h7]; omega
  · rw [up_ne h7 q]; exact h s (by omega)
theorem aYB (hA : AM m m' N b tm tm' w x y f) (hb : b < B) (hYA : YA m N B) (hC : YC m N B) (h : YB m N) : YB m' (N + 1) := by
  have h7 := hA.2.2.2.2.1
  have h18 := hA.2.2.2.2.2.2.2.2.2.2.1
  have bf := SY_bf hC hb
  obtain ⟨n1, n2, n3⟩ := AM_6 hA bf
  intro s hs
  by_cases q : s = N
  · left
    rw [q, up_at h7, Int.toNat_natCast, up_at h18]
    exact ⟨n1, rfl⟩
  · have hs' : s < N := by omega
    rw [up_ne h7 q]
    have hA' := hYA s hs'
    by_cases g : m 18 b = -1
    · rw [n3 s q (Or.inl g)]
      rcases h s hs' with ⟨g1, g2⟩ | ⟨g1, g2, g3⟩
      · left
        refine ⟨g1, ?_⟩
        rw [up_ne h18]
        · exact g2
        · intro r; rw [r] at g2; omega
      · right
        refine ⟨g1, by omega, ?_⟩
        rw [up_ne h7 (by omega)]; exact g3
    · by_cases g2 : s = (m 18 b).toNat
      · right
        have := n2 g
        rw [← g2] at this
        rw [this, Int.toNat_natCast, up_at h7]
        refine ⟨by omega, by omega, ?_⟩
        rcases hC b hb with ⟨-, r⟩ | ⟨-, -, -, -, -, r, -⟩
        · exact absurd r g
        · rw [← g2] at r; exact r.symm
      · rw [n3 s q (Or.inr g2)]
        rcases h s hs' with ⟨g3, g4⟩ | ⟨g3, g4, g5⟩
        · left
          refine ⟨g3, ?_⟩
          rw [up_ne h18]
          · exact g4
          · intro r; rw [r] at g4; omega
        · right
          refine ⟨g3, by omega, ?_⟩
          rw [up_ne h7 (by omega)]; exact g5
theorem aYC (hA : AM m m' N b tm tm' w x y f) (hb : b < B) (hYA : YA m N B) (h : YC m N B) : YC m' (N + 1) B := by
  have h7 := hA.2.2.2.2.1
  have h18 := hA.2.2.2.2.2.2.2.2.2.2.1
  have bf := SY_bf h hb
  obtain ⟨n1, n2, n3⟩ := AM_6 hA bf
  obtain ⟨k1, k2, k3⟩ := AM_17 hA
  intro q hq
  by_cases g : q = b
  · right
    subst g
    rw [up_at h18, Int.toNat_natCast, up_at h7, n1]
    by_cases g2 : m 18 q = -1
    · rw [k1 g2, Int.toNat_natCast, up_at h7]
      exact ⟨by omega, by omega, rfl, by omega, by omega, rfl, rfl⟩
    · rw [k2 g2]
      rcases h q hq with ⟨-, r⟩ | ⟨r1, r2, r3, -⟩
      · exact absurd r g2
      · rw [up_ne h7 (by omega)]
        exact ⟨r1, by omega, r3, by omega, by omega, rfl, rfl⟩
  · rw [k3 q g, up_ne h18 g]
    rcases h q hq with r | ⟨r1, r2, r3, r4, r5, r6, r7⟩
    · exact Or.inl r
    · right
      rw [up_ne h7 (by omega), up_ne h7 (by omega)]
      refine ⟨r1, by omega, r3, r4, by omega, r6, ?_⟩
      rw [n3 _ (by omega)]
      · exact r7
      · rcases bf with u | u
        · exact Or.inl u
        · right
          intro v
          rcases h b hb with ⟨-, t⟩ | ⟨-, -, -, t4, t5, t6, -⟩
          · omega
          · rw [v, t6] at r6; omega
theorem aYD (hA : AM m m' N b tm tm' w x y f) (hb : b < B) (hw : w = 4 → x = ck) (hck : ck ≤ ck') (hF : YF m N B nd ck) (h : YD m N B nd ck) : YD m' (N + 1) B nd ck' := by
  obtain ⟨h3, -, -, -, h7, h8, h9, -, -, -, -, -, -, -, -, h15, h16, h19, -⟩ := id hA
  obtain ⟨-, c3⟩ := AM_24 hA
  refine ⟨fun q hq => ?_, fun s hs hk => ?_⟩
  · rw [h15, h16, h19]
    obtain ⟨g1, g2, g3⟩ := h.1 q hq
    refine ⟨g1, g2, ?_⟩
    rcases g3 with r | ⟨r1, r2, r3, r4⟩ | ⟨r1, r2, r3, r4, r5⟩
    · exact Or.inl r
    · right; left
      have := hF.1 (m 16 q).toNat (by omega)
      refine ⟨r1, r2, by omega, ?_⟩
      rw [c3 _ (fun g => by rw [hw g]; omega), up_ne h8 (by omega)]
      exact r4
    · right; right
      refine ⟨r1, r2, by omega, ?_, ?_⟩
      · rw [up_ne h3 (by omega)]; exact r4
      · rw [up_ne h8 (by omega), up_ne h9 (by omega)]; exact r5
  · rw [h15] at hk
    rw [h16]
    by_cases q : s = N
    · rw [q, up_at h7, Int.toNat_natCast] at hk ⊢
      obtain ⟨-, -, g3⟩ := h.1 b hb
      omega
    · rw [up_ne h7 q] at hk ⊢
      exact h.2 s (by omega) hk
theorem aYE (hA : AM m m' N b tm tm' w x y f) (hw3 : w = 3 → 0 ≤ x ∧ x < ts' ∧ f = -1) (hw4 : w = 4 → x = ck ∧ ck < ck' ∧ f = -1) (hck : ck ≤ ck') (hts : ts ≤ ts') (h : YE m N B ck ts) : YE m' (N + 1) B ck' ts' := by
  obtain ⟨h3, h4, -, -, h7, h8, h9, -, -, -, -, -, -, -, -, h15, h16, h19, -⟩ := id hA
  obtain ⟨c1, c3⟩ := AM_24 hA
  intro s hs
  rw [h15, h16]
  by_cases q : s = N
  · rw [q, up_at h3, up_at h4, up_at h8, up_at h9]
    refine ⟨fun g => ?_, fun g => ?_⟩
    · obtain ⟨g1, g2, g3⟩ := hw3 g
      exact ⟨g1, g2, Or.inl g3, Or.inl rfl⟩
    · obtain ⟨g1, g2, g3⟩ := hw4 g
      exact ⟨by omega, by omega, c1 g, Or.inl g3⟩
  · rw [up_ne h3 q, up_ne h4 q, up_ne h8 q, up_ne h9 q]
    obtain ⟨g1, g2⟩ := h s (by omega)
    refine ⟨fun g => ?_, fun g => ?_⟩
    · obtain ⟨r1, r2, r3⟩ := g1 g
      exact ⟨r1, by omega, r3⟩
    · obtain ⟨r1, r2, r3, r4⟩ := g2 g
      refine ⟨r1, by omega, ?_, r4⟩
      rw [c3 _ (fun u => by rw [(hw4 u).1]; omega)]
      exact r3
theorem aYF (hA : AM m m' N b tm tm' w x y f) (hw4 : w = 4 → x = ck ∧ ck' = ck + 1) (hw : w ≠ 4 → ck' = ck) (h : YF m N B nd ck) : YF m' (N + 1) B nd ck' := by
  obtain ⟨h3, h4, -, -, h7, h8, h9, -, -, -, -, -, -, -, -, h15, h16, h19, -, -, h22, -⟩ := id hA
  obtain ⟨c1, c3⟩ := AM_24 hA
  refine ⟨fun k hk => ?_, fun v hv => ?_⟩
  · have old : k < ck → 0 ≤ m' 24 k ∧ m' 24 k < ((N + 1 : Nat) : Int) ∧ m' 3 (m' 24 k).toNat = 4 ∧ m' 4 (m' 24 k).toNat = k := by
      intro hk'
      rw [c3 k (fun g => by rw [(hw4 g).1]; omega)]
      obtain ⟨r1, r2, r3, r4⟩ := h.1 k hk'
      rw [up_ne h3 (by omega), up_ne h4 (by omega)]
      exact ⟨r1, by omega, r3, r4⟩
    by_cases g : w = 4
    · obtain ⟨g1, g2⟩ := hw4 g
      by_cases q : k = ck
      · have e1 := c1 g
        rw [g1, Int.toNat_natCast, ← q] at e1
        rw [e1, Int.toNat_natCast, up_at h3, up_at h4]
        exact ⟨by omega, by omega, g, by omega⟩
      · exact old (by omega)
    · rw [hw g] at hk
      exact old hk
  · rw [h22, h15, h19]
    exact h.2 v hv
theorem YW_pop (h : YW m N B dp) : YW m N B (dp - 1) := by
  obtain ⟨δ, h, w1, w2⟩ := h
  exact ⟨δ, h, fun d hd => w1 d (by omega), w2⟩
theorem aYW (hA : AM m m' N b tm tm' w x y f) (hd : 0 < dp) (hcur : m 25 (dp - 1) = b) (hw4 : w = 4 → x = ck) (hYF : YF m N B nd ck) (hYA : YA m N B) (hYB : YB m N) (hYC : YC m N B) (hYD : YD m N B nd ck) (hYE : YE m N B ck ts) (hw3 : w = 3 → (ts : Int) ≤ x) (hYS : YS m e N B nd dp) : YW m' (N + 1) B dp := by
  obtain ⟨h3, h4, -, h6, h7, h8, h9, -, -, -, -, h24, -, -, -, h15, h16, h19, -, -, -, -, h25⟩ := id hA
  obtain ⟨s0, s1, s2, s3, s4, s5, δ, h, w1, w2, w3, w4, w5⟩ := hYS
  have hbB : b < B := by have := (s1 (dp - 1) (by omega)).2.1; omega
  have own : ∀ q : Nat, m 15 q = 2 → q < B → 0 ≤ m 16 q ∧ m 16 q < N ∧ m 3 (m 16 q).toNat = 3 := by
    intro q hq hqB
    rcases (hYD.1 q hqB).2.2 with ⟨u, -⟩ | ⟨u, -⟩ | ⟨-, u1, u2, u3, -⟩
    · omega
    · omega
    · exact ⟨u1, u2, u3⟩
  have noop : ∀ q : Nat, m 15 q = 2 → q < B → (∃ d, d < dp ∧ m 25 d = (q : Int)) → ∃ d, d + 1 < dp ∧ m 25 (d + 1) = (q : Int) ∧ m 7 (m 16 q).toNat = m 25 d := by
    rintro q hq hqB ⟨d, d1, d2⟩
    cases d with
    | zero =>
      exfalso
      have := (s3 hd).1
      rw [d2, Int.toNat_natCast] at this
      omega
    | succ d =>
      refine ⟨d, d1, d2, ?_⟩
      have o := own q hq hqB
      have x1 := s1 d (by omega)
      rcases s4 d d1 with ⟨u1, u2⟩ | ⟨u1, u2⟩
      · rw [d2, Int.toNat_natCast] at u2
        rcases hYC (m 25 d).toNat (by omega) with ⟨-, v⟩ | ⟨-, -, -, -, -, v, -⟩
        · rw [v] at u2; omega
        · rw [u2, v]; omega
      · rw [d2, Int.toNat_natCast] at u1; omega
  obtain ⟨h', p1, p2⟩ : ∃ h' : Nat → Nat, (∀ q : Nat, (∃ d, d < dp ∧ m 25 d = (q : Int)) → h' q = N + 1) ∧ ∀ q : Nat, ¬ (∃ d, d < dp ∧ m 25 d = (q : Int)) → h' q = h q := ⟨fun q => @ite Nat (∃ d, d < dp ∧ m 25 d = (q : Int)) (Classical.propDecidable _) (N + 1) (h q), fun q hq => if_pos hq, fun q hq => if_neg hq⟩
  have opw : ∀ q : Nat, (∃ d, d < dp ∧ m 25 d = (q : Int)) → h q = N := by
    rintro q ⟨d, d1, d2⟩
    have := (w1 d d1).2
    rw [d2, Int.toNat_natCast] at this
    exact this
  have hle : ∀ q : Nat, q < B → h q ≤ h' q ∧ h' q ≤ N + 1 := by
    intro q hq
    have := (w2 q hq).2.2.1
    by_cases o : ∃ d, d < dp ∧ m 25 d = (q : Int)
    · rw [p1 q o]; omega
    · rw [p2 q o]; omega
  have mono : ∀ d d', d < dp → d' < dp → m 25 d = m 25 d' → d = d' := by
    intro d d' u1 u2 u3
    rcases Nat.lt_trichotomy d d' with g | g | g
    · have := s2 d d' g u2; omega
    · exact g
    · have := s2 d' d g u1; omega
  refine ⟨δ, h', fun d hdd => ?_, fun q hq => ?_, fun s hs => ?_, fun s hs k1 k2 => ?_, fun s t hst ht k1 k2 => ?_⟩
  · rw [h25]
    have x1 := s1 d hdd
    exact ⟨(w1 d hdd).1, p1 _ ⟨d, hdd, by omega⟩⟩
  · obtain ⟨q1, q2, q3, q4, q5, q6⟩ := w2 q hq
    refine ⟨q1, q2, (hle q hq).2, fun g => ?_, fun g => ?_, fun g => ?_⟩
    rotate_left
    · rw [h15] at g
      have o1 := own q g hq
      rw [h16, h19, up_ne h7 (by omega)]; exact q5 g
    · rw [h15] at g
      have o1 : 0 ≤ m 16 q ∧ m 16 q < ck := by
        rcases (hYD.1 q hq).2.2 with ⟨u, -⟩ | ⟨-, u1, u2, -⟩ | ⟨u, -⟩
        · omega
        · exact ⟨u1, u2⟩
        · omega
      have o2 := hYF.1 (m 16 q).toNat (by omega)
      have e24 : m' 24 (m 16 q).toNat = m 24 (m 16 q).toNat := by
        rw [h24]
        by_cases gw : w = 4
        · have := hw4 gw
          rw [if_pos gw, vu_ne _ _ (by omega)]
        · rw [if_neg gw]
      rw [h16, h19, e24, up_ne h7 (by omega)]; exact q6 g
    rw [h15] at g
    rw [h16]
    obtain ⟨r1, r2, r3⟩ := q4 g
    have o1 := own q g hq
    have e7 : m' 7 (m 16 q).toNat = m 7 (m 16 q).toNat := up_ne h7 (by omega)
    rw [e7]
    have a7 := hYA (m 16 q).toNat (by omega)
    refine ⟨r1, ?_, fun g6 => ?_⟩
    · by_cases o : ∃ d, d < dp ∧ m 25 d = (q : Int)
      · obtain ⟨d, d1, d2, d3⟩ := noop q g hq o
        rw [p1 q o, p1 (m 7 (m 16 q).toNat).toNat ⟨d, by omega, by omega⟩]
        exact Nat.le_refl _
      · rw [p2 q o]
        exact Nat.le_trans r2 (hle _ (by omega)).1
    · have e6 : m' 6 (m 16 q).toNat = if m 18 b ≠ -1 ∧ (m 16 q).toNat = (m 18 b).toNat then (N : Int) else m 6 (m 16 q).toNat := by
        rw [h6]
        by_cases u : m 18 b = -1
        · rw [if_pos u, if_neg (fun v => v.1 u), vu_ne _ _ (by omega)]
        · rw [if_neg u]
          by_cases u2 : (m 16 q).toNat = (m 18 b).toNat
          · rw [if_pos ⟨u, u2⟩, u2, vu_eq]
          · rw [if_neg (fun v => u2 v.2), vu_ne _ _ u2, vu_ne _ _ (by omega)]
      by_cases g7 : m 18 b ≠ -1 ∧ (m 16 q).toNat = (m 18 b).toNat
      · have o : ¬ ∃ d, d < dp ∧ m 25 d = (q : Int) := by
          intro o
          obtain ⟨d, d1, d2, d3⟩ := noop q g hq o
          have x2 := s2 d (dp - 1) (by omega) (by omega)
          rcases hYC b hbB with ⟨-, v⟩ | ⟨-, -, -, -, -, v, -⟩
          · exact g7.1 v
          · rw [g7.2, v] at d3
            omega
        rw [e6, if_pos g7, p2 q o]
        omega
      · rw [e6, if_neg g7] at g6 ⊢
        have r3 := r3 g6
        by_cases o : ∃ d, d < dp ∧ m 25 d = (q : Int)
        · have x1 := opw q o
          rcases hYB (m 16 q).toNat (by omega) with ⟨u, -⟩ | ⟨-, u, -⟩
          · exact absurd u g6
          · clear o; omega
        · rw [p2 q o]; exact r3
  · by_cases g : s = N
    · rw [g, up_at h7, Int.toNat_natCast, p1 b ⟨dp - 1, by omega, hcur⟩]
      omega
    · rw [up_ne h7 g]
      have a7 := hYA s (by omega)
      exact Nat.lt_of_lt_of_le (w3 s (by omega)) (hle _ (by omega)).1
  · rw [h15] at k1
    rw [h16] at k2 ⊢
    by_cases g : s = N
    · rw [g, up_at h7, Int.toNat_natCast] at k1 k2 ⊢
      have o1 := own b k1 hbB
      rw [up_ne h9 (by omega)] at k2
      rw [up_ne h8 (by omega)]
      obtain ⟨-, -, y1, y2⟩ := (hYE (m 16 b).toNat (by omega)).1 o1.2.2
      have y3 : m 8 (m 16 b).toNat ≠ -1 ∧ m 9 (m 16 b).toNat ≠ m 8 (m 16 b).toNat := by
        rcases y2 with v | ⟨-, -, -, -, v1, v2⟩
        · omega
        · exact ⟨v1, v2⟩
      rcases y1 with v | ⟨v1, v2, v3, v4⟩
      · exact absurd v y3.1
      · have o : ¬ ∃ d, d < dp ∧ m 25 d = (((m 8 (m 16 b).toNat).toNat : Nat) : Int) := by
          intro o
          obtain ⟨d, d1, d2, d3⟩ := noop _ v3 (by omega) o
          obtain ⟨d', d1', d2', d3'⟩ := noop b k1 hbB ⟨dp - 1, by omega, hcur⟩
          rw [v4, Int.toNat_natCast, d3'] at d3
          have := mono d' d (by omega) (by omega) d3
          subst this
          rw [d2'] at d2
          omega
        rw [p2 _ o]
        have := (w2 (m 8 (m 16 b).toNat).toNat (by omega)).2.2.1
        omega
    · rw [up_ne h7 g] at k1 k2 ⊢
      have a7 := hYA s (by omega)
      have o1 := own (m 7 s).toNat k1 (by omega)
      rw [up_ne h9 (by omega)] at k2
      rw [up_ne h8 (by omega)]
      have x4 := w4 s (by omega) k1 k2
      by_cases o : ∃ d, d < dp ∧ m 25 d = (((m 8 (m 16 (m 7 s).toNat).toNat).toNat : Nat) : Int)
      · have := opw _ o
        clear o; omega
      · rw [p2 _ o]; exact x4
  · by_cases g : t = N
    · rw [g, up_at h3] at k2
      rw [up_ne h3 (by omega)] at k1
      rw [g, up_at h4, up_ne h4 (by omega)]
      have e1 := hw3 k2
      have e2 := (hYE s (by omega)).1 k1
      omega
    · rw [up_ne h3 (by omega)] at k1
      rw [up_ne h3 g] at k2
      rw [up_ne h4 (by omega), up_ne h4 g]
      exact w5 s t hst (by omega) k1 k2
theorem aYS (hA : AM m m' N b tm tm' w x y f) (hd : 0 < dp) (hcur : m 25 (dp - 1) = b) (hw4 : w = 4 → x = ck) (hYF : YF m N B nd ck) (hYA : YA m N B) (hYB : YB m N) (hYC : YC m N B) (hYE : YE m N B ck ts) (hw3 : w = 3 → (ts : Int) ≤ x) (hYD : YD m N B nd ck) (h : YS m e N B nd dp) : YS m' e (N + 1) B nd dp := by
  have hW := aYW hA hd hcur hw4 hYF hYA hYB hYC hYD hYE hw3 h
  obtain ⟨-, -, -, -, -, -, -, -, -, -, h18, -, -, -, -, h15, h16, h19, -, -, h22, -, h25⟩ := id hA
  obtain ⟨-, c3⟩ := AM_24 hA
  obtain ⟨s0, s1, s2, s3, s4, s5, s6⟩ := h
  refine ⟨s0, ?_, ?_, ?_, ?_, ?_, hW⟩
  · rw [h25, h19]; exact s1
  · rw [h25]; exact s2
  · rw [h25, h15, h22]; exact s3
  · intro d hdp
    rw [h25, h15, h16]
    have o1 := s2 d (dp - 1) (by omega) (by omega)
    have o2 := s1 d (by omega)
    have o3 := s1 (d + 1) (by omega)
    rw [up_ne h18 (by omega)]
    rcases s4 d hdp with g | ⟨g1, g2⟩
    · exact Or.inl g
    · right
      refine ⟨g1, ?_⟩
      rw [c3]
      · exact g2
      · intro u
        rw [hw4 u]
        have := (hYD.1 (m 25 (d + 1)).toNat (by omega)).2.2
        omega
  · rw [h15, h25]; exact s5
end SADD
