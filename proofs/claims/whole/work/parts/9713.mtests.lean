/-! ===== pure layer: the reference opens and leaves tests while it walks ===== -/
section MTESTS
variable {σ : St} {d s t n : Nat} {g g1 g2 : Nat → Nat} {k o v : Nat → Nat}
theorem r_falseOf {Q : St → Int → Prop} (h : Q σ ((9 + 18 * d : Nat) : Int)) : f_X10_falseOf (d : Int) σ Q := by
  unfold f_X10_falseOf
  rw [show (9 : Int) + 18 * (d : Int) = ((9 + 18 * d : Nat) : Int) by omega]
  exact h
theorem r_firstOf {Q : St → Int → Prop} (h : Q σ ((18 + 18 * d : Nat) : Int)) : f_X10_firstOf (d : Int) σ Q := by
  unfold f_X10_firstOf
  rw [show (18 : Int) + 18 * (d : Int) = ((18 + 18 * d : Nat) : Int) by omega]
  exact h
theorem r_opensTest {ch b : Nat} (hd : d < 6) (h66 : σ 0 66 = (d : Int)) (hs : s < 401) (h10 : σ 10 s = (t : Int)) (h11 : σ 11 s = ((t + n : Nat) : Int)) (hn : t + n ≤ 401) (hT : MTr σ k o v t n) (hg : KV g) (hg0 : g 0 = 1) (mg : MRg σ 37 0 g) (h4 : σ 4 s = (ch : Int)) (hch : ch < 16) (h8 : σ 8 s = (b : Int)) (hb : b < 64) : ∃ m1 : St, (∀ q, q ≠ 0 → q ≠ 37 → q ≠ 38 → q ≠ 39 → q ≠ 40 → q ≠ 43 → q ≠ 44 → m1 q = σ q) ∧ (∀ i, i ≠ 48 → i ≠ 49 → i ≠ 66 → m1 0 i = σ 0 i) ∧ m1 0 48 = σ 17 b ∧ m1 0 66 = ((d + 1 : Nat) : Int) ∧ (m1 38 = va_up (σ 38) d (s : Int) ∧ m1 43 = va_up (σ 43) d 0 ∧ m1 39 = va_up (σ 39) d (σ 0 67) ∧ m1 40 = va_up (σ 40) d (σ 0 68)) ∧ m1 44 = va_up (σ 44) ch (((tpF k o v n t g 0 : Nat) : Int) + 2 * ((fpF k o v n t g 0 : Nat) : Int)) ∧ (∀ i, 9 ≤ i → i < 9 + 18 * d → m1 37 i = σ 37 i) ∧ MRg m1 37 0 (tpF k o v n t g) ∧ MRg m1 37 (9 + 18 * d) (fpF k o v n t g) ∧ ∀ Q : St → Prop, Q m1 → f_X10_opensTest (s : Int) σ Q := by
  obtain ⟨m5, e5⟩ : ∃ m5 : St, m5 = sset (sset (sset (sset (sset σ 0 66 ((d : Int) + 1)) 38 d (s : Int)) 43 d 0) 39 d (σ 0 67)) 40 d (σ 0 68) := ⟨_, rfl⟩
  have r5 : ∀ q, q ≠ 0 → q ≠ 38 → q ≠ 39 → q ≠ 40 → q ≠ 43 → m5 q = σ q := fun q a1 a2 a3 a4 a5 => by rw [e5, sset_row _ _ _ a4, sset_row _ _ _ a3, sset_row _ _ _ a5, sset_row _ _ _ a2, sset_row _ _ _ a1]
  have p5 : ∀ i, i ≠ 66 → m5 0 i = σ 0 i := fun i hi => by rw [e5, sset_row _ _ _ (by decide), sset_row _ _ _ (by decide), sset_row _ _ _ (by decide), sset_row _ _ _ (by decide), sset_place _ _ _ hi]
  have z66 : m5 0 66 = (d : Int) + 1 := by rw [e5, sset_row _ _ _ (by decide), sset_row _ _ _ (by decide), sset_row _ _ _ (by decide), sset_row _ _ _ (by decide), sset_at, vu_eq]
  have z38 : m5 38 = va_up (σ 38) d (s : Int) := by rw [e5, sset_row _ _ _ (by decide), sset_row _ _ _ (by decide), sset_row _ _ _ (by decide), sset_at, sset_row _ _ _ (by decide)]
  have z43 : m5 43 = va_up (σ 43) d 0 := by rw [e5, sset_row _ _ _ (by decide), sset_row _ _ _ (by decide), sset_at, sset_row _ _ _ (by decide), sset_row _ _ _ (by decide)]
  have z39 : m5 39 = va_up (σ 39) d (σ 0 67) := by rw [e5, sset_row _ _ _ (by decide), sset_at, sset_row _ _ _ (by decide), sset_row _ _ _ (by decide), sset_row _ _ _ (by decide)]
  have z40 : m5 40 = va_up (σ 40) d (σ 0 68) := by rw [e5, sset_at, sset_row _ _ _ (by decide), sset_row _ _ _ (by decide), sset_row _ _ _ (by decide), sset_row _ _ _ (by decide)]
  have s5 : ∀ q, 10 ≤ q → q ≤ 37 → m5 q = σ q := fun q a b => r5 q (by omega) (by omega) (by omega) (by omega) (by omega)
  obtain ⟨m6, i1, i2, i3, i4⟩ := r_falsePart (m := m5) (a := 9 + 18 * d) (x := s) (k := k) (o := o) (v := v) hs (by omega) (by omega) (by rw [s5 10 (by decide) (by decide)]; exact h10) (by rw [s5 11 (by decide) (by decide)]; exact h11) hn (fun s' u w => by rw [s5 12 (by decide) (by decide), s5 13 (by decide) (by decide), s5 14 (by decide) (by decide)]; exact hT s' u w) hg hg0 (MRg_keep mg (fun i hi => by rw [s5 37 (by decide) (by decide)]))
  obtain ⟨m7, j1, j2, j3, j4⟩ := r_truePart (m := m6) (a := 132) (x := s) (k := k) (o := o) (v := v) hs (by decide) (by decide) (by rw [i1 10 (by decide), s5 10 (by decide) (by decide)]; exact h10) (by rw [i1 11 (by decide), s5 11 (by decide) (by decide)]; exact h11) hn (fun s' u w => by rw [i1 12 (by decide), i1 13 (by decide), i1 14 (by decide), s5 12 (by decide) (by decide), s5 13 (by decide) (by decide), s5 14 (by decide) (by decide)]; exact hT s' u w) hg (MRg_keep mg (fun i hi => by rw [i2 (0 + i) (by omega), s5 37 (by decide) (by decide)]))
  have v7 : m7 37 132 + 2 * m7 37 (9 + 18 * d) = ((tpF k o v n t g 0 : Nat) : Int) + 2 * ((fpF k o v n t g 0 : Nat) : Int) := by rw [j3.1, j2 (9 + 18 * d) (by omega), i3.1]
  obtain ⟨m8, e8⟩ : ∃ m8 : St, m8 = sset m7 44 ch (((tpF k o v n t g 0 : Nat) : Int) + 2 * ((fpF k o v n t g 0 : Nat) : Int)) := ⟨_, rfl⟩
  have r8 : ∀ q, q ≠ 44 → m8 q = m7 q := fun q hq => by rw [e8, sset_row _ _ _ hq]
  obtain ⟨m9, l1, l2, l3, l4⟩ := r_copies (m := m8) (a0 := 37) (a1 := 132) (a2 := 37) (a3 := 0) (by unfold isIA; decide) (by unfold isIA; decide) (by decide) (by decide) (by omega)
  have b0 : ∀ q, q ≠ 37 → q ≠ 44 → m9 q = m5 q := fun q a b => by rw [l1 q a, r8 q b, j1 q a, i1 q a]
  obtain ⟨m1, e1⟩ : ∃ m1 : St, m1 = sset (sset m9 0 49 (b : Int)) 0 48 (σ 17 b) := ⟨_, rfl⟩
  have r1 : ∀ q, q ≠ 0 → m1 q = m9 q := fun q hq => by rw [e1, sset_row _ _ _ hq, sset_row _ _ _ hq]
  refine ⟨m1, fun q a1 a2 a3 a4 a5 a6 a7 => by rw [r1 q a1, b0 q a2 a7, r5 q a1 a3 a4 a5 a6], fun i a1 a2 a3 => by rw [e1, sset_place _ _ _ a1, sset_place _ _ _ a2, b0 0 (by decide) (by decide), p5 i a3], by rw [e1, sset_at, vu_eq], ?_, ⟨by rw [r1 38 (by decide), b0 38 (by decide) (by decide), z38], by rw [r1 43 (by decide), b0 43 (by decide) (by decide), z43], by rw [r1 39 (by decide), b0 39 (by decide) (by decide), z39], by rw [r1 40 (by decide), b0 40 (by decide) (by decide), z40]⟩, ?_, fun i a1 a2 => ?_, ?_, ?_, fun Q hQ => ?_⟩
  · rw [e1, sset_place _ _ _ (by decide), sset_place _ _ _ (by decide), b0 0 (by decide) (by decide), z66]; omega
  · rw [r1 44 (by decide), l1 44 (by decide), e8, sset_at, j1 44 (by decide), i1 44 (by decide), r5 44 (by decide) (by decide) (by decide) (by decide) (by decide)]
  · rw [r1 37 (by decide), l2 i (by omega), r8 37 (by decide), j2 i (by omega), i2 i (by omega), s5 37 (by decide) (by decide)]
  · exact MRg_keep (m := m9) (MRg_copy (m := m8) (MRg_keep (m := m7) j3 (fun i hi => by rw [r8 37 (by decide)])) l3) (fun i hi => by rw [r1 37 (by decide)])
  · refine MRg_keep (m := m6) i3 (fun i hi => ?_)
    rw [r1 37 (by decide), l2 (9 + 18 * d + i) (by omega), r8 37 (by decide), j2 (9 + 18 * d + i) (by omega)]
  · have j4' : ∀ Q : St → Prop, Q m7 → f_X10_truePart (s : Int) 132 m6 Q := j4
    have l4' : ∀ Q : St → Prop, Q m9 → f_X10_copies 37 132 37 0 m8 Q := l4
    unfold f_X10_opensTest
    rintro x1 rfl
    rintro σ1 rfl
    rw [h66]
    refine ⟨by omega, by omega, ?_⟩
    rintro σ2 rfl
    refine ⟨by omega, by omega, ?_⟩
    rintro σ3 rfl
    refine ⟨by omega, by omega, ?_⟩
    rintro σ4 rfl
    refine ⟨by omega, by omega, ?_⟩
    rintro σ5 rfl
    have q67 : ∀ (j : Nat) (w : Int), sset (sset (sset σ 0 66 ((d : Int) + 1)) 38 j w) 43 j 0 0 67 = σ 0 67 := fun j w => by rw [sset_row _ _ _ (by decide), sset_row _ _ _ (by decide), sset_place _ _ _ (by decide)]
    have q68 : ∀ (j : Nat) (w y : Int), sset (sset (sset (sset σ 0 66 ((d : Int) + 1)) 38 j w) 43 j 0) 39 j y 0 68 = σ 0 68 := fun j w y => by rw [sset_row _ _ _ (by decide), sset_row _ _ _ (by decide), sset_row _ _ _ (by decide), sset_place _ _ _ (by decide)]
    rw [Int.toNat_natCast, q67, q68, ← e5]
    refine r_falseOf (i4 _ (j4' _ ⟨by omega, by omega, r_falseOf ?_⟩))
    rw [Int.toNat_natCast, Int.toNat_natCast, j1 4 (by decide), i1 4 (by decide), r5 4 (by decide) (by decide) (by decide) (by decide) (by decide), h4]
    refine ⟨by omega, by omega, by omega, by omega, ?_⟩
    rintro σ10 rfl
    rw [Int.toNat_natCast, v7, ← e8]
    refine l4' _ ⟨by omega, by omega, ?_⟩
    rintro σ12 rfl
    rw [b0 8 (by decide) (by decide), r5 8 (by decide) (by decide) (by decide) (by decide) (by decide), h8]
    have q49 : sset m9 0 49 (b : Int) 0 49 = (b : Int) := by rw [sset_at, vu_eq]
    rw [q49]
    refine ⟨by omega, by omega, ?_⟩
    rintro σ13 rfl
    rw [Int.toNat_natCast, sset_row _ _ _ (by decide), b0 17 (by decide) (by decide), r5 17 (by decide) (by decide) (by decide) (by decide) (by decide), ← e1]
    exact hQ
/-- the parts of a test come together -/
theorem r_j146 (hd : d < 6) (hs : s < 401) (h66 : σ 0 66 = ((d + 1 : Nat) : Int)) (v1 : KV g1) (v2 : KV g2) (b1 : g1 9 < 65536 ∧ g1 10 < 65536) (b2 : g2 9 < 65536 ∧ g2 10 < 65536) (mg2 : MRg σ 37 0 g2) (mg1 : MRg σ 37 (18 + 18 * d) g1) (h67 : σ 0 67 = ((g2 9 : Nat) : Int)) (h68 : σ 0 68 = ((g2 10 : Nat) : Int)) (h41 : σ 41 d = ((g1 9 : Nat) : Int)) (h42 : σ 42 d = ((g1 10 : Nat) : Int)) : ∃ m1 : St, (∀ q, q ≠ 0 → q ≠ 37 → m1 q = σ q) ∧ (∀ i, i ≠ 48 → i ≠ 49 → i ≠ 66 → i ≠ 67 → i ≠ 68 → m1 0 i = σ 0 i) ∧ (∀ i, 9 ≤ i → m1 37 i = σ 37 i) ∧ m1 0 66 = (d : Int) ∧ m1 0 48 = (if jn g2 g1 0 = 1 then σ 6 s else -1) ∧ MRg m1 37 0 (jn g2 g1) ∧ m1 0 67 = ((jn g2 g1 9 : Nat) : Int) ∧ m1 0 68 = ((jn g2 g1 10 : Nat) : Int) ∧ ∀ Q : St → Prop, Q m1 → f_X10_leavesTest_J146 Q σ (d : Int) (s : Int) := by
  have jv := jn_KV v2 v1
  have fin : ∀ m2 : St, (∀ q, q ≠ 0 → q ≠ 37 → m2 q = σ q) → (∀ i, i ≠ 67 → i ≠ 68 → m2 0 i = σ 0 i) → (∀ i, 9 ≤ i → m2 37 i = σ 37 i) → MRg m2 37 0 (jn g2 g1) → m2 0 67 = ((jn g2 g1 9 : Nat) : Int) → m2 0 68 = ((jn g2 g1 10 : Nat) : Int) → ∃ m1 : St, (∀ q, q ≠ 0 → q ≠ 37 → m1 q = σ q) ∧ (∀ i, i ≠ 48 → i ≠ 49 → i ≠ 66 → i ≠ 67 → i ≠ 68 → m1 0 i = σ 0 i) ∧ (∀ i, 9 ≤ i → m1 37 i = σ 37 i) ∧ m1 0 66 = (d : Int) ∧ m1 0 48 = (if jn g2 g1 0 = 1 then σ 6 s else -1) ∧ MRg m1 37 0 (jn g2 g1) ∧ m1 0 67 = ((jn g2 g1 9 : Nat) : Int) ∧ m1 0 68 = ((jn g2 g1 10 : Nat) : Int) ∧ ∀ Q : St → Prop, Q m1 → f_X10_leavesTest_J253 Q m2 (s : Int) := by
    intro m2 a1 a2 a3 a4 a5 a6
    obtain ⟨m1, e1⟩ : ∃ m1 : St, m1 = sset (sset (sset m2 0 66 (d : Int)) 0 49 (σ 7 s)) 0 48 (if jn g2 g1 0 = 1 then σ 6 s else -1) := ⟨_, rfl⟩
    have r1 : ∀ q, q ≠ 0 → m1 q = m2 q := fun q hq => by rw [e1, sset_row _ _ _ hq, sset_row _ _ _ hq, sset_row _ _ _ hq]
    have p1 : ∀ i, i ≠ 48 → i ≠ 49 → i ≠ 66 → m1 0 i = m2 0 i := fun i x y z => by rw [e1, sset_place _ _ _ x, sset_place _ _ _ y, sset_place _ _ _ z]
    refine ⟨m1, fun q x y => by rw [r1 q x, a1 q x y], fun i x y z u w => by rw [p1 i x y z, a2 i u w], fun i hi => by rw [r1 37 (by decide), a3 i hi], by rw [e1, sset_place _ _ _ (by decide), sset_place _ _ _ (by decide), sset_at, vu_eq], by rw [e1, sset_at, vu_eq], MRg_keep a4 (fun i hi => by rw [r1 37 (by decide)]), by rw [p1 67 (by decide) (by decide) (by decide), a5], by rw [p1 68 (by decide) (by decide) (by decide), a6], fun Q hQ => ?_⟩
    have e66 : m2 0 66 - 1 = (d : Int) := by rw [a2 66 (by decide) (by decide), h66]; omega
    have e37 : sset (sset m2 0 66 (d : Int)) 0 49 (σ 7 s) 37 0 = ((jn g2 g1 0 : Nat) : Int) := by rw [sset_row _ _ _ (by decide), sset_row _ _ _ (by decide)]; exact a4.1
    have e6 : sset (sset m2 0 66 (d : Int)) 0 49 (σ 7 s) 6 s = σ 6 s := by rw [sset_row _ _ _ (by decide), sset_row _ _ _ (by decide), a1 6 (by decide) (by decide)]
    have e7 : sset m2 0 66 (d : Int) 7 s = σ 7 s := by rw [sset_row _ _ _ (by decide), a1 7 (by decide) (by decide)]
    unfold f_X10_leavesTest_J253
    rintro σ1 rfl
    refine ⟨by omega, by omega, ?_⟩
    rintro σ2 rfl
    rw [e66, Int.toNat_natCast, e7, e37, e6]
    by_cases z : jn g2 g1 0 = 1
    · rw [if_pos z] at e1
      refine ⟨by rw [z]; exact ⟨by decide, by decide⟩, fun u => absurd (by rw [z]; rfl) u, fun _ => ⟨by omega, by omega, ?_⟩⟩
      rintro σ4 rfl
      rw [← e1]; exact hQ
    · rw [if_neg z] at e1
      have z0 : jn g2 g1 0 = 0 := by
        rcases KV_01 jv with y | y
        · exact y
        · exact absurd y z
      refine ⟨by rw [z0]; exact ⟨by decide, by decide⟩, fun _ => ?_, fun u => by rw [z0] at u; exact absurd u (by decide)⟩
      rintro σ3 rfl
      rw [← e1]; exact hQ
  have r0 : inR (σ 37 0) := by rw [mg2.1]; rcases KV_01 v2 with z | z <;> rw [z] <;> exact ⟨by decide, by decide⟩
  have rf : inR (σ 37 (18 + 18 * d)) := by rw [mg1.1]; rcases KV_01 v1 with z | z <;> rw [z] <;> exact ⟨by decide, by decide⟩
  by_cases u2 : g2 0 = 0
  · have ej : jn g2 g1 = g1 := jn_0 u2
    obtain ⟨m3, l1, l2, l3, l4⟩ := r_copies (m := σ) (a0 := 37) (a1 := 18 + 18 * d) (a2 := 37) (a3 := 0) (by unfold isIA; decide) (by unfold isIA; decide) (by show 18 + 18 * d + 9 ≤ 150; omega) (by decide) (by omega)
    obtain ⟨m2, e2⟩ : ∃ m2 : St, m2 = sset (sset m3 0 67 ((g1 9 : Nat) : Int)) 0 68 ((g1 10 : Nat) : Int) := ⟨_, rfl⟩
    have r2 : ∀ q, q ≠ 0 → m2 q = m3 q := fun q hq => by rw [e2, sset_row _ _ _ hq, sset_row _ _ _ hq]
    obtain ⟨m1, f1, f2, f3, f4, f5, f6, f7, f8, f9⟩ := fin m2 (fun q a b => by rw [r2 q a, l1 q b]) (fun i a b => by rw [e2, sset_place _ _ _ b, sset_place _ _ _ a, l1 0 (by decide)]) (fun i hi => by rw [r2 37 (by decide), l2 i (by omega)]) (by rw [ej]; exact MRg_keep (m := m3) (MRg_copy mg1 l3) (fun i hi => by rw [r2 37 (by decide)])) (by rw [ej, e2, sset_place _ _ _ (by decide), sset_at, vu_eq]) (by rw [ej, e2, sset_at, vu_eq])
    refine ⟨m1, f1, f2, f3, f4, f5, f6, f7, f8, fun Q hQ => ?_⟩
    have l4' : ∀ Q : St → Prop, Q m3 → f_X10_copies 37 ((18 + 18 * d : Nat) : Int) 37 0 σ Q := l4
    unfold f_X10_leavesTest_J146
    refine ⟨r0, fun u => absurd (by rw [mg2.1, u2]; rfl) u, fun _ => r_firstOf (l4' _ ⟨by omega, by omega, ?_⟩)⟩
    rintro σ8 rfl
    refine ⟨by omega, by omega, ?_⟩
    rintro σ9 rfl
    have p42 : ∀ y : Int, sset m3 0 67 y 42 d = ((g1 10 : Nat) : Int) := fun y => by rw [sset_row _ _ _ (by decide), l1 42 (by decide), h42]
    rw [Int.toNat_natCast, l1 41 (by decide), h41, p42, ← e2]
    exact f9 Q hQ
  · have n2 : ¬ σ 37 0 = 0 := by rw [mg2.1]; omega
    by_cases u1 : g1 0 = 0
    · have ej : jn g2 g1 = g2 := jn_1 u2 u1
      obtain ⟨m1, f1, f2, f3, f4, f5, f6, f7, f8, f9⟩ := fin σ (fun q a b => rfl) (fun i a b => rfl) (fun i hi => rfl) (by rw [ej]; exact mg2) (by rw [ej]; exact h67) (by rw [ej]; exact h68)
      refine ⟨m1, f1, f2, f3, f4, f5, f6, f7, f8, fun Q hQ => ?_⟩
      have e1' : ¬ σ 37 ((18 + 18 * d : Nat) : Int).toNat = 1 := by rw [Int.toNat_natCast, mg1.1, u1]; decide
      unfold f_X10_leavesTest_J146
      exact ⟨r0, fun _ => r_firstOf ⟨by omega, by omega, by rw [Int.toNat_natCast]; exact rf, fun _ => f9 Q hQ, fun u => absurd u e1'⟩, fun u => absurd u n2⟩
    · have u1' : g1 0 = 1 := by
        rcases KV_01 v1 with y | y
        · exact absurd y u1
        · exact y
      obtain ⟨m3, l1, l2, l3, l4⟩ := r_joins (m := σ) (a0 := 37) (a1 := 0) (a2 := 37) (a3 := 18 + 18 * d) (g := g2) (h := g1) (by unfold isIA; decide) (by unfold isIA; decide) (by decide) (by show 18 + 18 * d + 9 ≤ 150; omega) (by omega) v2 v1 mg2 mg1
      obtain ⟨m2, e2⟩ : ∃ m2 : St, m2 = sset (sset m3 0 67 ((g2 9 ||| g1 9 : Nat) : Int)) 0 68 ((g2 10 &&& g1 10 : Nat) : Int) := ⟨_, rfl⟩
      have r2 : ∀ q, q ≠ 0 → m2 q = m3 q := fun q hq => by rw [e2, sset_row _ _ _ hq, sset_row _ _ _ hq]
      obtain ⟨m1, f1, f2, f3, f4, f5, f6, f7, f8, f9⟩ := fin m2 (fun q a b => by rw [r2 q a, l1 q b]) (fun i a b => by rw [e2, sset_place _ _ _ b, sset_place _ _ _ a, l1 0 (by decide)]) (fun i hi => by rw [r2 37 (by decide), l2 i (by omega)]) (MRg_keep (m := m3) l3 (fun i hi => by rw [r2 37 (by decide)])) (by rw [jn_9 u2 u1, e2, sset_place _ _ _ (by decide), sset_at, vu_eq]) (by rw [jn_10 u2 u1, e2, sset_at, vu_eq])
      refine ⟨m1, f1, f2, f3, f4, f5, f6, f7, f8, fun Q hQ => ?_⟩
      have l4' : ∀ Q : St → Prop, Q m3 → f_X10_joins 37 0 37 ((18 + 18 * d : Nat) : Int) σ Q := l4
      have e1' : σ 37 ((18 + 18 * d : Nat) : Int).toNat = 1 := by rw [Int.toNat_natCast, mg1.1, u1']; rfl
      unfold f_X10_leavesTest_J146
      refine ⟨r0, fun _ => r_firstOf ⟨by omega, by omega, by rw [Int.toNat_natCast]; exact rf, fun u => absurd e1' u, fun _ => r_firstOf (l4' _ ⟨by omega, by omega, ?_⟩)⟩, fun u => absurd u n2⟩
      rintro σ4 rfl
      refine ⟨by omega, by omega, ?_⟩
      rintro σ5 rfl
      have p68 : ∀ y : Int, sset m3 0 67 y 0 68 = ((g2 10 : Nat) : Int) := fun y => by rw [sset_place _ _ _ (by decide), l1 0 (by decide), h68]
      have p67 : m3 0 67 = ((g2 9 : Nat) : Int) := by rw [l1 0 (by decide), h67]
      have p42 : ∀ y : Int, sset m3 0 67 y 42 d = ((g1 10 : Nat) : Int) := fun y => by rw [sset_row _ _ _ (by decide), l1 42 (by decide), h42]
      rw [Int.toNat_natCast, l1 41 (by decide), h41, p67, ior_nat (by omega) (by omega), p68, p42, iand_nat (by omega) (by omega), ← e2]
      exact f9 Q hQ
/-- the end of a test's second block -/
theorem r_leave2 {Q : St → Prop} (hd : d < 6) (h66 : σ 0 66 = ((d + 1 : Nat) : Int)) (h38 : σ 38 d = (s : Int)) (h43 : σ 43 d = 1) (h : f_X10_leavesTest_J146 Q σ (d : Int) (s : Int)) : f_X10_leavesTest σ Q := by
  have ex : ((d + 1 : Nat) : Int) - 1 = (d : Int) := by omega
  unfold f_X10_leavesTest
  rintro x1 rfl
  rw [h66, ex, Int.toNat_natCast]
  refine ⟨by omega, by omega, ?_⟩
  rintro x2 rfl
  rw [h38, h43]
  exact ⟨by omega, by omega, ⟨by decide, by decide⟩, fun _ => h, fun u => absurd u (by decide)⟩
/-- the end of a test's first block -/
theorem r_leave1 (hd : d < 6) (hs : s < 401) (h66 : σ 0 66 = ((d + 1 : Nat) : Int)) (h38 : σ 38 d = (s : Int)) (h43 : σ 43 d = 0) (h9 : -1 ≤ σ 9 s ∧ σ 9 s < 64) (v2 : KV g2) (mg1 : MRg σ 37 0 g1) (mg2 : MRg σ 37 (9 + 18 * d) g2) : ∃ m1 : St, (∀ q, q ≠ 0 → q ≠ 37 → q ≠ 41 → q ≠ 42 → q ≠ 43 → m1 q = σ q) ∧ (∀ i, i ≠ 67 → i ≠ 68 → m1 0 i = σ 0 i) ∧ (∀ i, 9 ≤ i → i < 18 + 18 * d ∨ 27 + 18 * d ≤ i → m1 37 i = σ 37 i) ∧ (m1 41 = va_up (σ 41) d (σ 0 67) ∧ m1 42 = va_up (σ 42) d (σ 0 68) ∧ m1 43 = va_up (σ 43) d 1) ∧ m1 0 67 = σ 39 d ∧ m1 0 68 = σ 40 d ∧ MRg m1 37 0 g2 ∧ MRg m1 37 (18 + 18 * d) g1 ∧ ∀ Q : St → Prop, (σ 9 s = -1 ∨ g2 0 = 0 → f_X10_leavesTest_J146 Q m1 (d : Int) (s : Int)) → (σ 9 s ≠ -1 → g2 0 = 1 → Q (sset (sset m1 0 49 (σ 9 s)) 0 48 (σ 17 (σ 9 s).toNat))) → f_X10_leavesTest σ Q := by
  obtain ⟨m2, l1, l2, l3, l4⟩ := r_copies (m := σ) (a0 := 37) (a1 := 0) (a2 := 37) (a3 := 18 + 18 * d) (by unfold isIA; decide) (by unfold isIA; decide) (by decide) (by show 18 + 18 * d + 9 ≤ 150; omega) (by omega)
  obtain ⟨m4, e4⟩ : ∃ m4 : St, m4 = sset (sset m2 41 d (σ 0 67)) 42 d (σ 0 68) := ⟨_, rfl⟩
  have r4 : ∀ q, q ≠ 41 → q ≠ 42 → m4 q = m2 q := fun q a b => by rw [e4, sset_row _ _ _ b, sset_row _ _ _ a]
  obtain ⟨m6, k1, k2, k3, k4⟩ := r_copies (m := m4) (a0 := 37) (a1 := 9 + 18 * d) (a2 := 37) (a3 := 0) (by unfold isIA; decide) (by unfold isIA; decide) (by show 9 + 18 * d + 9 ≤ 150; omega) (by decide) (by omega)
  obtain ⟨m1, e1⟩ : ∃ m1 : St, m1 = sset (sset (sset m6 0 67 (σ 39 d)) 0 68 (σ 40 d)) 43 d 1 := ⟨_, rfl⟩
  have r1 : ∀ q, q ≠ 0 → q ≠ 43 → m1 q = m6 q := fun q a b => by rw [e1, sset_row _ _ _ b, sset_row _ _ _ a, sset_row _ _ _ a]
  have w37 : m1 37 = m6 37 := r1 37 (by decide) (by decide)
  have mg2' : MRg m1 37 0 g2 := MRg_keep (m := m6) (MRg_copy (m := m4) (MRg_keep (m := m2) (MRg_keep mg2 (fun i hi => l2 (9 + 18 * d + i) (by omega))) (fun i hi => by rw [r4 37 (by decide) (by decide)])) k3) (fun i hi => by rw [w37])
  refine ⟨m1, fun q a1 a2 a3 a4 a5 => by rw [r1 q a1 a5, k1 q a2, r4 q a3 a4, l1 q a2], fun i a b => by rw [e1, sset_row _ _ _ (by decide), sset_place _ _ _ b, sset_place _ _ _ a, k1 0 (by decide), r4 0 (by decide) (by decide), l1 0 (by decide)], fun i a b => by rw [w37, k2 i (by omega), r4 37 (by decide) (by decide), l2 i (by omega)], ⟨?_, ?_, ?_⟩, ?_, ?_, mg2', ?_, fun Q h1 h2 => ?_⟩
  · rw [r1 41 (by decide) (by decide), k1 41 (by decide), e4, sset_row _ _ _ (by decide), sset_at, l1 41 (by decide)]
  · rw [r1 42 (by decide) (by decide), k1 42 (by decide), e4, sset_at, sset_row _ _ _ (by decide), l1 42 (by decide)]
  · rw [e1, sset_at, sset_row _ _ _ (by decide), sset_row _ _ _ (by decide), k1 43 (by decide), r4 43 (by decide) (by decide), l1 43 (by decide)]
  · rw [e1, sset_row _ _ _ (by decide), sset_place _ _ _ (by decide), sset_at, vu_eq]
  · rw [e1, sset_row _ _ _ (by decide), sset_at, vu_eq]
  · exact MRg_keep (m := m6) (MRg_keep (m := m4) (MRg_keep (m := m2) (MRg_copy mg1 l3) (fun i hi => by rw [r4 37 (by decide) (by decide)])) (fun i hi => k2 (18 + 18 * d + i) (by omega))) (fun i hi => by rw [w37])
  · have ex : ((d + 1 : Nat) : Int) - 1 = (d : Int) := by omega
    have q9 : m1 9 s = σ 9 s := by rw [r1 9 (by decide) (by decide), k1 9 (by decide), r4 9 (by decide) (by decide), l1 9 (by decide)]
    have r0 : inR (m1 37 0) := by rw [mg2'.1]; rcases KV_01 v2 with z | z <;> rw [z] <;> exact ⟨by decide, by decide⟩
    have l4' : ∀ Q : St → Prop, Q m2 → f_X10_copies 37 0 37 ((18 + 18 * d : Nat) : Int) σ Q := l4
    have k4' : ∀ Q : St → Prop, Q m6 → f_X10_copies 37 ((9 + 18 * d : Nat) : Int) 37 0 m4 Q := k4
    have h38' : σ 38 (d : Int).toNat = (s : Int) := by rw [Int.toNat_natCast]; exact h38
    have h43' : σ 43 (d : Int).toNat = 0 := by rw [Int.toNat_natCast]; exact h43
    have p67 : m2 0 67 = σ 0 67 := by rw [l1 0 (by decide)]
    have p68 : ∀ y : Int, sset m2 41 d y 0 68 = σ 0 68 := fun y => by rw [sset_row _ _ _ (by decide), l1 0 (by decide)]
    have p39 : m6 39 d = σ 39 d := by rw [k1 39 (by decide), r4 39 (by decide) (by decide), l1 39 (by decide)]
    have p40 : ∀ y : Int, sset m6 0 67 y 40 d = σ 40 d := fun y => by rw [sset_row _ _ _ (by decide), k1 40 (by decide), r4 40 (by decide) (by decide), l1 40 (by decide)]
    unfold f_X10_leavesTest
    rintro x1 rfl
    rw [h66, ex]
    refine ⟨by omega, by omega, ?_⟩
    rintro x2 rfl
    rw [h38', h43']
    refine ⟨by omega, by omega, ⟨by decide, by decide⟩, fun u => absurd rfl u, fun _ => r_firstOf (l4' _ ⟨by omega, by omega, ?_⟩)⟩
    rintro σ3 rfl
    refine ⟨by omega, by omega, ?_⟩
    rintro σ4 rfl
    rw [Int.toNat_natCast, p67, p68, ← e4]
    refine r_falseOf (k4' _ ⟨by omega, by omega, ?_⟩)
    rintro σ7 rfl
    refine ⟨by omega, by omega, ?_⟩
    rintro σ8 rfl
    refine ⟨by omega, by omega, ?_⟩
    rintro σ9 rfl
    rw [p39, p40, ← e1, Int.toNat_natCast, q9]
    refine ⟨by omega, by omega, ⟨by omega, by omega⟩, fun u => h1 (Or.inl u), fun u => ⟨r0, fun w => h1 (Or.inr ?_), fun w => ⟨by omega, by omega, ?_⟩⟩⟩
    · rcases KV_01 v2 with y | y
      · exact y
      · exact absurd (by rw [mg2'.1, y]; rfl) w
    · rintro σ10 rfl
      have q49 : sset m1 0 49 (σ 9 s) 0 49 = σ 9 s := by rw [sset_at, vu_eq]
      rw [q49]
      refine ⟨by omega, by omega, ?_⟩
      rintro σ11 rfl
      rw [sset_row _ _ _ (show (17 : Nat) ≠ 0 by decide), r1 17 (by decide) (by decide), k1 17 (by decide), r4 17 (by decide) (by decide), l1 17 (by decide)]
      refine h2 u ?_
      rw [mg2'.1] at w
      omega
end MTESTS
