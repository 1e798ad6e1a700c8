/-! ===== pure layer: the parts, copied first ===== -/
section MPARTS
variable {m : St} {a x t n : Nat} {k o v g : Nat → Nat}
theorem r_truePart (hx : x < 401) (ha9 : 9 ≤ a) (ha : a + 9 ≤ 150) (h10 : m 10 x = (t : Int)) (h11 : m 11 x = ((t + n : Nat) : Int)) (hn : t + n ≤ 401) (hT : MTr m k o v t n) (hg : KV g) (mg : MRg m 37 0 g) : ∃ m1 : St, (∀ q, q ≠ 37 → m1 q = m q) ∧ (∀ i, i < a ∨ a + 9 ≤ i → m1 37 i = m 37 i) ∧ MRg m1 37 a (tpF k o v n t g) ∧ ∀ Q : St → Prop, Q m1 → f_X10_truePart (x : Int) (a : Int) m Q := by
  obtain ⟨m2, i1, i2, i3, i4⟩ := r_copies (m := m) (a0 := 37) (a1 := 0) (a2 := 37) (a3 := a) (by unfold isIA; decide) (by unfold isIA; decide) (by decide) (by show a + 9 ≤ 150; exact ha) (by omega)
  obtain ⟨m1, j1, j2, j3, j4⟩ := r_tpl (a := a) (k := k) (o := o) (v := v) hx ha n t m2 g hn (fun s u w => by rw [i1 12 (by decide), i1 13 (by decide), i1 14 (by decide)]; exact hT s u w) (by rw [i1 11 (by decide), h11]) hg (MRg_copy mg i3)
  refine ⟨m1, fun q hq => by rw [j1 q hq, i1 q hq], fun i hi => by rw [j2 i hi, i2 i hi], j3, fun Q hQ => ?_⟩
  have w : f_X10_copies 37 ((0 : Nat) : Int) 37 (a : Int) m (fun σ1 => 0 ≤ (x : Int) ∧ (x : Int) < 401 ∧ ∀ x1 : Int, x1 = (σ1 10 (x : Int).toNat) → f_X10_truePart_L20 Q FU σ1 (x : Int) (a : Int) x1) := by
    refine i4 _ ⟨by omega, by omega, ?_⟩
    rintro x1 rfl
    rw [Int.toNat_natCast, i1 10 (by decide), h10]
    exact j4 Q FU (by show n < 100000; omega) hQ
  unfold f_X10_truePart
  exact w
theorem r_falsePart (hx : x < 401) (ha9 : 9 ≤ a) (ha : a + 9 ≤ 150) (h10 : m 10 x = (t : Int)) (h11 : m 11 x = ((t + n : Nat) : Int)) (hn : t + n ≤ 401) (hT : MTr m k o v t n) (hg : KV g) (hg0 : g 0 = 1) (mg : MRg m 37 0 g) : ∃ m1 : St, (∀ q, q ≠ 37 → m1 q = m q) ∧ (∀ i, i < a ∨ a + 9 ≤ i → m1 37 i = m 37 i) ∧ MRg m1 37 a (fpF k o v n t g) ∧ ∀ Q : St → Prop, Q m1 → f_X10_falsePart (x : Int) (a : Int) m Q := by
  obtain ⟨m2, i1, i2, i3, i4⟩ := r_copies (m := m) (a0 := 37) (a1 := 0) (a2 := 37) (a3 := a) (by unfold isIA; decide) (by unfold isIA; decide) (by decide) (by show a + 9 ≤ 150; exact ha) (by omega)
  have mc : MRg m2 37 a g := MRg_copy mg i3
  have d : ((t + n : Nat) : Int) - (t : Int) = (n : Int) := by omega
  by_cases n1 : n = 1
  · obtain ⟨t1, t2, t3, t4, t5⟩ := hT t (Nat.le_refl _) (by omega)
    obtain ⟨m1, j1, j2, j3, j4⟩ := r_widensNot (m := m2) (a := a) t5 t1 (by rw [i1 12 (by decide)]; exact t2) (by rw [i1 13 (by decide)]; exact t3) (fun u => by rw [i1 14 (by decide)]; exact t4 u) ha hg hg0 mc
    refine ⟨m1, fun q hq => by rw [j1 q hq, i1 q hq], fun i hi => by rw [j2 i hi, i2 i hi], by unfold fpF; rw [if_pos ⟨n1, by omega⟩]; exact j3, fun Q hQ => ?_⟩
    unfold f_X10_falsePart
    refine i4 _ ?_
    rw [Int.toNat_natCast, i1 10 (by decide), i1 11 (by decide), h10, h11, d]
    exact ⟨by omega, by omega, by omega, by omega, ⟨by omega, by omega⟩, fun u => by omega, fun _ => ⟨by omega, by omega, j4 _ hQ⟩⟩
  · refine ⟨m2, i1, i2, by unfold fpF; rw [if_neg (fun u => n1 u.1)]; exact mc, fun Q hQ => ?_⟩
    unfold f_X10_falsePart
    refine i4 _ ?_
    rw [Int.toNat_natCast, i1 10 (by decide), i1 11 (by decide), h10, h11, d]
    exact ⟨by omega, by omega, by omega, by omega, ⟨by omega, by omega⟩, fun _ => hQ, fun u => by omega⟩
end MPARTS
