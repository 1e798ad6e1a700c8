/-! ===== pure layer: the reference's entries grow ===== -/
/-- the reference's entries -/
def MEr (m : St) (E : Nat → Nat → Nat) : Prop := ∀ e, e < 28 → KV (E e) ∧ (E e 0 = 0 → ∀ i, i < 9 → E e i = 0) ∧ ∀ i, i < 9 → m 36 (9 * e + i) = ((E e i : Nat) : Int)
/-- entries have grown by knowledge at some places -/
def EMr (m m1 : St) (E E1 : Nat → Nat → Nat) (g : Nat → Nat) (P : Nat → Prop) : Prop := MEr m1 E1 ∧ (∀ i, i < 28 → KLE (E i) (E1 i)) ∧ (∀ i, i < 28 → P i → KLE g (E1 i)) ∧ (∀ E2 : Nat → Nat → Nat, (∀ i, i < 28 → KLE (E i) (E2 i)) → (∀ i, i < 28 → P i → KLE g (E2 i)) → ∀ i, i < 28 → KLE (E1 i) (E2 i)) ∧ (∀ q, q ≠ 0 → q ≠ 36 → q ≠ 37 → m1 q = m q) ∧ (∀ i, i < 141 → m1 37 i = m 37 i) ∧ (∀ i, i ≠ 69 → m1 0 i = m 0 i) ∧ (m1 0 69 = 0 ∨ m1 0 69 = 1) ∧ (m 0 69 ≠ 0 → m1 0 69 ≠ 0) ∧ (m1 0 69 = 0 → ∀ i, i < 28 → pkg (E1 i) = pkg (E i)) ∧ (m 0 69 = 0 → m1 0 69 ≠ 0 → mu E 28 < mu E1 28)
theorem MEr_KV {m : St} {E : Nat → Nat → Nat} (h : MEr m E) : ∀ i, i < 28 → KV (E i) := fun i hi => (h i hi).1
theorem EMr_refl {m : St} {E : Nat → Nat → Nat} {g : Nat → Nat} (h : MEr m E) (h2 : m 0 69 = 0 ∨ m 0 69 = 1) : EMr m m E E g (fun _ => False) := ⟨h, fun i hi => KLE_refl (KV_01 (h i hi).1), fun _ _ u => u.elim, fun _ u _ => u, fun _ _ _ _ => rfl, fun _ _ => rfl, fun _ _ => rfl, h2, fun u => u, fun _ _ _ => rfl, fun u w => absurd u w⟩
theorem EMr_trans {m m1 m2 : St} {E E1 E2 : Nat → Nat → Nat} {g : Nat → Nat} {P P' : Nat → Prop} (hE : MEr m E) (h : EMr m m1 E E1 g P) (h' : EMr m1 m2 E1 E2 g P') : EMr m m2 E E2 g (fun i => P i ∨ P' i) := by
  obtain ⟨a1, a2, a3, a4, a5, a6, a6', a7, a8, a9, a10⟩ := h
  obtain ⟨b1, b2, b3, b4, b5, b6, b6', b7, b8, b9, b10⟩ := h'
  have m1 := mu_le (E := E) (E' := E1) 28 (fun i hi => ⟨(hE i hi).1, (a1 i hi).1, a2 i hi⟩)
  have m2 := mu_le (E := E1) (E' := E2) 28 (fun i hi => ⟨(a1 i hi).1, (b1 i hi).1, b2 i hi⟩)
  refine ⟨b1, fun i hi => KLE_trans (a2 i hi) (b2 i hi), fun i hi u => ?_, fun E3 u1 u2 => ?_, fun q x y z => by rw [b5 q x y z, a5 q x y z], fun i hi => by rw [b6 i hi, a6 i hi], fun i hi => by rw [b6' i hi, a6' i hi], b7, fun u => b8 (a8 u), fun u i hi => ?_, fun u w => ?_⟩
  · rcases u with u | u
    · exact KLE_trans (a3 i hi u) (b2 i hi)
    · exact b3 i hi u
  · exact b4 E3 (a4 E3 u1 (fun i hi v => u2 i hi (Or.inl v))) (fun i hi v => u2 i hi (Or.inr v))
  · rename_i q1 q2
    by_cases z : q1 0 69 = 0
    · rw [b9 u i hi, a9 z i hi]
    · exact absurd u (b8 z)
  · rename_i q1 q2
    by_cases z : q1 0 69 = 0
    · have := b10 z w; omega
    · have := a10 u z; omega
theorem EMr_weak {m m1 : St} {E E1 : Nat → Nat → Nat} {g : Nat → Nat} {P P' : Nat → Prop} (h : EMr m m1 E E1 g P) (hP : ∀ i, i < 28 → (P i ↔ P' i)) : EMr m m1 E E1 g P' := by
  obtain ⟨a1, a2, a3, a4, a5⟩ := h
  exact ⟨a1, a2, fun i hi u => a3 i hi ((hP i hi).2 u), fun E2 u1 u2 => a4 E2 u1 (fun i hi v => u2 i hi ((hP i hi).1 v)), a5⟩
theorem KL_eq {g g' : Nat → Nat} (h0 : g 0 = 1) (h : KL g g') (h' : KL g' g) : ∀ i, i < 9 → g i = g' i := by
  intro i hi
  obtain ⟨a1, a2, a3, a4, a5⟩ := h
  obtain ⟨b1, b2, b3, b4, b5⟩ := h'
  have : i = 0 ∨ i = 1 ∨ i = 2 ∨ i = 3 ∨ i = 4 ∨ i = 5 ∨ i = 6 ∨ i = 7 ∨ i = 8 := by omega
  rcases this with rfl | rfl | rfl | rfl | rfl | rfl | rfl | rfl | rfl
  · rw [h0, a1]
  · exact Nat.le_antisymm (b2 0 (by decide)) (a2 0 (by decide))
  · exact Nat.le_antisymm (b2 1 (by decide)) (a2 1 (by decide))
  · exact Nat.le_antisymm (b2 2 (by decide)) (a2 2 (by decide))
  · exact Nat.le_antisymm (a3 0 (by decide)) (b3 0 (by decide))
  · exact Nat.le_antisymm (a3 1 (by decide)) (b3 1 (by decide))
  · exact Nat.le_antisymm (a3 2 (by decide)) (b3 2 (by decide))
  · exact sub2_antisymm a4 b4
  · exact sub2_antisymm a5 b5
theorem KLE_cong {g h h' : Nat → Nat} (e : ∀ i, i < 9 → h i = h' i) (u : KLE g h) : KLE g h' := by
  rcases u with u | ⟨a1, a2, a3, a4, a5⟩
  · exact Or.inl u
  · exact Or.inr ⟨by rw [← e 0 (by decide)]; exact a1, fun i hi => by rw [← e (1 + i) (by omega)]; exact a2 i hi, fun i hi => by rw [← e (4 + i) (by omega)]; exact a3 i hi, by rw [← e 7 (by decide)]; exact a4, by rw [← e 8 (by decide)]; exact a5⟩
theorem KV_8k {g : Nat → Nat} (h : KV g) (h0 : g 0 ≠ 0) : ∀ i, i < 9 → g i < 8192 := by
  intro i hi
  rcases h with u | ⟨a0, a1, a2, -, a3⟩
  · exact absurd u h0
  · have b0 := a1 0 (by decide)
    have b1 := a1 1 (by decide)
    have b2 := a1 2 (by decide)
    have c0 : g 1 ≤ g 4 ∧ g 4 ≤ 9 := b0
    have c1 : g 2 ≤ g 5 ∧ g 5 ≤ 9 := b1
    have c2 : g 3 ≤ g 6 ∧ g 6 ≤ 9 := b2
    have : i = 0 ∨ i = 1 ∨ i = 2 ∨ i = 3 ∨ i = 4 ∨ i = 5 ∨ i = 6 ∨ i = 7 ∨ i = 8 := by omega
    rcases this with rfl | rfl | rfl | rfl | rfl | rfl | rfl | rfl | rfl <;> omega
/-- the present knowledge comes to an entry -/
theorem r_comesTo {m : St} {e : Nat} {E : Nat → Nat → Nat} {g : Nat → Nat} (he : e < 28) (hE : MEr m E) (hg : KV g) (hg0 : g 0 = 1) (mg : MRg m 37 0 g) (h69 : m 0 69 = 0 ∨ m 0 69 = 1) : ∃ (m1 : St) (E1 : Nat → Nat → Nat), EMr m m1 E E1 g (fun i => i = e) ∧ ∀ Q : St → Prop, Q m1 → f_X10_comesTo (e : Int) m Q := by
  obtain ⟨k1, k2, k3⟩ := hE e he
  obtain ⟨m2, i1, i2, i3, i4⟩ := r_copies (m := m) (a0 := 36) (a1 := 9 * e) (a2 := 37) (a3 := 141) (by unfold isIA; decide) (by unfold isIA; decide) (by show 9 * e + 9 ≤ 252; omega) (by decide) (Or.inl (by decide))
  obtain ⟨m3, j1, j2, j3, j4⟩ := r_joins (m := m2) (a0 := 36) (a1 := 9 * e) (a2 := 37) (a3 := 0) (g := E e) (h := g) (by unfold isIA; decide) (by unfold isIA; decide) (by show 9 * e + 9 ≤ 252; omega) (by decide) (Or.inl (by decide)) k1 hg ⟨by rw [i1 36 (by decide)]; have := k3 0 (by decide); rw [Nat.add_zero] at this; exact this, fun _ i hi => by rw [i1 36 (by decide)]; exact k3 i hi⟩ (MRg_keep mg (fun i hi => i2 (0 + i) (by omega)))
  have hj0 : jn (E e) g 0 ≠ 0 := SLE_ne (jn_r (KV_01 k1) (KV_01 hg)) (by omega)
  have hjv := jn_KV k1 hg
  have hj8 := KV_8k hjv hj0
  have v36 : ∀ i, i < 9 → m3 36 (9 * e + i) = ((jn (E e) g i : Nat) : Int) := j3.2 hj0
  have v37 : ∀ i, i < 9 → m3 37 (141 + i) = ((E e i : Nat) : Int) := fun i hi => by rw [j1 37 (by decide), i3 i hi, k3 i hi]
  have e8 : ∀ i, i < 9 → E e i < 8192 := by
    intro i hi
    by_cases z : E e 0 = 0
    · rw [k2 z i hi]; decide
    · exact KV_8k k1 z i hi
  have hr : ∀ i, i < 9 → inR (m3 36 (9 * e + i)) ∧ inR (m3 37 (141 + i)) := by
    intro i hi
    have a := hj8 i hi
    have b := e8 i hi
    rw [v36 i hi, v37 i hi]
    exact ⟨⟨by omega, by omega⟩, ⟨by omega, by omega⟩⟩
  have f69 : m3 0 69 = m 0 69 := by rw [j1 0 (by decide), i1 0 (by decide)]
  have fr : ∀ (v : Int) (q : Nat), q ≠ 0 → q ≠ 36 → q ≠ 37 → sset m3 0 69 v q = m q := fun v q a b d => by rw [sset_row _ _ _ a, j1 q b, i1 q d]
  have f37 : ∀ (v : Int) (i : Nat), i < 141 → sset m3 0 69 v 37 i = m 37 i := fun v i hi => by rw [sset_row _ _ _ (by decide), j1 37 (by decide), i2 i (by omega)]
  have f0 : ∀ (v : Int) (i : Nat), i ≠ 69 → sset m3 0 69 v 0 i = m 0 i := fun v i hi => by rw [sset_place _ _ _ hi, j1 0 (by decide), i1 0 (by decide)]
  have f36 : ∀ (v : Int) (k : Nat), k < 28 → k ≠ e → ∀ i, i < 9 → sset m3 0 69 v 36 (9 * k + i) = ((E k i : Nat) : Int) := fun v k hk ke i hi => by rw [sset_row _ _ _ (by decide), j2 (9 * k + i) (by omega), i1 36 (by decide)]; exact (hE k hk).2.2 i hi
  have go : ∀ Q : St → Prop, f_X10_comesTo_L38 Q FU m3 (e : Int) 1 ((0 : Nat) : Int) → f_X10_comesTo (e : Int) m Q := by
    intro Q hQ
    have w : f_X10_copies 36 ((9 * e : Nat) : Int) 37 ((141 : Nat) : Int) m (fun σ1 => f_X10_joins 36 ((9 * e : Nat) : Int) 37 ((0 : Nat) : Int) σ1 (fun σ2 => f_X10_comesTo_L38 Q FU σ2 (e : Int) 1 ((0 : Nat) : Int))) := i4 _ (j4 _ hQ)
    have c9 : 9 * (e : Int) = ((9 * e : Nat) : Int) := by omega
    unfold f_X10_comesTo
    rw [c9]
    exact w
  obtain ⟨p1, p2, p3, p4⟩ := JE_pure (i := e) he (MEr_KV hE) hg
  by_cases all : (∀ i, i < 9 → jn (E e) g i = E e i) ∧ m 0 69 = 0
  · obtain ⟨al, z69⟩ := all
    refine ⟨sset m3 0 69 0, E, ⟨fun k hk => ⟨(hE k hk).1, (hE k hk).2.1, fun i hi => ?_⟩, fun i hi => KLE_refl (KV_01 (hE i hi).1), fun i hi u => ?_, fun E2 u1 u2 => u1, fr 0, f37 0, f0 0, Or.inl (by rw [sset_at, vu_eq]), fun u => absurd z69 u, fun _ _ _ => rfl, fun _ u => absurd (by rw [sset_at, vu_eq]) u⟩, fun Q hQ => go Q (cmp_same he (by rw [f69, z69]) hr (fun i hi => by rw [v36 i hi, v37 i hi, al i hi]) hQ 9 0 FU (by decide) (by show 9 < 100000; decide))⟩
    · by_cases ke : k = e
      · rw [ke, sset_row _ _ _ (by decide), v36 i hi, al i hi]
      · exact f36 0 k hk ke i hi
    · rw [u]
      rw [vu_eq] at p3
      exact KLE_cong al p3
  · have ne : m 0 69 = 0 → pkg (jn (E e) g) ≠ pkg (E e) := by
      intro z u
      apply all
      refine ⟨?_, z⟩
      have l1 := pkg_KLE hjv k1 u
      have l2 := SLE_K (jn_l (KV_01 k1) (KV_01 hg))
      rcases l1 with l1 | l1
      · exact absurd l1 hj0
      · rcases l2 with l2 | l2
        · rw [l1.1] at l2; exact absurd l2 (by decide)
        · exact KL_eq l2.1 l1 l2
    refine ⟨sset m3 0 69 1, va_up E e (jn (E e) g), ⟨fun k hk => ⟨p1 k hk, fun z => ?_, fun i hi => ?_⟩, p2, fun i hi u => by rw [u]; exact p3, fun E2 u1 u2 => p4 E2 u1 (u2 e he rfl), fr 1, f37 1, f0 1, Or.inr (by rw [sset_at, vu_eq]), fun _ => by rw [sset_at, vu_eq]; decide, fun u => absurd u (by rw [sset_at, vu_eq]; decide), fun u _ => JE_mu he (MEr_KV hE) hg (ne u)⟩, fun Q hQ => go Q (cmp_diff he (by rw [f69]; exact h69) hr hQ 9 0 FU 1 (by decide) (by show 9 < 100000; decide) (Or.inr rfl) ?_)⟩
    · by_cases ke : k = e
      · rw [ke, vu_eq] at z; exact absurd z hj0
      · rw [vu_ne _ _ ke] at z ⊢; exact (hE k hk).2.1 z
    · by_cases ke : k = e
      · rw [ke, vu_eq, sset_row _ _ _ (by decide), v36 i hi]
      · rw [vu_ne _ _ ke]; exact f36 1 k hk ke i hi
    · rcases h69 with z | z
      · right; right
        apply Classical.byContradiction
        intro u
        apply all
        refine ⟨fun i hi => ?_, z⟩
        apply Classical.byContradiction
        intro w
        apply u
        refine ⟨i, Nat.zero_le _, hi, ?_⟩
        rw [v36 i hi, v37 i hi]
        intro y
        apply w
        omega
      · left; rw [f69, z]
