/-! ===== pure layer: the reference narrows by the opposite of a condition ===== -/
theorem r_widensNot {m : St} {a o k v t : Nat} {g : Nat → Nat} (hk : TRN k o v) (ht : t < 401) (h12 : m 12 t = (k : Int)) (h13 : m 13 t = (o : Int)) (h14 : 2 ≤ k → m 14 t = (v : Int)) (ha : a + 9 ≤ 150) (hg : KV g) (hg0 : g 0 = 1) (mg : MRg m 37 a g) : ∃ m1 : St, (∀ q, q ≠ 37 → m1 q = m q) ∧ (∀ i, i < a ∨ a + 9 ≤ i → m1 37 i = m 37 i) ∧ MRg m1 37 a (opO k o v g) ∧ ∀ Q : St → Prop, Q m1 → f_X10_widensNot (a : Int) (t : Int) m Q := by
  rcases hk with ⟨k2, o6⟩ | ⟨k2, k4, o3, v9⟩
  · obtain ⟨m1, i1, i2, i3, i4⟩ := r_cut (b := 1 - k) o6 (by omega) ha hg hg0 mg
    refine ⟨m1, i1, i2, ?_, fun Q hQ => ?_⟩
    · unfold opO
      have : k = 0 ∨ k = 1 := by omega
      rcases this with rfl | rfl
      · rw [if_pos rfl]; exact i3
      · rw [if_neg (by decide), if_pos rfl]; exact i3
    · have q := (i4 Q hQ).2
      unfold f_X10_widensNot
      rw [Int.toNat_natCast, h12, h13]
      refine ⟨by omega, by omega, ?_⟩
      rintro x1 rfl
      refine ⟨by omega, by omega, ?_⟩
      intro x2 _ x3 _ x4 _
      refine ⟨by omega, by omega, ⟨by omega, by omega⟩, fun u => by omega, fun _ => ⟨by omega, by omega, by omega, by omega, ⟨by omega, by omega⟩, fun u => ?_, fun u => ?_⟩⟩
      · have : k = 1 := by omega
        subst this
        exact q
      · have : k = 0 := by omega
        subst this
        exact q
  · have h14' := h14 k2
    have r1 : g (1 + o) ≤ g (4 + o) ∧ g (4 + o) ≤ 9 := by
      rcases hg with w | w
      · omega
      · exact w.2.1 o o3
    have m1' : m 37 (a + 1 + o) = ((g (1 + o) : Nat) : Int) := by rw [Nat.add_assoc]; exact mg.2 (by omega) (1 + o) (by omega)
    have m4' : m 37 (a + 4 + o) = ((g (4 + o) : Nat) : Int) := by rw [Nat.add_assoc]; exact mg.2 (by omega) (4 + o) (by omega)
    have e1 : ((a : Int) + 1 + (o : Int)).toNat = a + 1 + o := by omega
    have e4 : ((a : Int) + 4 + (o : Int)).toNat = a + 4 + o := by omega
    have kk : k = 2 ∨ k = 3 ∨ k = 4 := by omega
    rcases kk with rfl | rfl | rfl
    · -- not below
      obtain ⟨m1, i1, i2, i3, i4, i5⟩ := r_checks (m := m) (m' := sset m 37 (a + 1 + o) ((max (g (1 + o)) v : Nat) : Int)) (l := max (g (1 + o)) v) (hI := ((g (4 + o) : Nat) : Int)) o3 ha hg0 mg (fun q hq => sset_row _ _ _ hq) (fun i w _ => sset_place _ _ _ w) (by rw [sset_at, vu_eq]) (by omega) (by rw [sset_place _ _ _ (by omega), m4']) (by omega)
      refine ⟨m1, i1, i2, ?_, fun Q hQ => ?_⟩
      · unfold opO
        rw [if_neg (by decide), if_neg (by decide), if_pos rfl]
        exact MRg_rng i3 i4 rfl
      · have q := i5 Q hQ
        unfold f_X10_widensNot
        rw [Int.toNat_natCast, h12, h13, h14']
        refine ⟨by omega, by omega, ?_⟩
        rintro x1 rfl
        refine ⟨by omega, by omega, ?_⟩
        rintro x2 rfl x3 rfl x4 rfl
        refine ⟨by omega, by omega, ⟨by decide, by decide⟩, fun _ => ⟨by omega, by omega, ⟨by decide, by decide⟩, fun u => absurd rfl u, fun _ => ?_⟩, fun u => absurd (by decide) u⟩
        unfold f_X10_widensNot_J152 f_X10_widensNot_J254
        rw [e1, m1']
        refine ⟨by omega, by omega, ⟨by omega, by omega⟩, ⟨by omega, by omega⟩, fun u => ⟨by omega, by omega, by omega, by omega, ?_⟩, fun u => ⟨by omega, by omega, ?_⟩⟩
        · rintro σ1 rfl
          rw [Nat.max_eq_left (by omega)] at q; exact q
        · rintro σ1 rfl
          rw [Nat.max_eq_right (by omega)] at q; exact q
    · -- not above
      obtain ⟨m1, i1, i2, i3, i4, i5⟩ := r_checks (m := m) (m' := sset m 37 (a + 4 + o) ((min (g (4 + o)) v : Nat) : Int)) (l := g (1 + o)) (hI := ((min (g (4 + o)) v : Nat) : Int)) o3 ha hg0 mg (fun q hq => sset_row _ _ _ hq) (fun i _ w => sset_place _ _ _ w) (by rw [sset_place _ _ _ (by omega), m1']) (by omega) (by rw [sset_at, vu_eq]) (by omega)
      refine ⟨m1, i1, i2, ?_, fun Q hQ => ?_⟩
      · unfold opO
        rw [if_neg (by decide), if_neg (by decide), if_neg (by decide), if_pos rfl]
        exact MRg_rng i3 i4 rfl
      · have q := i5 Q hQ
        unfold f_X10_widensNot
        rw [Int.toNat_natCast, h12, h13, h14']
        refine ⟨by omega, by omega, ?_⟩
        rintro x1 rfl
        refine ⟨by omega, by omega, ?_⟩
        rintro x2 rfl x3 rfl x4 rfl
        refine ⟨by omega, by omega, ⟨by decide, by decide⟩, fun _ => ⟨by omega, by omega, ⟨by decide, by decide⟩, fun _ => ⟨by omega, by omega, ⟨by decide, by decide⟩, fun u => absurd rfl u, fun _ => ?_⟩, fun u => absurd u (by decide)⟩, fun u => absurd (by decide) u⟩
        unfold f_X10_widensNot_J196 f_X10_widensNot_J254
        rw [e4, m4']
        refine ⟨by omega, by omega, ⟨by omega, by omega⟩, ⟨by omega, by omega⟩, fun u => ⟨by omega, by omega, by omega, by omega, ?_⟩, fun u => ⟨by omega, by omega, ?_⟩⟩
        · rintro σ1 rfl
          rw [Nat.min_eq_left (by omega)] at q; exact q
        · rintro σ1 rfl
          rw [Nat.min_eq_right (by omega)] at q; exact q
    · -- not equal
      obtain ⟨l, hl⟩ : ∃ l : Nat, l = if g (1 + o) = v then g (1 + o) + 1 else g (1 + o) := ⟨_, rfl⟩
      obtain ⟨hI, hhI⟩ : ∃ hI : Int, hI = if g (4 + o) = v then ((g (4 + o) : Nat) : Int) - 1 else ((g (4 + o) : Nat) : Int) - 0 := ⟨_, rfl⟩
      have hb : -5 ≤ hI ∧ hI ≤ 20 := by rw [hhI]; split <;> omega
      have lb : l ≤ 20 := by rw [hl]; split <;> omega
      obtain ⟨m1, i1, i2, i3, i4, i5⟩ := r_checks (m := m) (m' := sset (sset m 37 (a + 1 + o) (l : Int)) 37 (a + 4 + o) hI) (l := l) (hI := hI) o3 ha hg0 mg (fun q hq => by rw [sset_row _ _ _ hq, sset_row _ _ _ hq]) (fun i w w' => by rw [sset_place _ _ _ w', sset_place _ _ _ w]) (by rw [sset_place _ _ _ (by omega), sset_at, vu_eq]) lb (by rw [sset_at, vu_eq]) hb
      refine ⟨m1, i1, i2, ?_, fun Q hQ => ?_⟩
      · unfold opO
        rw [if_neg (by decide), if_neg (by decide), if_neg (by decide), if_neg (by decide)]
        by_cases z : g (4 + o) = v ∧ v = 0
        · rw [if_pos z]
          exact MRg_noth (i3 (by rw [hhI, if_pos z.1]; omega))
        · rw [if_neg z, ← hl]
          refine MRg_rng i3 i4 ?_
          rw [hhI]
          by_cases w : g (4 + o) = v
          · rw [if_pos w, if_pos w]; omega
          · rw [if_neg w, if_neg w]; omega
      · have q := i5 Q hQ
        have j225 : f_X10_widensNot_J225 Q m (a : Int) (o : Int) (v : Int) ((a : Int) + 4 + (o : Int)) ((a : Int) + 1 + (o : Int)) ((g (1 + o) : Nat) : Int) ((l : Int) - ((g (1 + o) : Nat) : Int)) := by
          unfold f_X10_widensNot_J225
          rw [e1, e4, show ((g (1 + o) : Nat) : Int) + ((l : Int) - ((g (1 + o) : Nat) : Int)) = (l : Int) from by omega]
          refine ⟨by omega, by omega, ?_⟩
          rintro σ1 rfl
          unfold f_X10_widensNot_J252 f_X10_widensNot_J254
          rw [e4, sset_place _ _ _ (by omega), m4']
          refine ⟨by omega, by omega, by omega, by omega, ⟨by omega, by omega⟩, ⟨by omega, by omega⟩, fun u => ⟨by omega, by omega, ?_⟩, fun u => ⟨by omega, by omega, ?_⟩⟩
          · rintro σ1 rfl
            rw [hhI, if_neg (by omega)] at q; exact q
          · rintro σ1 rfl
            rw [hhI, if_pos (by omega)] at q; exact q
        unfold f_X10_widensNot
        rw [Int.toNat_natCast, h12, h13, h14']
        refine ⟨by omega, by omega, ?_⟩
        rintro x1 rfl
        refine ⟨by omega, by omega, ?_⟩
        rintro x2 rfl x3 rfl x4 rfl
        rw [e1, m1']
        refine ⟨by omega, by omega, ⟨by decide, by decide⟩, fun _ => ⟨by omega, by omega, ⟨by decide, by decide⟩, fun _ => ⟨by omega, by omega, ⟨by decide, by decide⟩, fun _ => ⟨by omega, by omega, by omega, by omega, ⟨by omega, by omega⟩, ⟨by omega, by omega⟩, fun u => ?_, fun u => ?_⟩, fun u => absurd u (by decide)⟩, fun u => absurd u (by decide)⟩, fun u => absurd (by decide) u⟩
        · rw [if_neg (by omega)] at hl
          rw [show (l : Int) - ((g (1 + o) : Nat) : Int) = 0 from by omega] at j225; exact j225
        · rw [if_pos (by omega)] at hl
          rw [show (l : Int) - ((g (1 + o) : Nat) : Int) = 1 from by omega] at j225; exact j225
