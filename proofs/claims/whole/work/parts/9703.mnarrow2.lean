/-! ===== pure layer: the reference narrows by a condition ===== -/
theorem MRg_rng {m1 : St} {a o l h : Nat} {hI : Int} {g : Nat → Nat} (c1 : hI < l → m1 37 a = 0) (c2 : ∀ h : Nat, hI = (h : Int) → l ≤ h → MRg m1 37 a (va_up (va_up g (1 + o) l) (4 + o) h)) (e : hI = (h : Int)) : MRg m1 37 a (rng g o l h) := by
  unfold rng chk
  rw [vu_eq, vu_ne _ _ (by omega), vu_eq]
  by_cases z : h < l
  · rw [if_pos z]; exact MRg_noth (c1 (by omega))
  · rw [if_neg z]; exact c2 h e (by omega)
theorem r_narrows {m : St} {a o k v t : Nat} {g : Nat → Nat} (hk : TRN k o v) (ht : t < 401) (h12 : m 12 t = (k : Int)) (h13 : m 13 t = (o : Int)) (h14 : 2 ≤ k → m 14 t = (v : Int)) (ha : a + 9 ≤ 150) (hg : KV g) (hg0 : g 0 = 1) (mg : MRg m 37 a g) : ∃ m1 : St, (∀ q, q ≠ 37 → m1 q = m q) ∧ (∀ i, i < a ∨ a + 9 ≤ i → m1 37 i = m 37 i) ∧ MRg m1 37 a (opN k o v g) ∧ ∀ Q : St → Prop, Q m1 → f_X10_narrows (a : Int) (t : Int) m Q := by
  rcases hk with ⟨k2, o6⟩ | ⟨k2, k4, o3, v9⟩
  · obtain ⟨m1, i1, i2, i3, i4⟩ := r_cut (b := k) o6 k2 ha hg hg0 mg
    refine ⟨m1, i1, i2, ?_, fun Q hQ => ?_⟩
    · unfold opN
      have : k = 0 ∨ k = 1 := by omega
      rcases this with rfl | rfl
      · rw [if_pos rfl]; exact i3
      · rw [if_neg (by decide), if_pos rfl]; exact i3
    · have q := (i4 Q hQ).1
      unfold f_X10_narrows
      rw [Int.toNat_natCast, h12, h13]
      refine ⟨by omega, by omega, ?_⟩
      rintro x1 rfl
      refine ⟨by omega, by omega, ?_⟩
      intro x2 _ x3 _ x4 _
      refine ⟨by omega, by omega, ⟨by omega, by omega⟩, fun u => by omega, fun _ => ⟨by omega, by omega, by omega, by omega, ⟨by omega, by omega⟩, fun u => ?_, fun u => ?_⟩⟩
      · have : k = 1 := by omega
        subst this
        exact q
      · have : k = 0 := by omega
        subst this
        exact q
  · have h14' := h14 k2
    have r1 : g (1 + o) ≤ g (4 + o) ∧ g (4 + o) ≤ 9 := by
      rcases hg with w | w
      · omega
      · exact w.2.1 o o3
    have m1' : m 37 (a + 1 + o) = ((g (1 + o) : Nat) : Int) := by rw [Nat.add_assoc]; exact mg.2 (by omega) (1 + o) (by omega)
    have m4' : m 37 (a + 4 + o) = ((g (4 + o) : Nat) : Int) := by rw [Nat.add_assoc]; exact mg.2 (by omega) (4 + o) (by omega)
    have e1 : ((a : Int) + 1 + (o : Int)).toNat = a + 1 + o := by omega
    have e4 : ((a : Int) + 4 + (o : Int)).toNat = a + 4 + o := by omega
    have kk : k = 2 ∨ k = 3 ∨ k = 4 := by omega
    rcases kk with rfl | rfl | rfl
    · -- below
      obtain ⟨hI, hhI⟩ : ∃ hI : Int, hI = if ((g (4 + o) : Nat) : Int) ≤ (v : Int) - 1 then ((g (4 + o) : Nat) : Int) else (v : Int) - 1 := ⟨_, rfl⟩
      have hb : -5 ≤ hI ∧ hI ≤ 20 := by rw [hhI]; split <;> omega
      obtain ⟨m1, i1, i2, i3, i4, i5⟩ := r_checks (m := m) (m' := sset m 37 (a + 4 + o) hI) (l := g (1 + o)) (hI := hI) o3 ha hg0 mg (fun q hq => sset_row _ _ _ hq) (fun i _ w => sset_place _ _ _ w) (by rw [sset_place _ _ _ (by omega), m1']) (by omega) (by rw [sset_at, vu_eq]) hb
      refine ⟨m1, i1, i2, ?_, fun Q hQ => ?_⟩
      · unfold opN
        rw [if_neg (by decide), if_neg (by decide), if_pos rfl]
        by_cases z : v = 0
        · rw [if_pos z]
          exact MRg_noth (i3 (by rw [hhI]; split <;> omega))
        · rw [if_neg z]
          exact MRg_rng i3 i4 (by rw [hhI]; split <;> omega)
      · have q := i5 Q hQ
        have j174 : f_X10_narrows_J174 Q (sset m 37 (a + 4 + o) hI) (a : Int) (t : Int) (o : Int) (v : Int) ((a : Int) + 1 + (o : Int)) := by
          unfold f_X10_narrows_J174 f_X10_narrows_J236
          rw [Int.toNat_natCast, sset_row _ _ _ (by decide), h12]
          exact ⟨by omega, by omega, ⟨by decide, by decide⟩, fun _ => q, fun u => absurd rfl u⟩
        unfold f_X10_narrows
        rw [Int.toNat_natCast, h12, h13, h14']
        refine ⟨by omega, by omega, ?_⟩
        rintro x1 rfl
        refine ⟨by omega, by omega, ?_⟩
        rintro x2 rfl x3 rfl x4 rfl
        refine ⟨by omega, by omega, ⟨by decide, by decide⟩, fun _ => ⟨by omega, by omega, ⟨by decide, by decide⟩, fun u => absurd u (by decide), fun _ => ⟨by omega, by omega, ⟨by decide, by decide⟩, fun u => absurd rfl u, fun _ => ?_⟩⟩, fun u => absurd (by decide) u⟩
        unfold f_X10_narrows_J141 f_X10_narrows_J173
        rw [e4, m4']
        refine ⟨by omega, by omega, ⟨by omega, by omega⟩, ⟨by omega, by omega⟩, fun u => ⟨by omega, by omega, by omega, by omega, ?_⟩, fun u => ⟨by omega, by omega, ?_⟩⟩
        · rintro σ1 rfl
          rw [hhI, if_pos u] at j174; exact j174
        · rintro σ1 rfl
          rw [hhI, if_neg u] at j174; exact j174
    · -- above
      obtain ⟨m1, i1, i2, i3, i4, i5⟩ := r_checks (m := m) (m' := sset m 37 (a + 1 + o) ((max (g (1 + o)) (v + 1) : Nat) : Int)) (l := max (g (1 + o)) (v + 1)) (hI := ((g (4 + o) : Nat) : Int)) o3 ha hg0 mg (fun q hq => sset_row _ _ _ hq) (fun i w _ => sset_place _ _ _ w) (by rw [sset_at, vu_eq]) (by omega) (by rw [sset_place _ _ _ (by omega), m4']) (by omega)
      refine ⟨m1, i1, i2, ?_, fun Q hQ => ?_⟩
      · unfold opN
        rw [if_neg (by decide), if_neg (by decide), if_neg (by decide), if_pos rfl]
        exact MRg_rng i3 i4 rfl
      · have q := i5 Q hQ
        unfold f_X10_narrows
        rw [Int.toNat_natCast, h12, h13, h14']
        refine ⟨by omega, by omega, ?_⟩
        rintro x1 rfl
        refine ⟨by omega, by omega, ?_⟩
        rintro x2 rfl x3 rfl x4 rfl
        refine ⟨by omega, by omega, ⟨by decide, by decide⟩, fun _ => ⟨by omega, by omega, ⟨by decide, by decide⟩, fun _ => ?_, fun u => absurd rfl u⟩, fun u => absurd (by decide) u⟩
        unfold f_X10_narrows_J174
        rw [Int.toNat_natCast, h12]
        refine ⟨by omega, by omega, ⟨by decide, by decide⟩, fun u => absurd u (by decide), fun _ => ⟨by omega, by omega, ⟨by decide, by decide⟩, fun u => absurd rfl u, fun _ => ?_⟩⟩
        unfold f_X10_narrows_J203 f_X10_narrows_J235 f_X10_narrows_J236
        rw [e1, m1']
        refine ⟨by omega, by omega, ⟨by omega, by omega⟩, ⟨by omega, by omega⟩, fun u => ⟨by omega, by omega, by omega, by omega, ?_⟩, fun u => ⟨by omega, by omega, ?_⟩⟩
        · rintro σ1 rfl
          rw [Nat.max_eq_left (by omega)] at q; exact q
        · rintro σ1 rfl
          rw [Nat.max_eq_right (by omega), show ((v + 1 : Nat) : Int) = (v : Int) + 1 from by omega] at q; exact q
    · -- equal
      obtain ⟨m1, i1, i2, i3, i4, i5⟩ := r_checks (m := m) (m' := sset (sset m 37 (a + 4 + o) ((min (g (4 + o)) v : Nat) : Int)) 37 (a + 1 + o) ((max (g (1 + o)) v : Nat) : Int)) (l := max (g (1 + o)) v) (hI := ((min (g (4 + o)) v : Nat) : Int)) o3 ha hg0 mg (fun q hq => by rw [sset_row _ _ _ hq, sset_row _ _ _ hq]) (fun i w w' => by rw [sset_place _ _ _ w, sset_place _ _ _ w']) (by rw [sset_at, vu_eq]) (by omega) (by rw [sset_place _ _ _ (by omega), sset_at, vu_eq]) (by omega)
      refine ⟨m1, i1, i2, ?_, fun Q hQ => ?_⟩
      · unfold opN
        rw [if_neg (by decide), if_neg (by decide), if_neg (by decide), if_neg (by decide)]
        exact MRg_rng i3 i4 rfl
      · have q := i5 Q hQ
        have j174 : f_X10_narrows_J174 Q (sset m 37 (a + 4 + o) ((min (g (4 + o)) v : Nat) : Int)) (a : Int) (t : Int) (o : Int) (v : Int) ((a : Int) + 1 + (o : Int)) := by
          unfold f_X10_narrows_J174
          rw [Int.toNat_natCast, sset_row _ _ _ (by decide), h12]
          refine ⟨by omega, by omega, ⟨by decide, by decide⟩, fun u => absurd u (by decide), fun _ => ⟨by omega, by omega, ⟨by decide, by decide⟩, fun _ => ?_, fun u => absurd u (by decide)⟩⟩
          unfold f_X10_narrows_J203 f_X10_narrows_J235 f_X10_narrows_J236
          rw [e1, sset_place _ _ _ (by omega), m1']
          refine ⟨by omega, by omega, ⟨by omega, by omega⟩, ⟨by omega, by omega⟩, fun u => ⟨by omega, by omega, by omega, by omega, ?_⟩, fun u => ⟨by omega, by omega, ?_⟩⟩
          · rintro σ1 rfl
            rw [Nat.max_eq_left (by omega)] at q; exact q
          · rintro σ1 rfl
            rw [Nat.max_eq_right (by omega)] at q; exact q
        unfold f_X10_narrows
        rw [Int.toNat_natCast, h12, h13, h14']
        refine ⟨by omega, by omega, ?_⟩
        rintro x1 rfl
        refine ⟨by omega, by omega, ?_⟩
        rintro x2 rfl x3 rfl x4 rfl
        refine ⟨by omega, by omega, ⟨by decide, by decide⟩, fun _ => ⟨by omega, by omega, ⟨by decide, by decide⟩, fun u => absurd u (by decide), fun _ => ⟨by omega, by omega, ⟨by decide, by decide⟩, fun _ => ?_, fun u => absurd u (by decide)⟩⟩, fun u => absurd (by decide) u⟩
        unfold f_X10_narrows_J141 f_X10_narrows_J173
        rw [e4, m4']
        refine ⟨by omega, by omega, ⟨by omega, by omega⟩, ⟨by omega, by omega⟩, fun u => ⟨by omega, by omega, by omega, by omega, ?_⟩, fun u => ⟨by omega, by omega, ?_⟩⟩
        · rintro σ1 rfl
          rw [Nat.min_eq_left (by omega)] at j174; exact j174
        · rintro σ1 rfl
          rw [Nat.min_eq_right (by omega)] at j174; exact j174
