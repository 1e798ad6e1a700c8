/-! ===== pure layer: the reference joins ===== -/
/-- while ranges are joined -/
def JIx (m m' : St) (a0 a1 a2 a3 : Nat) (g h : Nat → Nat) (k : Nat) : Prop := (∀ q, q ≠ a0 → m' q = m q) ∧ (∀ i, i ≤ a1 ∨ a1 + 9 ≤ i → m' a0 i = m a0 i) ∧ (∀ i, i < 3 → m' a0 (a1 + 1 + i) = ((if i < k then min (g (1 + i)) (h (1 + i)) else g (1 + i) : Nat) : Int)) ∧ (∀ i, i < 3 → m' a0 (a1 + 4 + i) = ((if i < k then max (g (4 + i)) (h (4 + i)) else g (4 + i) : Nat) : Int)) ∧ (m' a0 (a1 + 7) = ((g 7 : Nat) : Int) ∧ m' a0 (a1 + 8) = ((g 8 : Nat) : Int)) ∧ ∀ i, i < 9 → m' a2 (a3 + i) = ((h i : Nat) : Int)
theorem JIx_step {m m' : St} {a0 a1 a2 a3 k : Nat} {g h : Nat → Nat} (hk : k < 3) (hd : a0 ≠ a2 ∨ a1 + 9 ≤ a3 ∨ a3 + 9 ≤ a1) (hi : JIx m m' a0 a1 a2 a3 g h k) : JIx m (sset (sset m' a0 (a1 + 1 + k) ((min (g (1 + k)) (h (1 + k)) : Nat) : Int)) a0 (a1 + 4 + k) ((max (g (4 + k)) (h (4 + k)) : Nat) : Int)) a0 a1 a2 a3 g h (k + 1) := by
  obtain ⟨b1, b2, b3, b4, ⟨b5, b6⟩, b7⟩ := hi
  refine ⟨fun q hq => by rw [sset_row _ _ _ hq, sset_row _ _ _ hq, b1 q hq], fun i hi => by rw [sset_place _ _ _ (by omega), sset_place _ _ _ (by omega), b2 i hi], fun i hi => ?_, fun i hi => ?_, ⟨by rw [sset_place _ _ _ (by omega), sset_place _ _ _ (by omega), b5], by rw [sset_place _ _ _ (by omega), sset_place _ _ _ (by omega), b6]⟩, fun i hi => ?_⟩
  · rw [sset_place _ _ _ (by omega)]
    by_cases e : i = k
    · rw [e, sset_at, vu_eq, if_pos (by omega)]
    · rw [sset_place _ _ _ (by omega), b3 i hi]
      by_cases z : i < k
      · rw [if_pos z, if_pos (by omega)]
      · rw [if_neg z, if_neg (by omega)]
  · by_cases e : i = k
    · rw [e, sset_at, vu_eq, if_pos (by omega)]
    · rw [sset_place _ _ _ (by omega), sset_place _ _ _ (by omega), b4 i hi]
      by_cases z : i < k
      · rw [if_pos z, if_pos (by omega)]
      · rw [if_neg z, if_neg (by omega)]
  · by_cases e : a2 = a0
    · rw [e, sset_place _ _ _ (by omega), sset_place _ _ _ (by omega), ← e, b7 i hi]
    · rw [sset_row _ _ _ e, sset_row _ _ _ e, b7 i hi]
/-- knowledge is joined -/
theorem r_joins {m : St} {a0 a1 a2 a3 : Nat} {g h : Nat → Nat} (h0 : isIA KM a0) (h2 : isIA KM a2) (l0 : a1 + 9 ≤ alen KM a0) (l2 : a3 + 9 ≤ alen KM a2) (hd : a0 ≠ a2 ∨ a1 + 9 ≤ a3 ∨ a3 + 9 ≤ a1) (hg : KV g) (hh : KV h) (mg : MRg m a0 a1 g) (mh : MRg m a2 a3 h) : ∃ m1 : St, (∀ q, q ≠ a0 → m1 q = m q) ∧ (∀ i, i < a1 ∨ a1 + 9 ≤ i → m1 a0 i = m a0 i) ∧ MRg m1 a0 a1 (jn g h) ∧ ∀ Q : St → Prop, Q m1 → f_X10_joins a0 (a1 : Int) a2 (a3 : Int) m Q := by
  have z1 : ((a1 : Int) + 0).toNat = a1 := by omega
  have z3 : ((a3 : Int) + 0).toNat = a3 := by omega
  have rh : inR (m a2 a3) := by rw [mh.1]; rcases KV_01 hh with u | u <;> rw [u] <;> exact ⟨by decide, by decide⟩
  have rg : inR (m a0 a1) := by rw [mg.1]; rcases KV_01 hg with u | u <;> rw [u] <;> exact ⟨by decide, by decide⟩
  by_cases uh : h 0 = 0
  · refine ⟨m, fun _ _ => rfl, fun _ _ => rfl, ?_, fun Q hQ => ?_⟩
    · unfold jn
      by_cases ug : g 0 = 0
      · rw [if_pos ug]
        exact ⟨by rw [mg.1, ug, uh], fun u => absurd uh u⟩
      · rw [if_neg ug, if_pos uh]; exact mg
    · unfold f_X10_joins
      rw [z3]
      exact ⟨h2, by omega, by omega, rh, fun u => absurd (by rw [mh.1, uh]; rfl) u, fun _ => hQ⟩
  · by_cases ug : g 0 = 0
    · obtain ⟨m1, i1, i2, i3, i4⟩ := r_copies (m := m) h2 h0 l2 l0 (by omega)
      refine ⟨m1, i1, i2, ?_, fun Q hQ => ?_⟩
      · unfold jn
        rw [if_pos ug]; exact MRg_copy mh i3
      · unfold f_X10_joins
        rw [z3, z1]
        exact ⟨h2, by omega, by omega, rh, fun _ => ⟨h0, by omega, by omega, rg, fun u => absurd (by rw [mg.1, ug]; rfl) u, fun _ => i4 _ hQ⟩, fun u => by rw [mh.1] at u; omega⟩
    · have vg := mg.2 ug
      have vh := mh.2 uh
      obtain ⟨kg0, kg1, kg2, -, kg4⟩ : g 0 = 1 ∧ (∀ i, i < 3 → g (1 + i) ≤ g (4 + i) ∧ g (4 + i) ≤ 9) ∧ g 7 < 4096 ∧ (∀ f, f < 6 → g 7 / 2 ^ (2 * f) % 4 ≠ 0) ∧ g 8 < 8192 := by
        rcases hg with w | w
        · exact absurd w ug
        · exact w
      obtain ⟨kh0, kh1, kh2, -, kh4⟩ : h 0 = 1 ∧ (∀ i, i < 3 → h (1 + i) ≤ h (4 + i) ∧ h (4 + i) ≤ 9) ∧ h 7 < 4096 ∧ (∀ f, f < 6 → h 7 / 2 ^ (2 * f) % 4 ≠ 0) ∧ h 8 < 8192 := by
        rcases hh with w | w
        · exact absurd w uh
        · exact w
      have key : ∀ (j k : Nat) (m' : St), k + j = 3 → JIx m m' a0 a1 a2 a3 g h k → ∃ m1 : St, JIx m m1 a0 a1 a2 a3 g h 3 ∧ ∀ (Q : St → Prop) (fu : Nat), j < fu → Q (sset (sset m1 a0 (a1 + 7) ((g 7 ||| h 7 : Nat) : Int)) a0 (a1 + 8) ((g 8 ||| h 8 : Nat) : Int)) → f_X10_joins_L28 Q fu m' a0 (a1 : Int) a2 (a3 : Int) (k : Int) := by
        intro j
        induction j with
        | zero =>
          intro k m' hk hi
          have : k = 3 := by omega
          subst this
          refine ⟨m', hi, fun Q fu hf hQ => ?_⟩
          obtain ⟨b1, b2, b3, b4, ⟨b5, b6⟩, b7⟩ := hi
          cases fu with
          | zero => omega
          | succ fu =>
            have e7 : ((a1 : Int) + 7).toNat = a1 + 7 := by omega
            have e8 : ((a1 : Int) + 8).toNat = a1 + 8 := by omega
            have f7 : ((a3 : Int) + 7).toNat = a3 + 7 := by omega
            have f8 : ((a3 : Int) + 8).toNat = a3 + 8 := by omega
            unfold f_X10_joins_L28
            refine ⟨⟨by decide, by decide⟩, fun _ => ⟨h0, by omega, by omega, h2, by omega, by omega, by omega, by omega, ?_⟩, fun u => absurd (by decide) u⟩
            rw [e7, f7, b5, b7 7 (by decide), ior_nat (by omega) (by omega)]
            rintro σ1 rfl
            refine ⟨by omega, by omega, by omega, by omega, by omega, by omega, ?_⟩
            have s8 : sset m' a0 (a1 + 7) ((g 7 ||| h 7 : Nat) : Int) a2 (a3 + 8) = ((h 8 : Nat) : Int) := by
              by_cases e : a2 = a0
              · rw [e, sset_place _ _ _ (by omega), ← e, b7 8 (by decide)]
              · rw [sset_row _ _ _ e, b7 8 (by decide)]
            rw [e8, f8, sset_place _ _ _ (by omega), b6, s8, ior_nat (by omega) (by omega)]
            rintro σ2 rfl
            exact hQ
        | succ j ih =>
          intro k m' hk hi
          have hk3 : k < 3 := by omega
          obtain ⟨m1, i1, i2⟩ := ih (k + 1) _ (by omega) (JIx_step hk3 hd hi)
          refine ⟨m1, i1, fun Q fu hf hQ => ?_⟩
          obtain ⟨b1, b2, b3, b4, ⟨b5, b6⟩, b7⟩ := hi
          cases fu with
          | zero => omega
          | succ fu =>
            have nx := i2 Q fu (by omega) hQ
            have e1 : ((a1 : Int) + 1 + (k : Int)).toNat = a1 + 1 + k := by omega
            have e4 : ((a1 : Int) + 4 + (k : Int)).toNat = a1 + 4 + k := by omega
            have f1 : ((a3 : Int) + 1 + (k : Int)).toNat = a3 + (1 + k) := by omega
            have f4 : ((a3 : Int) + 4 + (k : Int)).toNat = a3 + (4 + k) := by omega
            have g1 := b3 k hk3
            have g4 := b4 k hk3
            rw [if_neg (Nat.lt_irrefl k)] at g1 g4
            have x1 := kg1 k hk3
            have y1 := kh1 k hk3
            have w1 := b7 (1 + k) (by omega)
            have w4 := b7 (4 + k) (by omega)
            have mid : f_X10_joins_J79 (fun σ' v0' v1' v2' v3' v4' => f_X10_joins_L28 Q fu σ' v0' v1' v2' v3' v4') Q m' a0 (a1 : Int) a2 (a3 : Int) (k : Int) a0 ((a1 : Int) + 1 + (k : Int)) ((min (g (1 + k)) (h (1 + k)) : Nat) : Int) := by
              unfold f_X10_joins_J79
              refine ⟨h0, by omega, by omega, ?_⟩
              rintro σ1 rfl
              have s4 : sset m' a0 (a1 + 1 + k) ((min (g (1 + k)) (h (1 + k)) : Nat) : Int) a2 (a3 + (4 + k)) = ((h (4 + k) : Nat) : Int) := by
                by_cases e : a2 = a0
                · rw [e, sset_place _ _ _ (by omega), ← e, w4]
                · rw [sset_row _ _ _ e, w4]
              have t4 : sset m' a0 (a1 + 1 + k) ((min (g (1 + k)) (h (1 + k)) : Nat) : Int) a0 (a1 + 4 + k) = ((g (4 + k) : Nat) : Int) := by rw [sset_place _ _ _ (by omega), g4]
              rw [e1, e4, f4, s4, t4]
              refine ⟨h2, by omega, by omega, h0, by omega, by omega, ⟨by omega, by omega⟩, ⟨by omega, by omega⟩, fun u => ⟨by omega, by omega, by omega, by omega, ?_⟩, fun u => ⟨by omega, by omega, by omega, by omega, ?_⟩⟩
              · rintro σ2 rfl
                rw [Nat.max_eq_left (by omega)] at nx; exact nx
              · rintro σ2 rfl
                rw [Nat.max_eq_right (by omega)] at nx; exact nx
            unfold f_X10_joins_L28
            rw [e1, f1, g1, w1]
            refine ⟨⟨by omega, by omega⟩, fun u => by omega, fun _ => ⟨h2, by omega, by omega, h0, by omega, by omega, ⟨by omega, by omega⟩, ⟨by omega, by omega⟩, fun u => ⟨by omega, by omega, ?_⟩, fun u => ⟨by omega, by omega, ?_⟩⟩⟩
            · rw [Nat.min_eq_left (by omega)] at mid; exact mid
            · rw [Nat.min_eq_right (by omega)] at mid; exact mid
      have i0 : JIx m m a0 a1 a2 a3 g h 0 := ⟨fun _ _ => rfl, fun _ _ => rfl, fun i hi => by rw [if_neg (by omega), ← vg (1 + i) (by omega)]; exact congrArg (m a0) (by omega), fun i hi => by rw [if_neg (by omega), ← vg (4 + i) (by omega)]; exact congrArg (m a0) (by omega), ⟨vg 7 (by decide), vg 8 (by decide)⟩, vh⟩
      obtain ⟨m1, ⟨b1, b2, b3, b4, -, -⟩, i2⟩ := key 3 0 m (by decide) i0
      refine ⟨sset (sset m1 a0 (a1 + 7) ((g 7 ||| h 7 : Nat) : Int)) a0 (a1 + 8) ((g 8 ||| h 8 : Nat) : Int), fun q hq => by rw [sset_row _ _ _ hq, sset_row _ _ _ hq, b1 q hq], fun i hi => by rw [sset_place _ _ _ (by omega), sset_place _ _ _ (by omega), b2 i (by omega)], ?_, fun Q hQ => ?_⟩
      · have ej : jn g h = fun i => if i = 0 then 1 else if i ≤ 3 then min (g i) (h i) else if i ≤ 6 then max (g i) (h i) else if i ≤ 9 then g i ||| h i else g i &&& h i := by unfold jn; rw [if_neg ug, if_neg uh]
        have ev : ∀ i, jn g h i = if i = 0 then 1 else if i ≤ 3 then min (g i) (h i) else if i ≤ 6 then max (g i) (h i) else if i ≤ 9 then g i ||| h i else g i &&& h i := fun i => by rw [ej]
        have p0 : m1 a0 a1 = ((1 : Nat) : Int) := by rw [b2 a1 (by omega), mg.1, kg0]
        refine ⟨?_, fun _ i hi => ?_⟩
        · rw [sset_place _ _ _ (by omega), sset_place _ _ _ (by omega), p0, ev 0, if_pos rfl]
        · rw [ev i]
          by_cases w0 : i = 0
          · subst w0
            rw [if_pos rfl, sset_place _ _ _ (by omega), sset_place _ _ _ (by omega)]
            exact p0
          · rw [if_neg w0]
            by_cases w3 : i ≤ 3
            · rw [if_pos w3]
              obtain ⟨t, rfl⟩ : ∃ t, i = 1 + t := ⟨i - 1, by omega⟩
              have := b3 t (by omega)
              rw [if_pos (by omega)] at this
              rw [sset_place _ _ _ (by omega), sset_place _ _ _ (by omega), ← Nat.add_assoc, this]
            · rw [if_neg w3]
              by_cases w6 : i ≤ 6
              · rw [if_pos w6]
                obtain ⟨t, rfl⟩ : ∃ t, i = 4 + t := ⟨i - 4, by omega⟩
                have := b4 t (by omega)
                rw [if_pos (by omega)] at this
                rw [sset_place _ _ _ (by omega), sset_place _ _ _ (by omega), ← Nat.add_assoc, this]
              · rw [if_neg w6, if_pos (by omega)]
                by_cases w7 : i = 7
                · subst w7
                  rw [sset_place _ _ _ (by omega), sset_at, vu_eq]
                · have : i = 8 := by omega
                  subst this
                  rw [sset_at, vu_eq]
      · unfold f_X10_joins
        rw [z3, z1]
        exact ⟨h2, by omega, by omega, rh, fun _ => ⟨h0, by omega, by omega, rg, fun _ => i2 Q FU (by show 3 < 100000; decide) hQ, fun u => by rw [mg.1] at u; omega⟩, fun u => by rw [mh.1] at u; omega⟩
