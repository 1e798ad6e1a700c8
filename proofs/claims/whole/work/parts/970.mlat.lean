/-! ===== pure layer: what the reference knows ===== -/
/-- in row r, from place a, lies knowledge g -/
def MRg (m : St) (r a : Nat) (g : Nat → Nat) : Prop := m r a = ((g 0 : Nat) : Int) ∧ (g 0 ≠ 0 → ∀ i, i < 9 → m r (a + i) = ((g i : Nat) : Int))
/-- knowledge is copied -/
theorem r_copies {m : St} {a0 a1 a2 a3 : Nat} (h0 : isIA KM a0) (h2 : isIA KM a2) (l0 : a1 + 9 ≤ alen KM a0) (l2 : a3 + 9 ≤ alen KM a2) (hd : a0 ≠ a2 ∨ a1 + 9 ≤ a3 ∨ a3 + 9 ≤ a1) : ∃ m1 : St, (∀ q, q ≠ a2 → m1 q = m q) ∧ (∀ i, i < a3 ∨ a3 + 9 ≤ i → m1 a2 i = m a2 i) ∧ (∀ i, i < 9 → m1 a2 (a3 + i) = m a0 (a1 + i)) ∧ ∀ Q : St → Prop, Q m1 → f_X10_copies a0 (a1 : Int) a2 (a3 : Int) m Q := by
  have key : ∀ (j k : Nat) (m : St), k + j = 9 → ∃ m1 : St, (∀ q, q ≠ a2 → m1 q = m q) ∧ (∀ i, i < a3 + k ∨ a3 + 9 ≤ i → m1 a2 i = m a2 i) ∧ (∀ i, k ≤ i → i < 9 → m1 a2 (a3 + i) = m a0 (a1 + i)) ∧ ∀ (Q : St → Prop) (fu : Nat), j < fu → Q m1 → f_X10_copies_L3 Q fu m a0 (a1 : Int) a2 (a3 : Int) (k : Int) := by
    intro j
    induction j with
    | zero =>
      intro k m hk
      refine ⟨m, fun _ _ => rfl, fun _ _ => rfl, fun i u v => by omega, fun Q fu hf hQ => ?_⟩
      cases fu with
      | zero => omega
      | succ fu =>
        unfold f_X10_copies_L3
        exact ⟨⟨by omega, by omega⟩, fun _ => hQ, fun u => by omega⟩
    | succ j ih =>
      intro k m hk
      obtain ⟨m1, i1, i2, i3, i4⟩ := ih (k + 1) (sset m a2 (a3 + k) (m a0 (a1 + k))) (by omega)
      refine ⟨m1, fun q hq => by rw [i1 q hq, sset_row _ _ _ hq], fun i hi => by rw [i2 i (by omega), sset_place _ _ _ (by omega)], fun i u v => ?_, fun Q fu hf hQ => ?_⟩
      · by_cases g : i = k
        · rw [g, i2 (a3 + k) (by omega), sset_at, vu_eq]
        · rw [i3 i (by omega) v]
          by_cases e : a0 = a2
          · rw [e, sset_place _ _ _ (by omega)]
          · rw [sset_row _ _ _ e]
      · cases fu with
        | zero => omega
        | succ fu =>
          have e1 : ((a1 : Int) + (k : Int)).toNat = a1 + k := by omega
          have e3 : ((a3 : Int) + (k : Int)).toNat = a3 + k := by omega
          unfold f_X10_copies_L3
          rw [e1, e3]
          refine ⟨⟨by omega, by omega⟩, fun u => by omega, fun _ => ⟨h0, by omega, by omega, h2, by omega, by omega, ?_⟩⟩
          rintro σ1 rfl
          exact i4 Q fu (by omega) hQ
  obtain ⟨m1, i1, i2, i3, i4⟩ := key 9 0 m (by decide)
  refine ⟨m1, i1, fun i hi => i2 i (by omega), fun i hi => i3 i (Nat.zero_le _) hi, fun Q hQ => ?_⟩
  exact i4 Q FU (by show 9 < 100000; decide) hQ
theorem MRg_copy {m m1 : St} {a0 a1 a2 a3 : Nat} {g : Nat → Nat} (h : MRg m a0 a1 g) (hc : ∀ i, i < 9 → m1 a2 (a3 + i) = m a0 (a1 + i)) : MRg m1 a2 a3 g := ⟨by have := hc 0 (by decide); rw [Nat.add_zero, Nat.add_zero] at this; rw [this]; exact h.1, fun u i hi => by rw [hc i hi]; exact h.2 u i hi⟩
theorem MRg_keep {m m1 : St} {r a : Nat} {g : Nat → Nat} (h : MRg m r a g) (hc : ∀ i, i < 9 → m1 r (a + i) = m r (a + i)) : MRg m1 r a g := MRg_copy h hc
