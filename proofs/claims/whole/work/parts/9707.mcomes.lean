/-! ===== pure layer: the reference sees whether an entry grew ===== -/
section MCOMES
variable {m : St} {e : Nat} {Q : St → Prop}
theorem cmp_same (he : e < 28) (h69 : m 0 69 = 0) (hr : ∀ i, i < 9 → inR (m 36 (9 * e + i)) ∧ inR (m 37 (141 + i))) (hs : ∀ i, i < 9 → m 36 (9 * e + i) = m 37 (141 + i)) (hQ : Q (sset m 0 69 0)) : ∀ j i fu : Nat, i + j = 9 → j < fu → f_X10_comesTo_L38 Q fu m (e : Int) 1 (i : Int) := by
  intro j
  induction j with
  | zero =>
    intro i fu hi hf
    cases fu with
    | zero => omega
    | succ fu =>
      unfold f_X10_comesTo_L38
      rw [h69]
      refine ⟨⟨by omega, by omega⟩, fun _ => ⟨⟨by decide, by decide⟩, fun u => absurd rfl u, fun _ => ⟨⟨by decide, by decide⟩, fun _ => ?_, fun u => absurd u (by decide)⟩⟩, fun u => by omega⟩
      rintro σ1 rfl
      exact hQ
  | succ j ih =>
    intro i fu hi hf
    cases fu with
    | zero => omega
    | succ fu =>
      have nx := ih (i + 1) fu (by omega) (by omega)
      rw [show ((i + 1 : Nat) : Int) = (i : Int) + 1 from by omega] at nx
      have e1 : (9 * (e : Int) + (i : Int)).toNat = 9 * e + i := by omega
      have e2 : (141 + (i : Int)).toNat = 141 + i := by omega
      obtain ⟨r1, r2⟩ := hr i (by omega)
      unfold f_X10_comesTo_L38
      rw [e1, e2]
      exact ⟨⟨by omega, by omega⟩, fun u => by omega, fun _ => ⟨⟨by decide, by decide⟩, fun u => absurd u (by decide), fun _ => ⟨by omega, by omega, by omega, by omega, r1, r2, fun u => absurd (hs i (by omega)) u, fun _ => nx⟩⟩⟩
theorem cmp_diff (he : e < 28) (h69 : m 0 69 = 0 ∨ m 0 69 = 1) (hr : ∀ i, i < 9 → inR (m 36 (9 * e + i)) ∧ inR (m 37 (141 + i))) (hQ : Q (sset m 0 69 1)) : ∀ (j i fu : Nat) (b : Int), i + j = 9 → j < fu → (b = 0 ∨ b = 1) → (m 0 69 = 1 ∨ b = 0 ∨ ∃ k, i ≤ k ∧ k < 9 ∧ m 36 (9 * e + k) ≠ m 37 (141 + k)) → f_X10_comesTo_L38 Q fu m (e : Int) b (i : Int) := by
  intro j
  induction j with
  | zero =>
    intro i fu b hi hf hb hd
    cases fu with
    | zero => omega
    | succ fu =>
      have r69 : inR (m 0 69) := by rcases h69 with u | u <;> rw [u] <;> exact ⟨by decide, by decide⟩
      have rb : inR b := by rcases hb with u | u <;> rw [u] <;> exact ⟨by decide, by decide⟩
      have q96 : f_X10_comesTo_J96 Q m := by
        unfold f_X10_comesTo_J96
        rintro σ1 rfl
        exact hQ
      unfold f_X10_comesTo_L38
      refine ⟨⟨by omega, by omega⟩, fun _ => ⟨r69, fun _ => q96, fun u => ⟨rb, fun w => ?_, fun _ => q96⟩⟩, fun u => by omega⟩
      exfalso
      rcases hd with z | z | ⟨k, z1, z2, -⟩
      · omega
      · exact w z
      · omega
  | succ j ih =>
    intro i fu b hi hf hb hd
    cases fu with
    | zero => omega
    | succ fu =>
      have e1 : (9 * (e : Int) + (i : Int)).toNat = 9 * e + i := by omega
      have e2 : (141 + (i : Int)).toNat = 141 + i := by omega
      have e3 : ((i + 1 : Nat) : Int) = (i : Int) + 1 := by omega
      obtain ⟨r1, r2⟩ := hr i (by omega)
      have rb : inR b := by rcases hb with u | u <;> rw [u] <;> exact ⟨by decide, by decide⟩
      have q76 : f_X10_comesTo_J76 (fun σ' v1' v2' v3' => f_X10_comesTo_L38 Q fu σ' v1' v2' v3') Q m (e : Int) (i : Int) := by
        unfold f_X10_comesTo_J76
        have nx := ih (i + 1) fu 0 (by omega) (by omega) (Or.inl rfl) (Or.inr (Or.inl rfl))
        rw [e3] at nx
        exact nx
      unfold f_X10_comesTo_L38
      rw [e1, e2]
      refine ⟨⟨by omega, by omega⟩, fun u => by omega, fun _ => ⟨rb, fun _ => q76, fun u => ⟨by omega, by omega, by omega, by omega, r1, r2, fun _ => q76, fun w => ?_⟩⟩⟩
      have nx := ih (i + 1) fu 1 (by omega) (by omega) (Or.inr rfl) (by
        rcases hd with z | z | ⟨k, z1, z2, z3⟩
        · exact Or.inl z
        · exact absurd z u
        · by_cases y : k = i
          · rw [y] at z3; exact absurd w z3
          · exact Or.inr (Or.inr ⟨k, by omega, z2, z3⟩))
      rw [e3] at nx
      exact nx
end MCOMES
