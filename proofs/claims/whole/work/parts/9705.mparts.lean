/-! ===== pure layer: the reference's true part and false part ===== -/
/-- the reference's terms -/
def MTr (m : St) (k o v : Nat → Nat) (t n : Nat) : Prop := ∀ s, t ≤ s → s < t + n → s < 401 ∧ m 12 s = ((k s : Nat) : Int) ∧ m 13 s = ((o s : Nat) : Int) ∧ (2 ≤ k s → m 14 s = ((v s : Nat) : Int)) ∧ TRN (k s) (o s) (v s)
theorem r_tpl {a x : Nat} {k o v : Nat → Nat} (hx : x < 401) (ha : a + 9 ≤ 150) : ∀ (n t : Nat) (m : St) (g : Nat → Nat), t + n ≤ 401 → MTr m k o v t n → m 11 x = ((t + n : Nat) : Int) → KV g → MRg m 37 a g → ∃ m1 : St, (∀ q, q ≠ 37 → m1 q = m q) ∧ (∀ i, i < a ∨ a + 9 ≤ i → m1 37 i = m 37 i) ∧ MRg m1 37 a (tpF k o v n t g) ∧ ∀ (Q : St → Prop) (fu : Nat), n < fu → Q m1 → f_X10_truePart_L20 Q fu m (x : Int) (a : Int) (t : Int) := by
  intro n
  induction n with
  | zero =>
    intro t m g hn hT h11 hg mg
    refine ⟨m, fun _ _ => rfl, fun _ _ => rfl, mg, fun Q fu hf hQ => ?_⟩
    cases fu with
    | zero => omega
    | succ fu =>
      unfold f_X10_truePart_L20
      rw [Int.toNat_natCast, h11]
      exact ⟨by omega, by omega, ⟨by omega, by omega⟩, ⟨by omega, by omega⟩, fun _ => hQ, fun u => by omega⟩
  | succ n ih =>
    intro t m g hn hT h11 hg mg
    have rg : inR (m 37 a) := by rw [mg.1]; rcases KV_01 hg with u | u <;> rw [u] <;> exact ⟨by decide, by decide⟩
    by_cases g0 : g 0 = 0
    · refine ⟨m, fun _ _ => rfl, fun _ _ => rfl, by unfold tpF; rw [if_pos g0]; exact mg, fun Q fu hf hQ => ?_⟩
      cases fu with
      | zero => omega
      | succ fu =>
        unfold f_X10_truePart_L20
        rw [Int.toNat_natCast, Int.toNat_natCast, h11]
        exact ⟨by omega, by omega, ⟨by omega, by omega⟩, ⟨by omega, by omega⟩, fun u => by omega, fun _ => ⟨by omega, by omega, rg, fun _ => hQ, fun u => by rw [mg.1, g0] at u; exact absurd u (by decide)⟩⟩
    · have g1 : g 0 = 1 := by
        rcases KV_01 hg with u | u
        · exact absurd u g0
        · exact u
      obtain ⟨t1, t2, t3, t4, t5⟩ := hT t (Nat.le_refl _) (by omega)
      obtain ⟨m2, i1, i2, i3, i4⟩ := r_narrows t5 t1 t2 t3 t4 ha hg g1 mg
      have e := TRN_of t5
      obtain ⟨m1, j1, j2, j3, j4⟩ := ih (t + 1) m2 (opN (k t) (o t) (v t) g) (by omega) (fun s u w => by rw [i1 12 (by decide), i1 13 (by decide), i1 14 (by decide)]; exact hT s (by omega) (by omega)) (by rw [i1 11 (by decide), h11, show t + (n + 1) = t + 1 + n from by omega]) (opN_KV e.1 e.2 hg) i3
      refine ⟨m1, fun q hq => by rw [j1 q hq, i1 q hq], fun i hi => by rw [j2 i hi, i2 i hi], by unfold tpF; rw [if_neg g0]; exact j3, fun Q fu hf hQ => ?_⟩
      cases fu with
      | zero => omega
      | succ fu =>
        unfold f_X10_truePart_L20
        rw [Int.toNat_natCast, Int.toNat_natCast, h11]
        refine ⟨by omega, by omega, ⟨by omega, by omega⟩, ⟨by omega, by omega⟩, fun u => by omega, fun _ => ⟨by omega, by omega, rg, fun u => absurd (by rw [mg.1, g1]; rfl) u, fun _ => i4 _ ?_⟩⟩
        have w := j4 Q fu (by omega) hQ
        rw [show ((t + 1 : Nat) : Int) = (t : Int) + 1 from by omega] at w
        exact w
