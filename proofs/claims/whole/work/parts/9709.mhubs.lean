/-! ===== pure layer: the reference's knowledge goes to hubs and to offered choices ===== -/
section MHUBS
variable {g : Nat → Nat}
theorem r_hubsL {U n : Nat} (hU : U < 8192) (hg : KV g) (hg0 : g 0 = 1) : ∀ (j k : Nat) (m : St) (E : Nat → Nat → Nat), k + j = 12 → MEr m E → MRg m 37 0 g → (m 0 69 = 0 ∨ m 0 69 = 1) → ∃ (m1 : St) (E1 : Nat → Nat → Nat), EMr m m1 E E1 g (fun i => k ≤ i ∧ i < 12 ∧ U.testBit i = true) ∧ ∀ (Q : St → Prop) (fu : Nat), j < fu → (U.testBit 12 = true → Q (sset m1 0 73 (ior32 (m1 0 73) (ishl32 1 (n : Int))))) → (U.testBit 12 = false → Q (sset m1 0 73 (ior32 (m1 0 73) 0))) → f_X10_goesToHubs_L10 Q fu m (n : Int) (U : Int) (k : Int) := by
  intro j
  induction j with
  | zero =>
    intro k m E hk hE mg h2
    have : k = 12 := by omega
    subst this
    refine ⟨m, E, EMr_weak (EMr_refl hE h2) (fun i hi => ⟨fun u => u.elim, fun u => by omega⟩), fun Q fu hf h1 h0 => ?_⟩
    cases fu with
    | zero => omega
    | succ fu =>
      have b12 := bit_nat (x := U) (k := 12) (by omega) (by decide)
      rw [show ((12 : Nat) : Int) = 12 from rfl] at b12
      unfold f_X10_goesToHubs_L10
      rw [b12]
      cases q : U.testBit 12
      · exact ⟨⟨by omega, by omega⟩, fun _ => ⟨⟨by decide, by decide⟩, fun _ σ1 f1 => by rw [f1]; exact h0 q, fun u => absurd u (by decide)⟩, fun u => by omega⟩
      · exact ⟨⟨by omega, by omega⟩, fun _ => ⟨⟨by decide, by decide⟩, fun u => absurd rfl u, fun _ σ1 f1 => by rw [f1]; exact h1 q⟩, fun u => by omega⟩
  | succ j ih =>
    intro k m E hk hE mg h2
    cases q : U.testBit k
    · obtain ⟨m1, E1, i1, i2⟩ := ih (k + 1) m E (by omega) hE mg h2
      refine ⟨m1, E1, EMr_weak i1 (fun i hi => ⟨fun u => ⟨by omega, u.2⟩, fun u => ⟨?_, u.2⟩⟩), fun Q fu hf h1 h0 => ?_⟩
      · by_cases z : i = k
        · rw [z, q] at u; exact absurd u.2.2 (by decide)
        · omega
      · cases fu with
        | zero => omega
        | succ fu =>
          unfold f_X10_goesToHubs_L10
          rw [bit_nat (x := U) (k := k) (by omega) (by omega), q]
          refine ⟨⟨by omega, by omega⟩, fun u => by omega, fun _ => ⟨⟨by decide, by decide⟩, fun _ => ?_, fun u => absurd u (by decide)⟩⟩
          exact i2 Q fu (by omega) h1 h0
    · obtain ⟨m2, E2, j1, j2⟩ := r_comesTo (e := k) (by omega) hE hg hg0 mg h2
      have mg2 : MRg m2 37 0 g := MRg_keep mg (fun i hi => j1.2.2.2.2.2.1 (0 + i) (by omega))
      obtain ⟨m1, E1, i1, i2⟩ := ih (k + 1) m2 E2 (by omega) j1.1 mg2 j1.2.2.2.2.2.2.2.1
      refine ⟨m1, E1, EMr_weak (EMr_trans hE j1 i1) (fun i hi => ⟨fun u => ?_, fun u => ?_⟩), fun Q fu hf h1 h0 => ?_⟩
      · rcases u with u | u
        · exact ⟨by omega, by omega, by rw [u]; exact q⟩
        · exact ⟨by omega, u.2⟩
      · by_cases z : i = k
        · exact Or.inl z
        · exact Or.inr ⟨by omega, u.2⟩
      · cases fu with
        | zero => omega
        | succ fu =>
          unfold f_X10_goesToHubs_L10
          rw [bit_nat (x := U) (k := k) (by omega) (by omega), q]
          refine ⟨⟨by omega, by omega⟩, fun u => by omega, fun _ => ⟨⟨by decide, by decide⟩, fun u => absurd rfl u, fun _ => j2 _ ?_⟩⟩
          exact i2 Q fu (by omega) h1 h0
/-- bits at place k of row 0 have grown -/
def BITs (m m1 : St) (k : Nat) (P : Nat → Prop) : Prop := ∀ a : Nat, m 0 k = (a : Int) → a < 65536 → ∃ b : Nat, m1 0 k = (b : Int) ∧ b < 65536 ∧ ∀ i, b.testBit i = true ↔ (a.testBit i = true ∨ P i)
theorem BITs_refl {m m1 : St} {k : Nat} {P : Nat → Prop} (h : m1 0 k = m 0 k) (hP : ∀ i, ¬ P i) : BITs m m1 k P := fun a u v => ⟨a, by rw [h]; exact u, v, fun i => ⟨fun w => Or.inl w, fun w => by rcases w with w | w; exact w; exact absurd w (hP i)⟩⟩
theorem BITs_trans {m m1 m2 : St} {k : Nat} {P P' P2 : Nat → Prop} (h : BITs m m1 k P) (h' : BITs m1 m2 k P') (hP : ∀ i, P2 i ↔ (P i ∨ P' i)) : BITs m m2 k P2 := by
  intro a u v
  obtain ⟨b, b1, b2, b3⟩ := h a u v
  obtain ⟨d, d1, d2, d3⟩ := h' b b1 b2
  refine ⟨d, d1, d2, fun i => ?_⟩
  rw [d3 i, b3 i, hP i, or_assoc]
theorem BITs_weak {m m1 : St} {k : Nat} {P P' : Nat → Prop} (h : BITs m m1 k P) (hP : ∀ i, P i ↔ P' i) : BITs m m1 k P' := by
  intro a u v
  obtain ⟨b, b1, b2, b3⟩ := h a u v
  exact ⟨b, b1, b2, fun i => by rw [b3 i, hP i]⟩
theorem or_pow_tb (a n i : Nat) : (a ||| 2 ^ n).testBit i = true ↔ (a.testBit i = true ∨ i = n) := by
  rw [Nat.testBit_or, Nat.testBit_two_pow, Bool.or_eq_true, decide_eq_true_eq]
  constructor
  · rintro (h | h)
    · exact Or.inl h
    · exact Or.inr h.symm
  · rintro (h | h)
    · exact Or.inl h
    · exact Or.inr h.symm
theorem BITs_or {m : St} {k n : Nat} (hn : n < 16) : BITs m (sset m 0 k (ior32 (m 0 k) (ishl32 1 (n : Int)))) k (fun i => i = n) := by
  intro a u v
  refine ⟨a ||| 2 ^ n, ?_, ?_, fun i => or_pow_tb a n i⟩
  · rw [sset_at, vu_eq, u, ishl_1 (by omega), ior_nat (by omega) (Nat.lt_of_lt_of_le (Nat.pow_lt_pow_right (by decide) hn) (by decide))]
  · exact Nat.or_lt_two_pow (n := 16) v (Nat.pow_lt_pow_right (by decide) hn)
/-- to all possible hubs of a node -/
theorem r_goesToHubs {m : St} {E : Nat → Nat → Nat} {n : Nat} (hn : n < 16) (hE : MEr m E) (hg : KV g) (hg0 : g 0 = 1) (mg : MRg m 37 0 g) (h2 : m 0 69 = 0 ∨ m 0 69 = 1) (h73 : ∃ a : Nat, m 0 73 = (a : Int) ∧ a < 65536) : ∃ (m1 : St) (E1 : Nat → Nat → Nat), EMr m m1 E E1 g (fun i => i < 12 ∧ (g 8).testBit i = true) ∧ ∃ m3 : St, (∀ q i, q ≠ 0 ∨ i ≠ 73 → m3 q i = m1 q i) ∧ BITs m m3 73 (fun i => i = n ∧ (g 8).testBit 12 = true) ∧ ∀ Q : St → Prop, Q m3 → f_X10_goesToHubs (n : Int) m Q := by
  have u8 : g 8 < 8192 := KV_8k hg (by omega) 8 (by decide)
  obtain ⟨m1, E1, i1, i2⟩ := r_hubsL (U := g 8) (n := n) u8 hg hg0 12 0 m E (by decide) hE mg h2
  have e73 : m1 0 73 = m 0 73 := i1.2.2.2.2.2.2.1 73 (by decide)
  have e8 : m 37 8 = ((g 8 : Nat) : Int) := by have := mg.2 (by omega) 8 (by decide); rw [Nat.zero_add] at this; exact this
  refine ⟨m1, E1, EMr_weak i1 (fun i hi => ⟨fun u => u.2, fun u => ⟨Nat.zero_le _, u⟩⟩), ?_⟩
  have go : ∀ Q : St → Prop, f_X10_goesToHubs_L10 Q FU m (n : Int) ((g 8 : Nat) : Int) ((0 : Nat) : Int) → f_X10_goesToHubs (n : Int) m Q := by
    intro Q w
    unfold f_X10_goesToHubs
    rintro x1 rfl
    rw [e8]; exact w
  cases q : (g 8).testBit 12
  · refine ⟨sset m1 0 73 (ior32 (m1 0 73) 0), fun q' i hi => ?_, ?_, fun Q hQ => go Q (i2 Q FU (by show 12 < 100000; decide) (fun u => by rw [q] at u; exact absurd u (by decide)) (fun _ => hQ))⟩
    · rcases hi with hi | hi
      · rw [sset_row _ _ _ hi]
      · by_cases z : q' = 0
        · rw [z, sset_place _ _ _ hi]
        · rw [sset_row _ _ _ z]
    · intro a u v
      refine ⟨a, ?_, v, fun i => ⟨fun w => Or.inl w, fun w => ?_⟩⟩
      · rw [sset_at, vu_eq, e73, u]
        have := ior_nat (x := a) (y := 0) (by omega) (by decide)
        rw [Nat.or_zero] at this
        exact this
      · rcases w with w | w
        · exact w
        · exact absurd w.2 (by decide)
  · refine ⟨sset m1 0 73 (ior32 (m1 0 73) (ishl32 1 (n : Int))), fun q' i hi => ?_, ?_, fun Q hQ => go Q (i2 Q FU (by show 12 < 100000; decide) (fun _ => hQ) (fun u => by rw [q] at u; exact absurd u (by decide)))⟩
    · rcases hi with hi | hi
      · rw [sset_row _ _ _ hi]
      · by_cases z : q' = 0
        · rw [z, sset_place _ _ _ hi]
        · rw [sset_row _ _ _ z]
    · have := BITs_or (m := m1) (k := 73) hn
      intro a u v
      obtain ⟨b, b1, b2, b3⟩ := this a (by rw [e73]; exact u) v
      exact ⟨b, b1, b2, fun i => by rw [b3 i]; exact ⟨fun w => by rcases w with w | w; exact Or.inl w; exact Or.inr ⟨w, rfl⟩, fun w => by rcases w with w | w; exact Or.inl w; exact Or.inr w.1⟩⟩
end MHUBS
