/-! ===== pure layer: the end of a walk of the reference ===== -/
theorem tb_ck {x i ck : Nat} (h : x < 2 ^ ck) (hk : ck ≤ i) : x.testBit i = false := Nat.testBit_lt_two_pow (Nat.lt_of_lt_of_le h (Nat.pow_le_pow_right (by decide) hk))
section MTAIL
variable {m0 m : St} {ck : Nat} {g : Nat → Nat} {E : Nat → Nat → Nat} {Q : St → Prop} {fu : Nat} {a nn : Int}
theorem L78_end (h48 : m 0 48 = -1) (h66 : m 0 66 = 0) (h37 : m 37 0 = 1) (w : f_X10_goesThrough_L129 Q FU m a nn 0) : f_X10_goesThrough_L78 Q (fu + 1) m a nn := by
  unfold f_X10_goesThrough_L78
  rw [h48, h66, h37]
  exact ⟨⟨by decide, by decide⟩, fun u => absurd rfl u, fun _ => ⟨⟨by decide, by decide⟩, fun _ => ⟨⟨by decide, by decide⟩, fun _ => w, fun u => absurd u (by decide)⟩, fun u => absurd (by decide) u⟩⟩
theorem L78_dead (h48 : m 0 48 = -1) (h66 : m 0 66 = 0) (h37 : m 37 0 = 0) (w : Q m) : f_X10_goesThrough_L78 Q (fu + 1) m a nn := by
  unfold f_X10_goesThrough_L78
  rw [h48, h66, h37]
  exact ⟨⟨by decide, by decide⟩, fun u => absurd rfl u, fun _ => ⟨⟨by decide, by decide⟩, fun _ => ⟨⟨by decide, by decide⟩, fun u => absurd rfl u, fun _ => w⟩, fun u => absurd (by decide) u⟩⟩
theorem r_offL (hck : ck ≤ 16) (hg9 : g 9 < 2 ^ ck) (hg : KV g) (hg0 : g 0 = 1) : ∀ (j k : Nat) (m : St) (E : Nat → Nat → Nat), k + j = ck → MEr m E → MRg m 37 0 g → (m 0 69 = 0 ∨ m 0 69 = 1) → m 0 32 = (ck : Int) → m 0 67 = ((g 9 : Nat) : Int) → ∃ (m1 : St) (E1 : Nat → Nat → Nat), EMr m m1 E E1 g (fun i => 12 + k ≤ i ∧ (g 9).testBit (i - 12) = true) ∧ ∀ (Q : St → Prop) (fu : Nat) (a nn : Int), j < fu → (inR (m1 0 68) ∧ ((¬ (m1 0 68) = 0 → f_X10_goesThrough_J187 Q m1 nn) ∧ ((m1 0 68) = 0 → inR a ∧ ((a < 12 → f_X10_goesThrough_J187 Q m1 nn) ∧ (¬ a < 12 → f_X10_comesTo nn m1 (fun σ1 => Q σ1)))))) → f_X10_goesThrough_L129 Q fu m a nn (k : Int) := by
  have le16 : 2 ^ ck ≤ 2 ^ 16 := Nat.pow_le_pow_right (by decide) hck
  have e16 : (2 : Nat) ^ 16 = 65536 := rfl
  intro j
  induction j with
  | zero =>
    intro k m E hk hE mg h2 h32 h67
    refine ⟨m, E, EMr_weak (EMr_refl hE h2) (fun i hi => ⟨fun u => u.elim, fun u => ?_⟩), fun Q fu a nn hf w => ?_⟩
    · have := tb_ck (i := i - 12) hg9 (by omega)
      rw [u.2] at this
      exact absurd this (by decide)
    · cases fu with
      | zero => omega
      | succ fu =>
        unfold f_X10_goesThrough_L129
        rw [h32]
        exact ⟨⟨by omega, by omega⟩, ⟨by omega, by omega⟩, fun _ => w, fun u => by omega⟩
  | succ j ih =>
    intro k m E hk hE mg h2 h32 h67
    have bn := bit_nat (x := g 9) (k := k) (by omega) (by omega)
    cases q : (g 9).testBit k
    · obtain ⟨m1, E1, i1, i2⟩ := ih (k + 1) m E (by omega) hE mg h2 h32 h67
      refine ⟨m1, E1, EMr_weak i1 (fun i hi => ⟨fun u => ⟨by omega, u.2⟩, fun u => ⟨?_, u.2⟩⟩), fun Q fu a nn hf w => ?_⟩
      · by_cases z : i = 12 + k
        · rw [z, show 12 + k - 12 = k by omega, q] at u; exact absurd u.2 (by decide)
        · omega
      · cases fu with
        | zero => omega
        | succ fu =>
          unfold f_X10_goesThrough_L129
          rw [h32, h67, bn, q]
          refine ⟨⟨by omega, by omega⟩, ⟨by omega, by omega⟩, fun u => by omega, fun _ => ⟨⟨by decide, by decide⟩, fun _ => ?_, fun u => absurd u (by decide)⟩⟩
          exact i2 Q fu a nn (by omega) w
    · obtain ⟨m2, E2, j1, j2⟩ := r_comesTo (e := 12 + k) (by omega) hE hg hg0 mg h2
      have mg2 : MRg m2 37 0 g := MRg_keep mg (fun i hi => j1.2.2.2.2.2.1 (0 + i) (by omega))
      have f0 := j1.2.2.2.2.2.2.1
      obtain ⟨m1, E1, i1, i2⟩ := ih (k + 1) m2 E2 (by omega) j1.1 mg2 j1.2.2.2.2.2.2.2.1 (by rw [f0 32 (by decide)]; exact h32) (by rw [f0 67 (by decide)]; exact h67)
      refine ⟨m1, E1, EMr_weak (EMr_trans hE j1 i1) (fun i hi => ⟨fun u => ?_, fun u => ?_⟩), fun Q fu a nn hf w => ?_⟩
      · rcases u with u | u
        · exact ⟨by omega, by rw [u, show 12 + k - 12 = k by omega]; exact q⟩
        · exact ⟨by omega, u.2⟩
      · by_cases z : i = 12 + k
        · exact Or.inl z
        · exact Or.inr ⟨by omega, u.2⟩
      · cases fu with
        | zero => omega
        | succ fu =>
          have nx := i2 Q fu a nn (by omega) w
          have ek : (12 : Int) + (k : Int) = ((12 + k : Nat) : Int) := by omega
          unfold f_X10_goesThrough_L129
          rw [h32, h67, bn, q, ek]
          refine ⟨⟨by omega, by omega⟩, ⟨by omega, by omega⟩, fun u => by omega, fun _ => ⟨⟨by decide, by decide⟩, fun u => absurd rfl u, fun _ => j2 _ ?_⟩⟩
          exact nx
/-- what a walk's end brings -/
theorem r_tail {ee v : Nat} (hck : ck ≤ 16) (h32 : m0 0 32 = (ck : Int)) (he : ee < 28) (hv : v < 12) (hW : WSt m0 m ck g E 0 (-1)) (hg0 : g 0 = 1) : ∃ (m1 : St) (E1 : Nat → Nat → Nat), MEr m1 E1 ∧ (∀ i, i < 28 → (12 ≤ i ∧ (g 9).testBit (i - 12) = true) ∨ (12 ≤ ee ∧ g 10 = 0 ∧ i = v) → KLE g (E1 i)) ∧ (∀ E2 : Nat → Nat → Nat, (∀ i, i < 28 → KLE (E i) (E2 i)) → (∀ i, i < 28 → (12 ≤ i ∧ (g 9).testBit (i - 12) = true) ∨ (12 ≤ ee ∧ g 10 = 0 ∧ i = v) → KLE g (E2 i)) → ∀ i, i < 28 → KLE (E1 i) (E2 i)) ∧ FRw m0 m1 ∧ (m1 0 69 = 0 ∨ m1 0 69 = 1) ∧ m1 0 72 = m 0 72 ∧ m1 44 = m 44 ∧ GRW m m1 E E1 ∧ BITs m m1 73 (fun i => ee < 12 ∧ g 10 = 0 ∧ i = v) ∧ ∀ (Q : St → Prop) (fu : Nat), Q m1 → f_X10_goesThrough_L78 Q (fu + 1) m (ee : Int) (v : Int) := by
  obtain ⟨⟨f1, f0⟩, wE, wg, wv, ⟨w67, w68⟩, w66, w48, w69, w72, w73⟩ := hW
  have c32 : m 0 32 = (ck : Int) := by rw [f0 32 (by decide) (by decide) (by decide) (by decide) (by decide) (by decide) (by decide) (by decide)]; exact h32
  have le16 : 2 ^ ck ≤ 2 ^ 16 := Nat.pow_le_pow_right (by decide) hck
  have e16 : (2 : Nat) ^ 16 = 65536 := rfl
  have q10 := wv.2.2
  have h37 : m 37 0 = 1 := by rw [wg.1, hg0]; rfl
  obtain ⟨m2, E2, i1, i2⟩ := r_offL hck wv.2.1 wv.1 hg0 ck 0 m E (by omega) wE wg w69 c32 w67
  have hG := GRW_E i1
  have i1' := i1
  obtain ⟨q1, q2, q3, q4, q5, q6, q7, q8, -⟩ := i1'
  have e68 : m2 0 68 = ((g 10 : Nat) : Int) := by rw [q7 68 (by decide)]; exact w68
  have r68 : inR (m2 0 68) := by rw [e68]; exact ⟨by omega, by omega⟩
  have fr2 : FRw m0 m2 := ⟨fun q x y => by rw [q5 q x (by omega) (by omega)]; exact f1 q x y, fun i a1 a2 a3 a4 a5 a6 a7 a8 => by rw [q7 i a6]; exact f0 i a1 a2 a3 a4 a5 a6 a7 a8⟩
  have go : ∀ (Q : St → Prop) (fu : Nat), (inR (m2 0 68) ∧ ((¬ (m2 0 68) = 0 → f_X10_goesThrough_J187 Q m2 (v : Int)) ∧ ((m2 0 68) = 0 → inR (ee : Int) ∧ (((ee : Int) < 12 → f_X10_goesThrough_J187 Q m2 (v : Int)) ∧ (¬ (ee : Int) < 12 → f_X10_comesTo (v : Int) m2 (fun σ1 => Q σ1)))))) → f_X10_goesThrough_L78 Q (fu + 1) m (ee : Int) (v : Int) := fun Q fu w => L78_end w48 w66 h37 (i2 Q FU _ _ (by show ck < 100000; omega) w)
  by_cases z10 : g 10 = 0
  · by_cases ze : ee < 12
    · -- a dead end
      refine ⟨sset m2 0 73 (ior32 (m2 0 73) (ishl32 1 (v : Int))), E2, fun k hk => ⟨(q1 k hk).1, (q1 k hk).2.1, fun i hi => by rw [sset_row _ _ _ (by decide)]; exact (q1 k hk).2.2 i hi⟩, fun i hi u => ?_, fun Ex u1 u2 => q4 Ex u1 (fun i hi u => u2 i hi (Or.inl ⟨by omega, u.2⟩)), ⟨fun q x y => by rw [sset_row _ _ _ x]; exact fr2.1 q x y, fun i a1 a2 a3 a4 a5 a6 a7 a8 => by rw [sset_place _ _ _ a8]; exact fr2.2 i a1 a2 a3 a4 a5 a6 a7 a8⟩, by rw [sset_place _ _ _ (by decide)]; exact q8, by rw [sset_place _ _ _ (by decide), q7 72 (by decide)], by rw [sset_row _ _ _ (by decide), q5 44 (by decide) (by decide) (by decide)], GRW_q2 (sset_place _ _ _ (by decide)) hG, ?_, fun Q fu hQ => go Q fu ⟨r68, fun u => absurd (by rw [e68, z10]; rfl) u, fun _ => ⟨⟨by omega, by omega⟩, fun _ => ?_, fun u => by omega⟩⟩⟩
      · rcases u with u | u
        · exact q3 i hi ⟨by omega, u.2⟩
        · omega
      · refine BITs_weak (BITs_q (q7 73 (by decide)) (BITs_or (m := m2) (k := 73) (n := v) (by omega))) (fun i => ⟨fun u => ⟨ze, z10, u⟩, fun u => u.2.2⟩)
      · unfold f_X10_goesThrough_J187
        refine ⟨r68, fun u => absurd (by rw [e68, z10]; rfl) u, fun _ => ?_⟩
        rintro σ1 rfl
        exact hQ
    · -- back to the node
      have mg2 : MRg m2 37 0 g := MRg_keep wg (fun i hi => q6 (0 + i) (by omega))
      obtain ⟨m3, E3, j1, j2⟩ := r_comesTo (m := m2) (e := v) (E := E2) (by omega) q1 wv.1 hg0 mg2 q8
      have hG2 := GRW_E j1
      obtain ⟨p1, p2, p3, p4, p5, p6, p7, p8, -⟩ := j1
      refine ⟨m3, E3, p1, fun i hi u => ?_, fun Ex u1 u2 => p4 Ex (q4 Ex u1 (fun i hi u => u2 i hi (Or.inl ⟨by omega, u.2⟩))) (fun i hi u => u2 i hi (Or.inr ⟨by omega, z10, u⟩)), ⟨fun q x y => by rw [p5 q x (by omega) (by omega)]; exact fr2.1 q x y, fun i a1 a2 a3 a4 a5 a6 a7 a8 => by rw [p7 i a6]; exact fr2.2 i a1 a2 a3 a4 a5 a6 a7 a8⟩, p8, by rw [p7 72 (by decide), q7 72 (by decide)], by rw [p5 44 (by decide) (by decide) (by decide), q5 44 (by decide) (by decide) (by decide)], GRW_trans (MEr_KV wE) (MEr_KV q1) (MEr_KV p1) hG hG2, BITs_refl (by rw [p7 73 (by decide), q7 73 (by decide)]) (fun i u => ze u.1), fun Q fu hQ => go Q fu ⟨r68, fun u => absurd (by rw [e68, z10]; rfl) u, fun _ => ⟨⟨by omega, by omega⟩, fun u => by omega, fun _ => j2 _ hQ⟩⟩⟩
      rcases u with u | u
      · exact KLE_trans (q3 i hi ⟨by omega, u.2⟩) (p2 i hi)
      · exact p3 i hi u.2.2
  · refine ⟨m2, E2, q1, fun i hi u => ?_, fun Ex u1 u2 => q4 Ex u1 (fun i hi u => u2 i hi (Or.inl ⟨by omega, u.2⟩)), fr2, q8, q7 72 (by decide), q5 44 (by decide) (by decide) (by decide), hG, BITs_refl (q7 73 (by decide)) (fun i u => z10 u.2.1), fun Q fu hQ => go Q fu ⟨r68, fun _ => ?_, fun u => by omega⟩⟩
    · rcases u with u | u
      · exact q3 i hi ⟨by omega, u.2⟩
      · exact absurd u.2.1 z10
    · unfold f_X10_goesThrough_J187
      exact ⟨r68, fun _ => hQ, fun u => by omega⟩
end MTAIL
