/-! ===== pure layer: faults and building ===== -/
theorem ex_bits (f : Nat → Bool) : ∀ n, ∃ H : Nat, H < 2 ^ n ∧ ∀ k, k < n → H.testBit k = f k := by
  intro n
  induction n with
  | zero => exact ⟨0, by decide, fun k hk => by omega⟩
  | succ n ih =>
    obtain ⟨H, h1, h2⟩ := ih
    have l1 : H < 2 ^ (n + 1) := Nat.lt_of_lt_of_le h1 (Nat.pow_le_pow_right (by decide) (by omega))
    have l2 : 2 ^ n < 2 ^ (n + 1) := Nat.pow_lt_pow_right (by decide) (by omega)
    cases q : f n
    · refine ⟨H, l1, fun k hk => ?_⟩
      by_cases z : k = n
      · rw [z, q]; exact tb_ck h1 (Nat.le_refl _)
      · exact h2 k (by omega)
    · refine ⟨H ||| 2 ^ n, Nat.or_lt_two_pow l1 l2, fun k hk => ?_⟩
      by_cases z : k = n
      · rw [z, q]; exact (or_pow_tb H n n).2 (Or.inr rfl)
      · rw [← h2 k (by omega), Nat.testBit_or, Nat.testBit_two_pow_of_ne (fun u => z u.symm), Bool.or_false]
section BUILDS
variable {c m c' : St} {KB r : Int} {D D' n : Nat} {T : Nat → Int}
/-- the text as the readers see it -/
theorem J_text (h : Jx KB c m) : ∃ (T : Nat → Int) (n : Nat), CT T n c ∧ c 0 1 = (n : Int) ∧ m 0 1 = (n : Int) ∧ n ≤ 400 ∧ (∀ j, 0 ≤ T j ∧ T j ≤ 255) ∧ ∀ j, j < n → m 1 j = T j := by
  obtain ⟨-, ⟨n, n1, n2, n3, n4⟩, -⟩ := h
  refine ⟨fun j => if j < n then m 1 j else 0, n, ⟨n1, fun j => ?_, fun j hj => ?_⟩, n2, n3, n1, fun j => ?_, fun j hj => ?_⟩
  · show 0 ≤ (if j < n then m 1 j else 0) ∧ (if j < n then m 1 j else 0) ≤ 255
    by_cases z : j < n
    · rw [if_pos z]; exact (n4 j z).2
    · rw [if_neg z]; decide
  · show c 1 j = if j < n then m 1 j else 0
    rw [if_pos hj]; exact (n4 j hj).1
  · show 0 ≤ (if j < n then m 1 j else 0) ∧ (if j < n then m 1 j else 0) ≤ 255
    by_cases z : j < n
    · rw [if_pos z]; exact (n4 j z).2
    · rw [if_neg z]; decide
  · show m 1 j = if j < n then m 1 j else 0
    rw [if_pos hj]
/-- what readings leave alone in the reference -/
def FRr (m m1 : St) : Prop := m1 1 = m 1 ∧ m1 2 = m 2 ∧ (∀ q, 26 ≤ q → m1 q = m q) ∧ (∀ j, pf j = false → m1 0 j = m 0 j) ∧ 0 ≤ m1 0 32 ∧ m1 0 32 ≤ 16
theorem FRr_trans {m m1 m2 : St} (h : FRr m m1) (h' : FRr m1 m2) : FRr m m2 := ⟨by rw [h'.1, h.1], by rw [h'.2.1, h.2.1], fun q hq => by rw [h'.2.2.1 q hq, h.2.2.1 q hq], fun j hj => by rw [h'.2.2.2.1 j hj, h.2.2.2.1 j hj], h'.2.2.2.2⟩
/-- the relation behind a reading into the draft -/
theorem J_reread {m1 : St} (hD : D = 2 ∨ D = 20) (hD' : D' = 22 - D) (h : Jx KB c m) (hA : JA c m D) (hB : JB c m D KB) (hF : FC D' c c') (hR : FRr m m1) (hs : m 0 4 = 1 → SR D c m1) : Jx KB c' m1 := by
  obtain ⟨r1, r2, r3, r4, r5, r6⟩ := hR
  obtain ⟨hz, hT, -⟩ := h
  have dq : ∀ q, q < 2 ∨ (D ≤ q ∧ q ≤ D + 17) ∨ 44 ≤ q → c' q = c q := fun q hq => hF q (by omega) (by omega)
  have z1 : HIz c' m1 := ⟨fun q hq => by rw [dq q (by omega)]; exact hz.1 q hq, fun q hq => by rw [r3 q (by omega)]; exact hz.2 q hq⟩
  refine ⟨z1, JTx_fr hT (by rw [dq 0 (by omega)]) (dq 1 (by omega)) (r4 1 rfl) r1, D, ?_, ?_⟩
  · obtain ⟨a1, a2, a3, a4, a5, a6⟩ := hA
    refine ⟨a1, by rw [dq 0 (by omega)]; exact a2, by rw [dq 0 (by omega)]; exact a3, BX_same a4 (r4 44 rfl) (r3 29 (by decide)) (r3 30 (by decide)) (r3 31 (by decide)), by rw [r4 44 rfl]; exact a5, ?_⟩
    rw [dq 44 (by omega)]; exact a6
  · rcases hB with ⟨b1, b2, b3, b4, b5, b6, b7⟩ | ⟨n4, φ, e, N, S, B, nd, ck, ts, tm, H, hS, hH, hHc, hTo, hp, hHi, hE, hAn⟩
    · left
      refine ⟨by rw [r4 4 rfl]; exact b1, by rw [dq D (by omega)]; exact b2, PN_fr b3 (dq 44 (by omega)) (dq 45 (by omega)) (r3 26 (by decide)), ?_, ?_, ?_, r5, r6⟩
      · rw [dq 48 (by omega), r4 42 rfl]; exact b4
      · rw [dq 52 (by omega), r4 53 rfl]; exact b5
      · rw [dq 65 (by omega), r4 70 rfl]; exact b6
    · right
      obtain ⟨φ', e', N', S', B', nd', ck', ts', tm', hS'⟩ := hs n4
      have e1 : nd' = nd := by
        have x := hS.1.2.2.2.2.2.2.2.2.1
        have y := hS'.1.2.2.2.2.2.2.2.2.1
        omega
      have e2 : ck' = ck := by
        have x := hS.1.2.2.2.2.2.2.2.2.2.1
        have y := hS'.1.2.2.2.2.2.2.2.2.2.1
        omega
      rw [e1, e2] at hS'
      refine ⟨by rw [r4 4 rfl]; exact n4, φ', e', N', S', B', nd, ck, ts', tm', H, SRx_frame hS' (fun q x y => dq q (by omega)) (fun _ _ _ => rfl) (fun _ _ => rfl), HM_fr hH (dq D (by omega)) (dq (D + 16) (by omega)), hHc, JTold_fr hTo (fun q x y => dq q (by omega)) (r4 3 rfl) r2, ?_, HIS_frame hHi (Int.le_refl _) (dq 48 (by omega)) (dq 49 (by omega)) (dq 50 (by omega)) (dq 51 (by omega)) (r4 42 rfl) (r3 27 (by decide)), EXPL_fr hE (fun q x y => dq q (by omega)) (fun q x y => r3 q (by omega)) (r4 51 rfl) (r4 52 rfl) (r4 53 rfl) (r4 54 rfl), JAn_fr hAn (dq 65 (by omega)) (dq 66 (by omega)) (dq 67 (by omega)) (dq 71 (by omega)) (r3 36 (by decide)) (r3 44 (by decide)) (r4 70 rfl) (r4 72 rfl) (r4 73 rfl)⟩
      have m26 := r3 26 (by decide)
      rcases hp with hp | ⟨w1, w2, w3, w4, w5⟩
      · exact Or.inl (PN_fr hp (dq 44 (by omega)) (dq 45 (by omega)) m26)
      · refine Or.inr ⟨PW_fr w1 (dq 44 (by omega)) (dq 45 (by omega)) (dq 46 (by omega)) (dq 47 (by omega)) m26 (r3 29 (by decide)) (r3 30 (by decide)) (r4 44 rfl), ?_⟩
        rw [m26]
        exact ⟨w2, w3, w4, w5⟩
/-- the reference looks for a fault -/
theorem r_fault (hJ : Jx KB c m) (hA : JA c m D) (hB : JB c m D KB) (hD' : D' = 22 - D) (hn : n ≤ 400) (hT : ∀ j, 0 ≤ T j ∧ T j ≤ 255) (h1 : m 0 1 = (n : Int)) (hT1 : ∀ j, j < n → m 1 j = T j) (hF : FC D' c c') (hP : PR (SR D') T n c' r) (Qm : St → Int → Prop) (hQ : ∀ m1 : St, Jx KB c' m1 → m1 0 5 = 0 → FRr (sset m 0 5 0) m1 → Qm m1 r) : f_X10_fault m Qm := by
  have hD := hA.1
  have jr : Jx KB c (sset m 0 5 0) := Jx_code hJ (Int.le_refl _)
  have q0 : ∀ i, i ≠ 5 → sset m 0 5 0 0 i = m 0 i := fun i hi => sset_place _ _ _ hi
  have qr : ∀ q, q ≠ 0 → sset m 0 5 0 q = m q := fun q hq => sset_row _ _ _ hq
  have jA : JA c (sset m 0 5 0) D := JA_fr hA rfl rfl (fun _ _ => rfl) (fun q hq => qr q (by omega)) (fun i _ hi => q0 i hi)
  have jB : JB c (sset m 0 5 0) D KB := JB_fr hD (Int.le_refl _) hB (fun _ _ => rfl) (fun q hq => qr q (by omega)) (fun i _ hi => q0 i hi)
  have fin : ∀ m2 : St, PS T n (sset m 0 5 0) m2 → f_X10_fault_J23 Qm m2 r := by
    intro m2 hp
    have fr : FRr (sset m 0 5 0) m2 := hp.2
    have m4 : m2 0 4 = m 0 4 := by rw [fr.2.2.2.1 4 rfl]; exact q0 4 (by decide)
    have m5 : m2 0 5 = 0 := by rw [fr.2.2.2.1 5 rfl, sset_at, vu_eq]
    unfold f_X10_fault_J23
    rw [m4]
    rcases hB with ⟨b1, -⟩ | ⟨b1, φ, e, N, S, B, nd, ck, ts, tm, H, -, -, -, ⟨T', n', hs', hp'⟩, -⟩
    · rw [b1]
      refine ⟨⟨by decide, by decide⟩, fun _ => hQ m2 (J_reread hD hD' jr jA jB hF fr (fun u => ?_)) m5 fr, fun u => absurd rfl u⟩
      rw [q0 4 (by decide), b1] at u
      exact absurd u (by decide)
    · rw [b1]
      refine ⟨⟨by decide, by decide⟩, fun u => absurd u (by decide), fun _ => ?_⟩
      refine hp'.2 1 m2 _ (SRC_fr hs' ?_ ?_) (fun _ m3 hp3 hr3 => ?_) (fun u => absurd rfl u)
      · rw [fr.2.2.2.1 3 rfl]; exact q0 3 (by decide)
      · rw [fr.2.1]; exact qr 2 (by decide)
      · have fr3 : FRr m2 m3 := hp3.2
        have ft := FRr_trans fr fr3
        refine hQ m3 (J_reread hD hD' jr jA jB hF ft (fun _ => hr3)) ?_ ft
        rw [fr3.2.2.2.1 5 rfl]; exact m5
  unfold f_X10_fault
  rintro σ1 rfl
  refine hP.2 0 _ _ ⟨hn, hT, Or.inl ⟨rfl, by rw [q0 1 (by decide)]; exact h1, fun j hj => by rw [qr 1 (by decide)]; exact hT1 j hj⟩⟩ (fun u m2 hp _ => ⟨⟨by decide, by decide⟩, fun w => absurd w (by decide), fun _ => ?_⟩) (fun u m2 hp h36 => ⟨⟨by decide, by decide⟩, fun _ => ?_, fun w => absurd rfl w⟩)
  · have := fin m2 hp
    rw [u] at this; exact this
  · rw [h36]; exact fin m2 hp
theorem J_open (h : Jx KB c m) : ∃ D : Nat, JA c m D ∧ JB c m D KB := h.2.2
/-- the text is copied -/
theorem r_copyT {Q : St → Int → Prop} (hn : n ≤ 400) : ∀ (j k : Nat) (m : St), k + j = n → m 0 1 = (n : Int) → ∃ m1 : St, (∀ q, q ≠ 2 → m1 q = m q) ∧ (∀ i, i < k → m1 2 i = m 2 i) ∧ (∀ i, k ≤ i → i < n → m1 2 i = m 1 i) ∧ ∀ fu : Nat, j < fu → f_X10_readsAll 1 (sset m1 0 3 (n : Int)) (fun σ2 r1 => (r1 = 0 ∨ r1 = 1) ∧ ∀ σ3 : St, σ3 = sset σ2 0 4 r1 → f_X10_build_L66 Q FU σ3 0) → f_X10_build_L21 Q fu m (k : Int) := by
  intro j
  induction j with
  | zero =>
    intro k m hk h1
    refine ⟨m, fun _ _ => rfl, fun _ _ => rfl, fun i a b => by omega, fun fu hf w => ?_⟩
    cases fu with
    | zero => omega
    | succ fu =>
      unfold f_X10_build_L21
      rw [h1]
      refine ⟨⟨by omega, by omega⟩, ⟨by omega, by omega⟩, fun _ => ?_, fun u => by omega⟩
      rintro σ1 rfl
      exact w
  | succ j ih =>
    intro k m hk h1
    obtain ⟨m1, i1, i2, i3, i4⟩ := ih (k + 1) (sset m 2 k (m 1 k)) (by omega) (by rw [sset_row _ _ _ (by decide)]; exact h1)
    refine ⟨m1, fun q hq => by rw [i1 q hq, sset_row _ _ _ hq], fun i hi => by rw [i2 i (by omega), sset_place _ _ _ (by omega)], fun i a b => ?_, fun fu hf w => ?_⟩
    · by_cases z : i = k
      · rw [z, i2 k (by omega), sset_at, vu_eq]
      · rw [i3 i (by omega) b, sset_row _ _ _ (by decide)]
    · cases fu with
      | zero => omega
      | succ fu =>
        unfold f_X10_build_L21
        rw [h1, Int.toNat_natCast]
        refine ⟨⟨by omega, by omega⟩, ⟨by omega, by omega⟩, fun u => by omega, fun _ => ⟨by omega, by omega, by omega, by omega, ?_⟩⟩
        rintro σ4 rfl
        exact i4 fu (by omega) w
/-- the play is cleared -/
theorem r_clearP {Q : St → Int → Prop} : ∀ (j k : Nat) (m : St), k + j = 31 → ∃ m1 : St, (∀ q, q ≠ 26 → m1 q = m q) ∧ (∀ i, i < k → m1 26 i = m 26 i) ∧ (∀ i, k ≤ i → i < 31 → m1 26 i = 0) ∧ ∀ fu : Nat, j < fu → Q (sset (sset (sset m1 0 42 0) 0 53 0) 0 70 0) (m 0 30) → f_X10_build_L66 Q fu m (k : Int) := by
  intro j
  induction j with
  | zero =>
    intro k m hk
    refine ⟨m, fun _ _ => rfl, fun _ _ => rfl, fun i a b => by omega, fun fu hf w => ?_⟩
    cases fu with
    | zero => omega
    | succ fu =>
      unfold f_X10_build_L66
      refine ⟨⟨by omega, by omega⟩, fun _ => ?_, fun u => by omega⟩
      rintro σ1 rfl
      rintro σ2 rfl
      rintro σ3 rfl
      rw [sset_place _ _ _ (show (30 : Nat) ≠ 70 by decide), sset_place _ _ _ (show (30 : Nat) ≠ 53 by decide), sset_place _ _ _ (show (30 : Nat) ≠ 42 by decide)]
      exact w
  | succ j ih =>
    intro k m hk
    obtain ⟨m1, i1, i2, i3, i4⟩ := ih (k + 1) (sset m 26 k 0) (by omega)
    refine ⟨m1, fun q hq => by rw [i1 q hq, sset_row _ _ _ hq], fun i hi => by rw [i2 i (by omega), sset_place _ _ _ (by omega)], fun i a b => ?_, fun fu hf w => ?_⟩
    · by_cases z : i = k
      · rw [z, i2 k (by omega), sset_at, vu_eq]
      · exact i3 i (by omega) b
    · cases fu with
      | zero => omega
      | succ fu =>
        unfold f_X10_build_L66
        rw [Int.toNat_natCast]
        refine ⟨⟨by omega, by omega⟩, fun u => by omega, fun _ => ⟨by omega, by omega, ?_⟩⟩
        rintro σ4 rfl
        exact i4 fu (by omega) (by rw [sset_row _ _ _ (by decide)]; exact w)
/-- the class behind a good build -/
theorem t_built (hA : JA c m D) (hB : JB c m D KB) (hD' : D' = 22 - D) (hF : FC D' c c') : ∃ c7 : St, (∀ q, q ≠ 0 → q < 44 → c7 q = c' q) ∧ (∀ q, 71 < q → c7 q = c' q) ∧ (c7 0 1 = c 0 1 ∧ c7 0 2 = (D' : Int) ∧ c7 0 3 = (D : Int)) ∧ (c7 44 0 = (D' : Int) ∧ c7 44 1 = 0 ∧ c7 44 3 = -1 ∧ c7 44 4 = -1 ∧ c7 44 5 = 0 ∧ c7 44 6 = 0 ∧ c7 44 8 = 0 ∧ c7 45 0 = 0) ∧ c7 44 9 = 0 ∧ (c7 48 0 = 0 ∧ ∃ tp : Nat, tp ≤ 12 ∧ c7 48 1 = (tp : Int)) ∧ c7 52 1 = 0 ∧ c7 65 1 = 0 ∧ ∀ (Q : St → Int → Prop) (E : String → St → Prop), Q c7 (c7 D' 10) → (∀ σ2 : St, σ2 = sset c' 0 2 ((((c' 0 3).toNat) : Nat) : Int) → ∀ σ3 : St, σ3 = sset σ2 0 3 ((((c' 0 2).toNat) : Nat) : Int) → f_X5_forget 44 ((σ3 0 2).toNat) σ3 (fun σ4 => f_X2_forget σ4 (fun σ5 => f_X1_forget ((σ5 0 2).toNat) σ5 (fun σ6 => f_X0_forget ((σ6 0 2).toNat) σ6 (fun σ7 => isS ((σ7 0 2).toNat) ∧ Q σ7 (σ7 ((σ7 0 2).toNat) 10)))))) := by
  obtain ⟨hD, h2, h3, -⟩ := hA
  have iS : isS D' := by unfold isS; omega
  have c0 : c' 0 = c 0 := hF 0 (by omega) (by decide)
  have c48 : c' 48 = c 48 := hF 48 (by omega) (by omega)
  have tp : ∃ tp : Nat, tp ≤ 12 ∧ c 48 1 = (tp : Int) := by
    rcases hB with ⟨-, -, -, ⟨-, -, b⟩, -⟩ | ⟨-, φ, e, N, S, B, nd, ck, ts, tm, H, -, -, -, -, -, ⟨sz, tp, g1, g2, g3, g4, g5, -⟩, -⟩
    · exact b
    · exact ⟨tp, g5, g2⟩
  obtain ⟨c3, e3⟩ : ∃ c3 : St, c3 = sset (sset c' 0 2 (D' : Int)) 0 3 (D : Int) := ⟨_, rfl⟩
  have r3 : ∀ q, q ≠ 0 → c3 q = c' q := fun q hq => by rw [e3, sset_row _ _ _ hq, sset_row _ _ _ hq]
  have v32 : c3 0 2 = (D' : Int) := by rw [e3, sset_place _ _ _ (by decide), sset_at, vu_eq]
  have v33 : c3 0 3 = (D : Int) := by rw [e3, sset_at, vu_eq]
  have v31 : c3 0 1 = c 0 1 := by rw [e3, sset_place _ _ _ (by decide), sset_place _ _ _ (by decide), c0]
  obtain ⟨c4, ⟨p0, p1, p3, p4, p5, p6, p7, p8, p9, p10, -⟩, f4, go4⟩ := t_pforget (c := c3) (P := 44) (D := D') (Or.inl rfl)
  have r4 : ∀ q, q < 44 ∨ 47 < q → c4 q = c3 q := fun q hq => f4 q (by omega) (by omega) (by omega) (by omega)
  obtain ⟨c5, e5⟩ : ∃ c5 : St, c5 = sset c4 48 0 0 := ⟨_, rfl⟩
  have r5 : ∀ q, q ≠ 48 → c5 q = c4 q := fun q hq => by rw [e5, sset_row _ _ _ hq]
  obtain ⟨c6, f6, x1, -, -, -, -, -, -, go6⟩ := t_xforget (c := c5) (D := D')
  obtain ⟨c61, e61⟩ : ∃ c61 : St, c61 = sset (sset c6 65 0 (D' : Int)) 65 1 0 := ⟨_, rfl⟩
  have r61 : ∀ q, q ≠ 65 → c61 q = c6 q := fun q hq => by rw [e61, sset_row _ _ _ hq, sset_row _ _ _ hq]
  obtain ⟨c62, f62, -, go62⟩ := t_fillL (c := c61) (a := 66) (l := 12) (v := 0) ⟨by unfold isLA; decide, by decide⟩ (by decide)
  obtain ⟨c7, f7, -, go7⟩ := t_fillL (c := c62) (a := 67) (l := 16) (v := 0) ⟨by unfold isLA; decide, by decide⟩ (by decide)
  have r7 : ∀ q, q ≠ 65 → q ≠ 66 → q ≠ 67 → c7 q = c6 q := fun q x y z => by rw [f7 q z, f62 q y, r61 q x]
  have low : ∀ q, q < 44 → c7 q = c3 q := fun q hq => by rw [r7 q (by omega) (by omega) (by omega), f6 q (by omega), r5 q (by omega), r4 q (by omega)]
  have mid : ∀ q, q < 48 → c7 q = c4 q := fun q hq => by rw [r7 q (by omega) (by omega) (by omega), f6 q (by omega), r5 q (by omega)]
  have h48 : c7 48 = c5 48 := by rw [r7 48 (by decide) (by decide) (by decide), f6 48 (by decide)]
  refine ⟨c7, fun q x y => by rw [low q y, r3 q x], fun q hq => by rw [r7 q (by omega) (by omega) (by omega), f6 q (by omega), r5 q (by omega), r4 q (by omega), r3 q (by omega)], ⟨by rw [low 0 (by decide)]; exact v31, by rw [low 0 (by decide)]; exact v32, by rw [low 0 (by decide)]; exact v33⟩, by rw [mid 44 (by decide), mid 45 (by decide)]; exact ⟨p0, p1, p3, p4, p5, p6, p8, p10⟩, by rw [mid 44 (by decide)]; exact p9, ⟨by rw [h48, e5, sset_at, vu_eq], ?_⟩, by rw [r7 52 (by decide) (by decide) (by decide)]; exact x1, by rw [f7 65 (by decide), f62 65 (by decide), e61, sset_at, vu_eq], fun Q E hQ => ?_⟩
  · rw [h48, e5, sset_place _ _ _ (by decide), r4 48 (by decide), r3 48 (by decide), c48]; exact tp
  · rintro σ2 rfl
    rintro σ3 rfl
    have ec3 : (c' 0 3).toNat = D' := by rw [c0, h3, hD']; omega
    have ec2 : (c' 0 2).toNat = D := by rw [c0, h2]; omega
    rw [ec3, ec2, ← e3, v32, Int.toNat_natCast]
    refine go4 _ ?_
    unfold f_X2_forget
    rintro σ5 rfl
    have v5 : c5 0 2 = (D' : Int) := by rw [r5 0 (by decide), r4 0 (by decide)]; exact v32
    rw [← e5, v5, Int.toNat_natCast]
    refine go6 _ ?_
    have v6 : c6 0 2 = (D' : Int) := by rw [f6 0 (by decide)]; exact v5
    rw [v6, Int.toNat_natCast]
    unfold f_X0_forget
    rintro σ6 rfl
    rintro σ7 rfl
    rw [← e61]
    refine go62 _ (go7 _ ?_)
    have v7 : c7 0 2 = (D' : Int) := by rw [low 0 (by decide)]; exact v32
    show isS (c7 0 2).toNat ∧ Q c7 (c7 (c7 0 2).toNat 10)
    rw [v7, Int.toNat_natCast]
    exact ⟨iS, hQ⟩
/-- the reference builds -/
theorem r_build (hJ : Jx KB c m) (hA : JA c m D) (hB : JB c m D KB) (hD' : D' = 22 - D) (hn : n ≤ 400) (hT : ∀ j, 0 ≤ T j ∧ T j ≤ 255) (h1 : m 0 1 = (n : Int)) (hT1 : ∀ j, j < n → m 1 j = T j) (hF : FC D' c c') (hP : PR (SR D') T n c' r) (Q : St → Int → Prop) (h0 : r ≠ -1 → ∀ m1 : St, Jx KB c' m1 → m1 0 5 = 1 → Q m1 0) (h2 : r = -1 → ∀ m1 : St, HIz c' m1 → JTx c' m1 → BX m1 → m1 0 44 = 0 → m1 0 4 = 1 → m1 0 42 = 0 → m1 0 53 = 0 → m1 0 70 = 0 → (∀ i, i < 31 → m1 26 i = 0) → SR D' c' m1 → SRC T n 1 m1 → m1 0 5 = 0 → Q m1 (c' D' 10)) : f_X10_build m Q := by
  have hD := hA.1
  have jr : Jx KB c (sset m 0 5 0) := Jx_code hJ (Int.le_refl _)
  have q0 : ∀ i, i ≠ 5 → sset m 0 5 0 0 i = m 0 i := fun i hi => sset_place _ _ _ hi
  have qr : ∀ q, q ≠ 0 → sset m 0 5 0 q = m q := fun q hq => sset_row _ _ _ hq
  have jA : JA c (sset m 0 5 0) D := JA_fr hA rfl rfl (fun _ _ => rfl) (fun q hq => qr q (by omega)) (fun i _ hi => q0 i hi)
  have jB : JB c (sset m 0 5 0) D KB := JB_fr hD (Int.le_refl _) hB (fun _ _ => rfl) (fun q hq => qr q (by omega)) (fun i _ hi => q0 i hi)
  unfold f_X10_build
  rintro σ1 rfl
  refine r_fault jr jA jB hD' hn hT (by rw [q0 1 (by decide)]; exact h1) (fun j hj => by rw [qr 1 (by decide)]; exact hT1 j hj) hF hP _ (fun m1 hj1 hm5 hfr => ⟨⟨by have := hP.1; omega, by have := hP.1; omega⟩, fun u => ?_, fun u => ?_⟩)
  · -- no fault
    have m11 : m1 0 1 = (n : Int) := by rw [hfr.2.2.2.1 1 rfl, sset_twice, q0 1 (by decide)]; exact h1
    have mr1 : ∀ j, j < n → m1 1 j = T j := fun j hj => by rw [hfr.1, sset_twice, qr 1 (by decide)]; exact hT1 j hj
    obtain ⟨m2, i1, -, i3, i4⟩ := r_copyT (Q := Q) hn n 0 m1 (by omega) m11
    refine i4 FU (by show n < 100000; omega) ?_
    have w0 : ∀ i, i ≠ 3 → sset m2 0 3 (n : Int) 0 i = m1 0 i := fun i hi => by rw [sset_place _ _ _ hi, i1 0 (by decide)]
    have wr : ∀ q, q ≠ 0 → q ≠ 2 → sset m2 0 3 (n : Int) q = m1 q := fun q x y => by rw [sset_row _ _ _ x, i1 q y]
    have s3 : SRC T n 1 (sset m2 0 3 (n : Int)) := ⟨hn, hT, Or.inr ⟨rfl, by rw [sset_at, vu_eq], fun j hj => by rw [sset_row _ _ _ (by decide), i3 j (Nat.zero_le _) hj]; exact mr1 j hj⟩⟩
    refine hP.2 1 _ _ s3 (fun _ m4 hp4 hr4 => ⟨Or.inr rfl, ?_⟩) (fun w => absurd u w)
    rintro σ3 rfl
    have fr4 : FRr (sset m2 0 3 (n : Int)) m4 := hp4.2
    obtain ⟨m6, k1, -, k3, k4⟩ := r_clearP (Q := Q) 31 0 (sset m4 0 4 1) (by decide)
    refine k4 FU (by show 31 < 100000; decide) ?_
    obtain ⟨m7, e7⟩ : ∃ m7 : St, m7 = sset (sset (sset m6 0 42 0) 0 53 0) 0 70 0 := ⟨_, rfl⟩
    rw [← e7]
    have r7 : ∀ q, q ≠ 0 → q ≠ 26 → m7 q = m4 q := fun q x y => by rw [e7, sset_row _ _ _ x, sset_row _ _ _ x, sset_row _ _ _ x, k1 q y, sset_row _ _ _ x]
    have p7 : ∀ i, i ≠ 4 → i ≠ 42 → i ≠ 53 → i ≠ 70 → m7 0 i = m4 0 i := fun i x y z w => by rw [e7, sset_place _ _ _ w, sset_place _ _ _ z, sset_place _ _ _ y, k1 0 (by decide), sset_place _ _ _ x]
    have e30 : sset m4 0 4 1 0 30 = c' D' 10 := by
      rw [sset_place _ _ _ (by decide)]
      obtain ⟨φ, e, N, S, B, nd, ck, ts, tm, hS⟩ := hr4
      rw [hS.1.2.2.2.1, hS.1.2.2.2.2.2.2.2.2.1]
    rw [e30]
    have big : ∀ q, 27 ≤ q → m7 q = m1 q := fun q hq => by rw [r7 q (by omega) (by omega), fr4.2.2.1 q (by omega), wr q (by omega) (by omega)]
    have z7 : ∀ i, i ≠ 3 → i ≠ 4 → i ≠ 42 → i ≠ 53 → i ≠ 70 → pf i = false → m7 0 i = m1 0 i := fun i a0 a1 a2 a3 a4 a5 => by rw [p7 i a1 a2 a3 a4, fr4.2.2.2.1 i a5, w0 i a0]
    obtain ⟨hz1, hT1', D1, hA1, -⟩ := hj1
    refine h2 u m7 ⟨hz1.1, fun q hq => by rw [big q (by omega)]; exact hz1.2 q hq⟩ (JTx_fr hT1' rfl rfl (z7 1 (by decide) (by decide) (by decide) (by decide) (by decide) rfl) ?_) (BX_same hA1.2.2.2.1 (z7 44 (by decide) (by decide) (by decide) (by decide) (by decide) rfl) (big 29 (by decide)) (big 30 (by decide)) (big 31 (by decide))) ?_ ?_ ?_ ?_ ?_ (fun i hi => ?_) ?_ ?_ ?_
    · rw [r7 1 (by decide) (by decide), fr4.1, wr 1 (by decide) (by decide)]
    · rw [z7 44 (by decide) (by decide) (by decide) (by decide) (by decide) rfl]; exact hA1.2.2.2.2.1
    · rw [e7, sset_place _ _ _ (by decide), sset_place _ _ _ (by decide), sset_place _ _ _ (by decide), k1 0 (by decide), sset_at, vu_eq]
    · rw [e7, sset_place _ _ _ (by decide), sset_place _ _ _ (by decide), sset_at, vu_eq]
    · rw [e7, sset_place _ _ _ (by decide), sset_at, vu_eq]
    · rw [e7, sset_at, vu_eq]
    · rw [e7, sset_row _ _ _ (by decide), sset_row _ _ _ (by decide), sset_row _ _ _ (by decide)]; exact k3 i (Nat.zero_le _) hi
    · obtain ⟨φ, e, N, S, B, nd, ck, ts, tm, hS⟩ := hr4
      exact ⟨φ, e, N, S, B, nd, ck, ts, tm, SRx_frame hS (fun _ _ _ => rfl) (fun q x y => r7 q (by omega) (by omega)) (fun i hi => p7 i (by omega) (by omega) (by omega) (by omega))⟩
    · refine SRC_fr s3 ?_ ?_
      · rw [p7 3 (by decide) (by decide) (by decide) (by decide), fr4.2.2.2.1 3 rfl]
      · rw [r7 2 (by decide) (by decide), fr4.2.1]
    · rw [z7 5 (by decide) (by decide) (by decide) (by decide) (by decide) rfl]; exact hm5
  · -- a fault
    unfold f_X10_fails
    rintro σ4 rfl
    exact h0 u _ (Jx_code hj1 (Int.le_refl _)) (by rw [sset_at, vu_eq])
/-- both behind a good build -/
theorem J_built {c7 m1 : St} (hD : D = 2 ∨ D = 20) (hD' : D' = 22 - D) (hK : 0 ≤ KB) (a1 : ∀ q, q ≠ 0 → q < 44 → c7 q = c' q) (a2 : ∀ q, 71 < q → c7 q = c' q) (a3 : c7 0 1 = c' 0 1 ∧ c7 0 2 = (D' : Int) ∧ c7 0 3 = (D : Int)) (a4 : c7 44 0 = (D' : Int) ∧ c7 44 1 = 0 ∧ c7 44 3 = -1 ∧ c7 44 4 = -1 ∧ c7 44 5 = 0 ∧ c7 44 6 = 0 ∧ c7 44 8 = 0 ∧ c7 45 0 = 0) (a5 : c7 44 9 = 0) (a6 : c7 48 0 = 0 ∧ ∃ tp : Nat, tp ≤ 12 ∧ c7 48 1 = (tp : Int)) (a7 : c7 52 1 = 0) (a8 : c7 65 1 = 0) (hP : PR (SR D') T n c' (-1)) (b1 : HIz c' m1) (b2 : JTx c' m1) (b3 : BX m1) (b4 : m1 0 44 = 0) (b5 : m1 0 4 = 1) (b6 : m1 0 42 = 0) (b7 : m1 0 53 = 0) (b8 : m1 0 70 = 0) (b9 : ∀ i, i < 31 → m1 26 i = 0) (b10 : SR D' c' m1) (b11 : SRC T n 1 m1) : Jx KB c7 m1 := by
  have hd : D' = 2 ∨ D' = 20 := by omega
  have dq : ∀ q, D' ≤ q → q ≤ D' + 17 → c7 q = c' q := fun q x y => a1 q (by omega) (by omega)
  obtain ⟨φ, e, N, S, B, nd, ck, ts, tm, hS⟩ := b10
  have ck16 : ck ≤ 16 := hS.1.2.2.2.2.2.2.2.2.2.2.2.2.2.1
  have nd12 : nd ≤ 12 := hS.1.2.2.2.2.2.2.2.2.2.2.2.2.1
  have hYH := hS.2.2.2.2.2.2.2.2.2.2.1
  obtain ⟨h, h1, h2, -⟩ := hYH
  have le12 : 2 ^ nd ≤ 2 ^ 12 := Nat.pow_le_pow_right (by decide) nd12
  have le16 : 2 ^ ck ≤ 2 ^ 16 := Nat.pow_le_pow_right (by decide) ck16
  have e12 : (2 : Nat) ^ 12 = 4096 := rfl
  have e16 : (2 : Nat) ^ 16 = 65536 := rfl
  obtain ⟨H, hH1, hH2⟩ := ex_bits (fun k => h.testBit (c7 (D' + 16) k).toNat) ck
  obtain ⟨tp, t1, t2⟩ := a6.2
  refine ⟨⟨fun q hq => by rw [a2 q (by omega)]; exact b1.1 q hq, b1.2⟩, JTx_fr b2 a3.1 (a1 1 (by decide) (by decide)) rfl rfl, D', ⟨hd, a3.2.1, by rw [a3.2.2]; omega, b3, b4, ⟨0, by decide, a5⟩⟩, Or.inr ⟨b5, φ, e, N, S, B, nd, ck, ts, tm, H, SRx_frame hS dq (fun _ _ _ => rfl) (fun _ _ => rfl), ⟨by omega, h, by rw [dq D' (by omega) (by omega)]; exact h1, by omega, fun k hk => hH2 k hk⟩, hH1, ⟨T, n, b11, PR_fr dq hP⟩, Or.inl ⟨a4, b9⟩, ⟨0, tp, a6.1, t2, by rw [b6]; rfl, by decide, t1, fun i hi => by omega⟩, Or.inl ⟨a7, b7⟩, Or.inl ⟨a8, b8⟩⟩⟩
end BUILDS
