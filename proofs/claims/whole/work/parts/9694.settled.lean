/-! ===== pure layer: the class settles ===== -/
/-- what is fixed of the story -/
def BDSx (c0 : St) (D S H nd ck hh : Nat) : Prop := (D = 2 ∨ D = 20) ∧ c0 D 0 = (S : Int) ∧ S ≤ 400 ∧ (c0 D 10 = (nd : Int) ∧ nd ≤ 12) ∧ (c0 D 14 = (ck : Int) ∧ ck ≤ 16) ∧ (c0 D 13 = (hh : Int) ∧ hh < 4096) ∧ (∀ n, n < nd → 0 ≤ c0 (D + 14) n ∧ c0 (D + 14) n < S) ∧ (∀ k, k < ck → 0 ≤ c0 (D + 17) k ∧ c0 (D + 17) k < S) ∧ (∀ x, x < S → XQ c0 D S x) ∧ HCk c0 D H ∧ DT c0 D S
/-- what a whole sweep gives -/
def OUZx (c0 c1 : St) (D S : Nat) (A : Nat → Nat → Nat) : Prop := (∀ x, x < S → c0 (D + 1) x = 6 → A x 0 ≠ 0 → c1 71 (c0 (D + 2) x).toNat = vdN c0 D x (A x)) ∧ (∀ j : Nat, j < 16 → (∀ x, x < S → c0 (D + 1) x = 6 → c0 (D + 2) x = (j : Int) → A x 0 = 0) → c1 71 j = 0) ∧ (∃ e1 : Nat, c1 65 9 = (e1 : Int) ∧ e1 < 65536 ∧ ∀ i, e1.testBit i = true ↔ ∃ x, x < S ∧ c0 (D + 1) x = 10 ∧ c0 (D + 2) x = (i : Int) ∧ A x 0 ≠ 0) ∧ (∃ e1 : Nat, c1 65 10 = (e1 : Int) ∧ e1 < 65536 ∧ ∀ i, e1.testBit i = true ↔ ∃ x, x < S ∧ DEx c0 D A x ∧ c0 (D + 2) x = (i : Int))
section SETTLEDX
variable {c0 : St} {D S H nd ck hh : Nat}
theorem STA_down {A E E2 : Nat → Nat → Nat} (hnd : nd ≤ 12) (hck : ck ≤ 16) (h : STA c0 D nd ck hh A E2) (hl : ∀ i, i < 28 → KLE (E i) (E2 i)) : STA c0 D nd ck hh A E := ⟨fun n hn => SLE_trans (ent_mono (aHb_mono (hl n (by omega)))) (h.1 n hn), fun k hk => SLE_trans (ent_mono (hl (12 + k) (by omega))) (h.2 k hk)⟩
/-- one sweep -/
theorem B_sweep {c : St} {E : Nat → Nat → Nat} (hb : BDSx c0 D S H nd ck hh) (hT : TB c0 c D) (h65 : c 65 0 = (D : Int)) (hE : CEr c E) (hne : c 65 2 = 1) : ∃ (c1 : St) (A E1 : Nat → Nat → Nat), (CEr c1 E1 ∧ AVs A ∧ ∀ i, i < 28 → KLE (E i) (E1 i)) ∧ (∀ x, x < S → CLS c0 D H A E1 x) ∧ STA c0 D nd ck hh A E ∧ (∀ A2 E2 : Nat → Nat → Nat, SOL c0 D S H nd ck hh A2 E2 → (∀ i, i < 28 → KLE (E i) (E2 i)) → (∀ z, z < 400 → SLE (A z) (A2 z)) ∧ ∀ i, i < 28 → KLE (E1 i) (E2 i)) ∧ (∀ q, q < 65 ∨ 71 < q → c1 q = c q) ∧ (∀ i, i ≠ 2 → i ≠ 9 → i ≠ 10 → c1 65 i = c 65 i) ∧ ((c1 65 2 = 0 ∨ c1 65 2 = 1) ∧ (c1 65 2 = 0 → ∀ i, i < 28 → pkg (E1 i) = pkg (E i)) ∧ (c1 65 2 ≠ 0 → mu E 28 < mu E1 28)) ∧ OUZx c0 c1 D S A ∧ ∀ (Q : St → Prop) (fu : Nat) (v2 : Int), 0 ≤ v2 → v2 < 10000 → f_X0_settle_L21 Q fu c1 (v2 + 1) → f_X0_settle_L21 Q (fu + 1) c v2 := by
  obtain ⟨hD, hS, hS4, ⟨h10, hnd⟩, ⟨h14, hck⟩, ⟨h13, hhb⟩, hnf, hcf, hQx, hHk, hdt⟩ := hb
  obtain ⟨c4, i1, i2, i3⟩ := t_fill (c := sset (sset (sset c 65 2 0) 65 9 0) 65 10 0) (a := 71) (l := 16) (v := 0) ⟨by unfold isIA; decide, by decide⟩ (by decide)
  obtain ⟨c5, j1, j2, j3⟩ := t_fillL (c := c4) (a := 68) (l := 400) (v := 0) ⟨by unfold isLA; decide, by decide⟩ (by decide)
  have rr : ∀ q, q ≠ 65 → q ≠ 68 → q ≠ 71 → c5 q = c q := fun q u v w => by rw [j1 q v, i1 q w, sset_row _ _ _ u, sset_row _ _ _ u, sset_row _ _ _ u]
  have r65 : c5 65 = va_up (va_up (va_up (c 65) 2 0) 9 0) 10 0 := by rw [j1 65 (by decide), i1 65 (by decide), sset_at, sset_at, sset_at]
  have hT5 : TB c0 c5 D := fun q u v => by rw [rr q (by omega) (by omega) (by omega), hT q u v]
  have hE5 : CEr c5 E := ⟨fun n hn => by rw [rr 66 (by decide) (by decide) (by decide)]; exact hE.1 n hn, fun n hn => by rw [rr 67 (by decide) (by decide) (by decide)]; exact hE.2.1 n hn, hE.2.2⟩
  have h650 : c5 65 0 = (D : Int) := by rw [r65, vu_ne _ _ (by decide), vu_ne _ _ (by decide), vu_ne _ _ (by decide)]; exact h65
  obtain ⟨c6, A, b1, b2, b3, b4, b5, b6⟩ := B_pour hD hT5 h650 hS hS4 h10 hnd h14 hck h13 hhb hnf hcf hE5 j2
  have hT6 : TB c0 c6 D := fun q u v => by rw [b5 q (by omega) (by omega) (by omega), hT5 q u v]
  have hE6 : CEr c6 E := ⟨fun n hn => by rw [b5 66 (by decide) (by decide) (by decide)]; exact hE5.1 n hn, fun n hn => by rw [b5 67 (by decide) (by decide) (by decide)]; exact hE5.2.1 n hn, hE5.2.2⟩
  have q65 : c6 65 = va_up (va_up (va_up (c 65) 2 0) 9 0) 10 0 := by rw [b5 65 (by decide) (by decide) (by decide), r65]
  have q2 : c6 65 2 = 0 := by rw [q65, vu_ne _ _ (by decide), vu_ne _ _ (by decide), vu_eq]
  have q9 : c6 65 9 = ((0 : Nat) : Int) := by rw [q65, vu_ne _ _ (by decide), vu_eq]; rfl
  have q10 : c6 65 10 = ((0 : Nat) : Int) := by rw [q65, vu_eq]; rfl
  have q71 : ∀ j, j < 16 → c6 71 j = 0 := fun j hj => by rw [b5 71 (by decide) (by decide) (by decide), j1 71 (by decide)]; exact i2 j hj
  obtain ⟨c1, A1, E1, w1, w2, -, w4, w5, w6, w7, w8, w9, ⟨x1, -, x3, x4⟩, ⟨p1, p2, p3, p4⟩, w12⟩ := W_loop hD hS hS4 hQx hHk hdt S 0 c6 A E (by omega) hT6 (by rw [b5 65 (by decide) (by decide) (by decide)]; exact h650) (Or.inl q2) b1 hE6 b2
  refine ⟨c1, A1, E1, ⟨w1, w2, w5⟩, fun x hx => w6 x (Nat.zero_le _) hx, ⟨fun n hn => SLE_trans (b3.1 n hn) (w4 _ (by have := hnf n hn; omega)), fun k hk => SLE_trans (b3.2 k hk) (w4 _ (by have := hcf k hk; omega))⟩, fun A2 E2 u v => ?_, fun q hq => ?_, fun i u v w => ?_, ⟨x1, x3, x4 q2⟩, ⟨fun x u v w => p1 x (Nat.zero_le _) u v w, fun j hj u => ?_, ?_, ?_⟩, fun Q fu v2 u1 u2 u3 => ?_⟩
  · obtain ⟨s1, s2, -, s4, -⟩ := u
    exact w7 A2 E2 (fun x _ hx => s1 x hx) s4 (b4 A2 (STA_down hnd hck s2 v)) v
  · rw [w8 q hq, b5 q (by omega) (by omega) (by omega), rr q (by omega) (by omega) (by omega)]
  · rw [w9 i u v w, q65, vu_ne _ _ w, vu_ne _ _ v, vu_ne _ _ u]
  · rw [p2 j (fun x _ hx y z => u x hx y z), q71 j hj]
  · obtain ⟨e1, r1, r2, r3⟩ := p3 0 q9 (by decide)
    refine ⟨e1, r1, r2, fun i => ?_⟩
    rw [r3 i]
    constructor
    · rintro (u | ⟨x, -, u⟩)
      · rw [Nat.zero_testBit] at u; exact absurd u (by decide)
      · exact ⟨x, u⟩
    · rintro ⟨x, u⟩
      exact Or.inr ⟨x, Nat.zero_le _, u⟩
  · obtain ⟨e1, r1, r2, r3⟩ := p4 0 q10 (by decide)
    refine ⟨e1, r1, r2, fun i => ?_⟩
    rw [r3 i]
    constructor
    · rintro (u | ⟨x, -, u⟩)
      · rw [Nat.zero_testBit] at u; exact absurd u (by decide)
      · exact ⟨x, u⟩
    · rintro ⟨x, u⟩
      exact Or.inr ⟨x, Nat.zero_le _, u⟩
  · unfold f_X0_settle_L21
    rw [hne]
    refine ⟨⟨by omega, by omega⟩, fun u => by omega, fun _ => ⟨⟨by decide, by decide⟩, fun u => absurd u (by decide), fun _ => ?_⟩⟩
    rintro σ3 rfl
    unfold f_X0_beginSweep
    rintro σ4 rfl σ5 rfl
    exact i3 _ (j3 _ (b6 _ (w12 _ Q FU v2 (by show S < 100000; omega) u3)))
/-- the least solution is reached -/
def FINx (c0 : St) (D S H nd ck hh : Nat) (c : St) (A E : Nat → Nat → Nat) : Prop := CEr c E ∧ AVs A ∧ SOL c0 D S H nd ck hh A E ∧ OUZx c0 c D S A ∧ ∀ A2 E2 : Nat → Nat → Nat, SOL c0 D S H nd ck hh A2 E2 → (∀ z, z < 400 → SLE (A z) (A2 z)) ∧ ∀ i, i < 28 → KLE (E i) (E2 i)
theorem FINx_set {c : St} {A E : Nat → Nat → Nat} {j : Nat} {v : Int} (hj : j ≠ 9) (hj' : j ≠ 10) (h : FINx c0 D S H nd ck hh c A E) : FINx c0 D S H nd ck hh (sset c 65 j v) A E := by
  obtain ⟨⟨a1, a2, a3⟩, b, d, ⟨o1, o2, o3, o4⟩, f⟩ := h
  refine ⟨⟨fun n hn => by rw [sset_row _ _ _ (by decide)]; exact a1 n hn, fun n hn => by rw [sset_row _ _ _ (by decide)]; exact a2 n hn, a3⟩, b, d, ⟨fun x u v w => by rw [sset_row _ _ _ (by decide)]; exact o1 x u v w, fun k u v => by rw [sset_row _ _ _ (by decide)]; exact o2 k u v, ?_, ?_⟩, f⟩
  · rw [sset_place _ _ _ (Ne.symm hj)]; exact o3
  · rw [sset_place _ _ _ (Ne.symm hj')]; exact o4
/-- sweep after sweep -/
theorem B_loop (hb : BDSx c0 D S H nd ck hh) : ∀ (j : Nat) (c : St) (E : Nat → Nat → Nat), 2240 - mu E 28 ≤ j → TB c0 c D → c 65 0 = (D : Int) → CEr c E → (c 65 2 = 0 ∨ c 65 2 = 1) → KLE e00 (E 0) → (∀ A2 E2 : Nat → Nat → Nat, SOL c0 D S H nd ck hh A2 E2 → ∀ i, i < 28 → KLE (E i) (E2 i)) → (c 65 2 = 0 → ∃ A, FINx c0 D S H nd ck hh c A E) → ∃ (c1 : St) (A1 E1 : Nat → Nat → Nat), FINx c0 D S H nd ck hh c1 A1 E1 ∧ (∀ q, q < 65 ∨ 71 < q → c1 q = c q) ∧ c1 65 0 = (D : Int) ∧ c1 65 1 = 1 ∧ ∀ (Q : St → Prop) (fu : Nat) (v2 : Int), j + 2 ≤ fu → 0 ≤ v2 → v2 + j + 1 < 10000 → Q c1 → f_X0_settle_L21 Q fu c v2 := by
  intro j
  induction j with
  | zero =>
    intro c E hj hT h65 hE h2 he hl hf
    by_cases g : c 65 2 = 0
    · obtain ⟨A, hA⟩ := hf g
      refine ⟨sset c 65 1 1, A, E, FINx_set (by decide) (by decide) hA, fun q hq => sset_row _ _ _ (by omega), by rw [sset_place _ _ _ (by decide)]; exact h65, by rw [sset_at, vu_eq], fun Q fu v2 u1 u2 u3 u4 => ?_⟩
      cases fu with
      | zero => omega
      | succ fu =>
        unfold f_X0_settle_L21
        rw [g]
        refine ⟨⟨by omega, by omega⟩, fun u => by omega, fun _ => ⟨⟨by decide, by decide⟩, fun _ => ?_, fun u => absurd rfl u⟩⟩
        rintro σ2 rfl
        exact u4
    · have g1 : c 65 2 = 1 := by omega
      obtain ⟨c2, A, E2, ⟨a1, a2, a3⟩, b, d, e, f, k, ⟨l1, l2, l3⟩, o, t⟩ := B_sweep hb hT h65 hE g1
      have m80 := mu_80 (E := E2) 28 a1.2.2
      have m81 := mu_80 (E := E) 28 hE.2.2
      have g2 : c2 65 2 = 0 := by
        by_cases z : c2 65 2 = 0
        · exact z
        · have := l3 z; omega
      have hA : FINx c0 D S H nd ck hh c2 A E2 := ⟨a1, a2, ⟨b, STA_down hb.2.2.2.1.2 hb.2.2.2.2.1.2 d (fun i hi => pkg_KLE (a1.2.2 i hi) (hE.2.2 i hi) (l2 g2 i hi)), KLE_trans he (a3 0 (by decide)), fun z hz => (a2 z hz).1, a1.2.2⟩, o, fun A3 E3 u => e A3 E3 u (hl A3 E3 u)⟩
      refine ⟨sset c2 65 1 1, A, E2, FINx_set (by decide) (by decide) hA, fun q hq => by rw [sset_row _ _ _ (by omega), f q hq], by rw [sset_place _ _ _ (by decide), k 0 (by decide) (by decide) (by decide)]; exact h65, by rw [sset_at, vu_eq], fun Q fu v2 u1 u2 u3 u4 => ?_⟩
      cases fu with
      | zero => omega
      | succ fu =>
        refine t Q fu v2 u2 (by omega) ?_
        cases fu with
        | zero => omega
        | succ fu =>
          unfold f_X0_settle_L21
          rw [g2]
          refine ⟨⟨by omega, by omega⟩, fun u => by omega, fun _ => ⟨⟨by decide, by decide⟩, fun _ => ?_, fun u => absurd rfl u⟩⟩
          rintro σ2 rfl
          exact u4
  | succ j ih =>
    intro c E hj hT h65 hE h2 he hl hf
    by_cases g : c 65 2 = 0
    · obtain ⟨A, hA⟩ := hf g
      refine ⟨sset c 65 1 1, A, E, FINx_set (by decide) (by decide) hA, fun q hq => sset_row _ _ _ (by omega), by rw [sset_place _ _ _ (by decide)]; exact h65, by rw [sset_at, vu_eq], fun Q fu v2 u1 u2 u3 u4 => ?_⟩
      cases fu with
      | zero => omega
      | succ fu =>
        unfold f_X0_settle_L21
        rw [g]
        refine ⟨⟨by omega, by omega⟩, fun u => by omega, fun _ => ⟨⟨by decide, by decide⟩, fun _ => ?_, fun u => absurd rfl u⟩⟩
        rintro σ2 rfl
        exact u4
    · have g1 : c 65 2 = 1 := by omega
      obtain ⟨c2, A, E2, ⟨a1, a2, a3⟩, b, d, e, f, k, ⟨l1, l2, l3⟩, o, t⟩ := B_sweep hb hT h65 hE g1
      have m80 := mu_80 (E := E2) 28 a1.2.2
      have m81 := mu_80 (E := E) 28 hE.2.2
      have mle := (mu_le (E := E) (E' := E2) 28 (fun i hi => ⟨hE.2.2 i hi, a1.2.2 i hi, a3 i hi⟩)).1
      have hA : c2 65 2 = 0 → FINx c0 D S H nd ck hh c2 A E2 := fun g2 => ⟨a1, a2, ⟨b, STA_down hb.2.2.2.1.2 hb.2.2.2.2.1.2 d (fun i hi => pkg_KLE (a1.2.2 i hi) (hE.2.2 i hi) (l2 g2 i hi)), KLE_trans he (a3 0 (by decide)), fun z hz => (a2 z hz).1, a1.2.2⟩, o, fun A3 E3 u => e A3 E3 u (hl A3 E3 u)⟩
      by_cases g2 : c2 65 2 = 0
      · refine ⟨sset c2 65 1 1, A, E2, FINx_set (by decide) (by decide) (hA g2), fun q hq => by rw [sset_row _ _ _ (by omega), f q hq], by rw [sset_place _ _ _ (by decide), k 0 (by decide) (by decide) (by decide)]; exact h65, by rw [sset_at, vu_eq], fun Q fu v2 u1 u2 u3 u4 => ?_⟩
        cases fu with
        | zero => omega
        | succ fu =>
          refine t Q fu v2 u2 (by omega) ?_
          cases fu with
          | zero => omega
          | succ fu =>
            unfold f_X0_settle_L21
            rw [g2]
            refine ⟨⟨by omega, by omega⟩, fun u => by omega, fun _ => ⟨⟨by decide, by decide⟩, fun _ => ?_, fun u => absurd rfl u⟩⟩
            rintro σ2 rfl
            exact u4
      · have g3 := l3 g2
        have hD := hb.1
        obtain ⟨c1, A1, E1, i1, i2, i3, i4, i5⟩ := ih c2 E2 (by omega) (fun q u v => by rw [f q (by omega), hT q u v]) (by rw [k 0 (by decide) (by decide) (by decide)]; exact h65) a1 l1 (KLE_trans he (a3 0 (by decide))) (fun A3 E3 u => (e A3 E3 u (hl A3 E3 u)).2) (fun u => absurd u g2)
        refine ⟨c1, A1, E1, i1, fun q hq => by rw [i2 q hq, f q hq], i3, i4, fun Q fu v2 u1 u2 u3 u4 => ?_⟩
        cases fu with
        | zero => omega
        | succ fu => exact t Q fu v2 u2 (by omega) (i5 Q fu (v2 + 1) (by omega) (by omega) (by omega) u4)
end SETTLEDX
/-- the class settles -/
theorem T_settle {c : St} {D S H nd ck hh : Nat} (hb : BDSx c D S H nd ck hh) : ∃ (c1 : St) (A E : Nat → Nat → Nat), FINx c D S H nd ck hh c1 A E ∧ (∀ q, q < 65 ∨ 71 < q → c1 q = c q) ∧ c1 65 0 = (D : Int) ∧ c1 65 1 = 1 ∧ ∀ Q : St → Prop, Q c1 → f_X0_settle D c Q := by
  have hD := hb.1
  obtain ⟨c4, i1, i2, i3⟩ := t_fillL (c := sset (sset c 65 0 (D : Int)) 65 1 0) (a := 66) (l := 12) (v := 0) ⟨by unfold isLA; decide, by decide⟩ (by decide)
  obtain ⟨c5, j1, j2, j3⟩ := t_fillL (c := c4) (a := 67) (l := 16) (v := 0) ⟨by unfold isLA; decide, by decide⟩ (by decide)
  have r66 : c5 66 = c4 66 := j1 66 (by decide)
  let c6 := sset (sset c5 66 0 281497877610496) 65 2 1
  let E : Nat → Nat → Nat := fun i => if i = 0 then e00 else fun _ => 0
  have hT : TB c c6 D := fun q u v => by
    show sset (sset c5 66 0 281497877610496) 65 2 1 q = c q
    rw [sset_row _ _ _ (by omega), sset_row _ _ _ (by omega), j1 q (by omega), i1 q (by omega), sset_row _ _ _ (by omega), sset_row _ _ _ (by omega)]
  have r65 : c6 65 0 = (D : Int) := by
    show sset (sset c5 66 0 281497877610496) 65 2 1 65 0 = (D : Int)
    rw [sset_place _ _ _ (by decide), sset_row _ _ _ (by decide), j1 65 (by decide), i1 65 (by decide), sset_place _ _ _ (by decide), sset_at, vu_eq]
  have z0 : KV (fun _ => 0) := Or.inl rfl
  have hE : CEr c6 E := by
    refine ⟨fun n hn => ?_, fun k hk => ?_, fun i hi => ?_⟩
    · show sset (sset c5 66 0 281497877610496) 65 2 1 66 n = ((pkg (if n = 0 then e00 else fun _ => 0) : Nat) : Int)
      rw [sset_row _ _ _ (by decide), sset_at]
      by_cases g : n = 0
      · rw [g, vu_eq, if_pos rfl]
        have : pkg e00 = 281497877610496 := by decide
        rw [this]; rfl
      · rw [vu_ne _ _ g, if_neg g, pkg_0 rfl, r66, i2 n hn]; rfl
    · show sset (sset c5 66 0 281497877610496) 65 2 1 67 k = ((pkg (if 12 + k = 0 then e00 else fun _ => 0) : Nat) : Int)
      rw [sset_row _ _ _ (by decide), sset_row _ _ _ (by decide), if_neg (by omega), pkg_0 rfl, j2 k hk]; rfl
    · show KV (if i = 0 then e00 else fun _ => 0)
      by_cases g : i = 0
      · rw [if_pos g]; exact e00_KV
      · rw [if_neg g]; exact z0
  have h2 : c6 65 2 = 1 := by
    show sset (sset c5 66 0 281497877610496) 65 2 1 65 2 = 1
    rw [sset_at, vu_eq]
  obtain ⟨c1, A, E1, k1, k2, k3, k4, k5⟩ := B_loop hb 2240 c6 E (by omega) hT r65 hE (Or.inr h2) (KLE_refl (Or.inr rfl)) (fun A2 E2 u i hi => by
    show KLE (if i = 0 then e00 else fun _ => 0) (E2 i)
    by_cases g : i = 0
    · rw [if_pos g, g]; exact u.2.2.1
    · rw [if_neg g]; exact Or.inl rfl) (fun u => by omega)
  refine ⟨c1, A, E1, k1, fun q hq => ?_, k3, k4, fun Q hQ => ?_⟩
  · rw [k2 q hq]
    show sset (sset c5 66 0 281497877610496) 65 2 1 q = c q
    rw [sset_row _ _ _ (by omega), sset_row _ _ _ (by omega), j1 q (by omega), i1 q (by omega), sset_row _ _ _ (by omega), sset_row _ _ _ (by omega)]
  · unfold f_X0_settle f_X0_forget
    rintro σ1 rfl σ2 rfl
    refine i3 _ (j3 _ ?_)
    rintro σ3 rfl σ4 rfl
    exact k5 Q FU 0 (by show 2242 ≤ 100000; decide) (by decide) (by decide) hQ
