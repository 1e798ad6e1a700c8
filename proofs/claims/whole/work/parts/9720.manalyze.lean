/-! ===== pure layer: the reference's analysis ===== -/
def vBt : Nat → Nat
  | 0 => 0
  | k + 1 => vBt k + 4 ^ k
theorem vB_or : ∀ f : Fin 6, ior32 ((vBt f.val : Nat) : Int) (ishl32 1 (2 * (f.val : Int))) = ((vBt (f.val + 1) : Nat) : Int) := by decide +kernel
/-- where a sweep begins -/
def ZRs (m : St) : Prop := m 0 69 = 0 ∧ m 0 72 = 0 ∧ m 0 73 = 0 ∧ ∀ j, j < 16 → m 44 j = 0
def EB0 (i : Nat) : Nat → Nat := if i = 0 then e00 else fun _ => 0
section MANA
variable {m0 m c : St} {D N S B nd ck ts tm H hh : Nat} {φ δ h : Nat → Nat} {e : Nat → Int} {E : Nat → Nat → Nat}
theorem r_begins : ∃ m1 : St, (∀ q, q ≠ 36 → m1 q = m q) ∧ MEr m1 EB0 ∧ ∀ Q : St → Prop, Q m1 → f_X10_begins m Q := by
  have l31 : ∀ (j k : Nat) (m : St), k + j = 6 → m 36 7 = ((vBt k : Nat) : Int) → ∀ (Q : St → Prop) (fu : Nat), j < fu → Q (sset (sset m 36 7 1365) 36 8 4096) → f_X10_begins_L31 Q fu m (k : Int) := by
    intro j
    induction j with
    | zero =>
      intro k m hk h7 Q fu hf hQ
      have : k = 6 := by omega
      subst this
      cases fu with
      | zero => omega
      | succ fu =>
        unfold f_X10_begins_L31
        refine ⟨⟨by omega, by omega⟩, fun _ => ?_, fun u => by omega⟩
        rintro σ1 rfl
        have e7 : sset m 36 7 1365 = m := by
          have : m 36 7 = 1365 := h7
          funext q i
          by_cases z : q = 36
          · rw [z]
            by_cases y : i = 7
            · rw [y, sset_at, vu_eq, this]
            · rw [sset_place _ _ _ y]
          · rw [sset_row _ _ _ z]
        rw [e7] at hQ
        exact hQ
    | succ j ih =>
      intro k m hk h7 Q fu hf hQ
      cases fu with
      | zero => omega
      | succ fu =>
        unfold f_X10_begins_L31
        refine ⟨⟨by omega, by omega⟩, fun u => by omega, fun _ => ?_⟩
        rintro σ2 rfl
        have e7 : ior32 ((vBt k : Nat) : Int) (ishl32 1 (2 * (k : Int))) = ((vBt (k + 1) : Nat) : Int) := vB_or ⟨k, by omega⟩
        rw [h7, e7]
        have es : ∀ w : Int, sset (sset m 36 7 w) 36 7 1365 = sset m 36 7 1365 := by
          intro w
          funext q i
          by_cases z : q = 36
          · rw [z]
            by_cases y : i = 7
            · rw [y, sset_at, vu_eq, sset_at, vu_eq]
            · rw [sset_place _ _ _ y, sset_place _ _ _ y, sset_place _ _ _ y]
          · rw [sset_row _ _ _ z, sset_row _ _ _ z, sset_row _ _ _ z]
        exact ih (k + 1) _ (by omega) (by rw [sset_at, vu_eq]) Q fu (by omega) (by rw [es]; exact hQ)
  have l2 : ∀ (j k : Nat) (m : St), k + j = 252 → ∃ m1 : St, (∀ q, q ≠ 36 → m1 q = m q) ∧ (∀ i, i < k → m1 36 i = m 36 i) ∧ (∀ i, k ≤ i → i < 252 → m1 36 i = 0) ∧ ∀ (Q : St → Prop) (fu : Nat), j < fu → f_X10_begins_L31 Q FU (sset m1 36 0 1) 0 → f_X10_begins_L2 Q fu m (k : Int) := by
    intro j
    induction j with
    | zero =>
      intro k m hk
      refine ⟨m, fun _ _ => rfl, fun _ _ => rfl, fun i a b => by omega, fun Q fu hf w => ?_⟩
      cases fu with
      | zero => omega
      | succ fu =>
        unfold f_X10_begins_L2
        refine ⟨⟨by omega, by omega⟩, fun _ => ?_, fun u => by omega⟩
        rintro σ1 rfl
        exact w
    | succ j ih =>
      intro k m hk
      obtain ⟨m1, i1, i2, i3, i4⟩ := ih (k + 1) (sset m 36 k 0) (by omega)
      refine ⟨m1, fun q hq => by rw [i1 q hq, sset_row _ _ _ hq], fun i hi => by rw [i2 i (by omega), sset_place _ _ _ (by omega)], fun i a b => ?_, fun Q fu hf w => ?_⟩
      · by_cases z : i = k
        · rw [z, i2 k (by omega), sset_at, vu_eq]
        · exact i3 i (by omega) b
      · cases fu with
        | zero => omega
        | succ fu =>
          unfold f_X10_begins_L2
          rw [Int.toNat_natCast]
          refine ⟨⟨by omega, by omega⟩, fun u => by omega, fun _ => ⟨by omega, by omega, ?_⟩⟩
          rintro σ2 rfl
          exact i4 Q fu (by omega) w
  obtain ⟨m1, i1, -, i3, i4⟩ := l2 252 0 m (by omega)
  refine ⟨sset (sset (sset m1 36 0 1) 36 7 1365) 36 8 4096, fun q hq => by rw [sset_row _ _ _ hq, sset_row _ _ _ hq, sset_row _ _ _ hq, i1 q hq], fun k hk => ⟨?_, fun z i hi => ?_, fun i hi => ?_⟩, fun Q hQ => ?_⟩
  · unfold EB0
    by_cases z : k = 0
    · rw [if_pos z]; exact e00_KV
    · rw [if_neg z]; exact Or.inl rfl
  · unfold EB0 at z ⊢
    by_cases y : k = 0
    · rw [if_pos y] at z; exact absurd z (by decide)
    · rw [if_neg y]
  · by_cases z : k = 0
    · subst z
      unfold EB0 e00
      rw [if_pos rfl, Nat.mul_zero, Nat.zero_add]
      by_cases y8 : i = 8
      · subst y8
        rw [sset_at, vu_eq]; rfl
      · rw [sset_place _ _ _ y8]
        by_cases y7 : i = 7
        · subst y7
          rw [sset_at, vu_eq]; rfl
        · rw [sset_place _ _ _ y7]
          by_cases y0 : i = 0
          · subst y0
            rw [sset_at, vu_eq]; rfl
          · rw [sset_place _ _ _ y0, i3 i (Nat.zero_le _) (by omega), if_neg y0, if_neg y7, if_neg y8]; rfl
    · unfold EB0
      rw [if_neg z, sset_place _ _ _ (by omega), sset_place _ _ _ (by omega), sset_place _ _ _ (by omega), i3 _ (Nat.zero_le _) (by omega)]
      rfl
  · unfold f_X10_begins
    refine i4 Q FU (by show 252 < 100000; decide) ?_
    exact l31 6 0 (sset m1 36 0 1) (by decide) (by rw [sset_place _ _ _ (by decide), i3 7 (by decide) (by decide)]; rfl) Q FU (by show 6 < 100000; decide) hQ
theorem r_zero : ∀ (j k : Nat) (m : St), k + j = 16 → ∃ m1 : St, (∀ q, q ≠ 44 → m1 q = m q) ∧ (∀ i, i < k → m1 44 i = m 44 i) ∧ (∀ i, k ≤ i → i < 16 → m1 44 i = 0) ∧ ∀ (k27 : St → Prop) (Q : St → Int → Prop) (fu : Nat), j < fu → f_X10_analyze_L72 k27 Q FU m1 0 → f_X10_analyze_L51 k27 Q fu m (k : Int) := by
  intro j
  induction j with
  | zero =>
    intro k m hk
    refine ⟨m, fun _ _ => rfl, fun _ _ => rfl, fun i a b => by omega, fun k27 Q fu hf w => ?_⟩
    cases fu with
    | zero => omega
    | succ fu =>
      unfold f_X10_analyze_L51
      exact ⟨⟨by omega, by omega⟩, fun _ => w, fun u => by omega⟩
  | succ j ih =>
    intro k m hk
    obtain ⟨m1, i1, i2, i3, i4⟩ := ih (k + 1) (sset m 44 k 0) (by omega)
    refine ⟨m1, fun q hq => by rw [i1 q hq, sset_row _ _ _ hq], fun i hi => by rw [i2 i (by omega), sset_place _ _ _ (by omega)], fun i a b => ?_, fun k27 Q fu hf w => ?_⟩
    · by_cases z : i = k
      · rw [z, i2 k (by omega), sset_at, vu_eq]
      · exact i3 i (by omega) b
    · cases fu with
      | zero => omega
      | succ fu =>
        unfold f_X10_analyze_L51
        rw [Int.toNat_natCast]
        refine ⟨⟨by omega, by omega⟩, fun u => by omega, fun _ => ⟨by omega, by omega, ?_⟩⟩
        rintro σ2 rfl
        exact i4 k27 Q fu (by omega) w
/-- one sweep -/
theorem r_sweep (hS : SRx D c m0 φ e N S B nd ck ts tm) (hH : HM c D ck H) (h13 : c D 13 = (hh : Int)) (hY : YWc m0 N B δ h) (hG : GSt m0 m E) (h69 : m 0 69 ≠ 0) : ∃ (m1 : St) (E1 R : Nat → Nat → Nat) (mz : St), ZRs mz ∧ GSt m0 m1 E1 ∧ SWc c m0 D H S nd ck hh N φ e (fun i => i < nd ∨ (12 ≤ i ∧ i < 12 + ck)) E E1 R mz m1 ∧ ∀ (Q : St → Int → Prop) (fu : Nat), f_X10_analyze_L27 Q fu m1 → f_X10_analyze_L27 Q (fu + 1) m := by
  have nd12 : nd ≤ 12 := hS.1.2.2.2.2.2.2.2.2.2.2.2.2.1
  obtain ⟨m4, e4⟩ : ∃ m4 : St, m4 = sset (sset (sset m 0 69 0) 0 72 0) 0 73 0 := ⟨_, rfl⟩
  obtain ⟨mz, i1, -, i3, i4⟩ := r_zero 16 0 m4 (by decide)
  have r4 : ∀ q, q ≠ 0 → m4 q = m q := fun q hq => by rw [e4, sset_row _ _ _ hq, sset_row _ _ _ hq, sset_row _ _ _ hq]
  have p4 : ∀ i, i ≠ 69 → i ≠ 72 → i ≠ 73 → m4 0 i = m 0 i := fun i x y z => by rw [e4, sset_place _ _ _ z, sset_place _ _ _ y, sset_place _ _ _ x]
  have z69 : mz 0 69 = 0 := by rw [i1 0 (by decide), e4, sset_place _ _ _ (by decide), sset_place _ _ _ (by decide), sset_at, vu_eq]
  have z72 : mz 0 72 = 0 := by rw [i1 0 (by decide), e4, sset_place _ _ _ (by decide), sset_at, vu_eq]
  have z73 : mz 0 73 = 0 := by rw [i1 0 (by decide), e4, sset_at, vu_eq]
  have gz : GSt m0 mz E := by
    obtain ⟨⟨f1, f0⟩, gE, -⟩ := hG
    exact ⟨⟨fun q x y => by rw [i1 q (by omega), r4 q x]; exact f1 q x y, fun i a1 a2 a3 a4 a5 a6 a7 a8 => by rw [i1 0 (by decide), p4 i a6 a7 a8]; exact f0 i a1 a2 a3 a4 a5 a6 a7 a8⟩, fun k hk => ⟨(gE k hk).1, (gE k hk).2.1, fun i hi => by rw [i1 36 (by decide), r4 36 (by decide)]; exact (gE k hk).2.2 i hi⟩, Or.inl z69, ⟨0, z72, by decide⟩, ⟨0, z73, by decide⟩⟩
  obtain ⟨m1, E1, R, j1, j2, j3⟩ := r_nds hS hH h13 hY nd 0 mz E (by omega) gz
  refine ⟨m1, E1, R, mz, ⟨z69, z72, z73, fun j hj => i3 j (Nat.zero_le _) hj⟩, j1, SW_weak j2 (fun i => by omega), fun Q fu w => ?_⟩
  unfold f_X10_analyze_L27
  have r69 := hG.2.2.1
  refine ⟨inR_01 r69, fun u => absurd u h69, fun _ => ?_⟩
  rintro σ2 rfl
  rintro σ3 rfl
  rintro σ4 rfl
  rw [← e4]
  exact i4 _ Q FU (by show 16 < 100000; decide) (j3 _ Q FU (by show nd < 100000; omega) w)
/-- all sweeps -/
theorem r_sweeps (hS : SRx D c m0 φ e N S B nd ck ts tm) (hH : HM c D ck H) (h13 : c D 13 = (hh : Int)) (hY : YWc m0 N B δ h) : ∀ (n : Nat) (m : St) (E : Nat → Nat → Nat), 2240 - mu E 28 ≤ n → GSt m0 m E → m 0 69 ≠ 0 → ∃ (m1 : St) (E0 E1 R : Nat → Nat → Nat) (mz : St) (k : Nat), ZRs mz ∧ GSt m0 m1 E1 ∧ m1 0 69 = 0 ∧ SWc c m0 D H S nd ck hh N φ e (fun i => i < nd ∨ (12 ≤ i ∧ i < 12 + ck)) E0 E1 R mz m1 ∧ (∀ i, i < 28 → KV (E0 i)) ∧ (∀ i, i < 28 → KLE (E i) (E0 i)) ∧ (∀ A2 E2 : Nat → Nat → Nat, SOL c D S H nd ck hh A2 E2 → (∀ i, i < 28 → KLE (E i) (E2 i)) → ∀ i, i < 28 → KLE (E0 i) (E2 i)) ∧ k ≤ n + 1 ∧ ∀ (Q : St → Int → Prop) (fu : Nat), f_X10_analyze_L27 Q fu m1 → f_X10_analyze_L27 Q (fu + k) m := by
  intro n
  induction n with
  | zero =>
    intro m E hn hG h69
    obtain ⟨m1, E1, R, mz, a1, a2, a3, a4⟩ := r_sweep hS hH h13 hY hG h69
    have z : m1 0 69 = 0 := by
      apply Classical.byContradiction
      intro u
      have := a3.2.2.2.2.1.2.2.2 a1.1 u
      have := mu_80 (E := E1) 28 (MEr_KV a2.2.1)
      omega
    exact ⟨m1, E, E1, R, mz, 1, a1, a2, z, a3, MEr_KV hG.2.1, fun i hi => KLE_refl (KV_01 (hG.2.1 i hi).1), fun A2 E2 _ l => l, by omega, fun Q fu w => a4 Q fu w⟩
  | succ n ih =>
    intro m E hn hG h69
    obtain ⟨m1, E1, R, mz, a1, a2, a3, a4⟩ := r_sweep hS hH h13 hY hG h69
    by_cases z : m1 0 69 = 0
    · exact ⟨m1, E, E1, R, mz, 1, a1, a2, z, a3, MEr_KV hG.2.1, fun i hi => KLE_refl (KV_01 (hG.2.1 i hi).1), fun A2 E2 _ l => l, by omega, fun Q fu w => a4 Q fu w⟩
    · have := a3.2.2.2.2.1.2.2.2 a1.1 z
      obtain ⟨m2, E0, E2, R2, mz2, k, b1, b2, b3, b4, b5, b6, b7, b8, b9⟩ := ih m1 E1 (by omega) a2 z
      refine ⟨m2, E0, E2, R2, mz2, k + 1, b1, b2, b3, b4, b5, fun i hi => KLE_trans (a3.2.2.2.2.1.1 i hi) (b6 i hi), fun A2 Ex hs l => b7 A2 Ex hs (a3.2.2.1 A2 Ex hs l).1, by omega, fun Q fu w => ?_⟩
      exact a4 Q (fu + k) (b9 Q fu w)
theorem r_sum (hE : MEr m E) (h30 : m 0 30 = (nd : Int)) (nd12 : nd ≤ 12) {Q : St → Int → Prop} (hQ : Q m ((rchN E nd : Nat) : Int)) : ∀ (j k fu : Nat), k + j = nd → j < fu → f_X10_analyze_L173 Q fu m ((rchN E k : Nat) : Int) (k : Int) := by
  intro j
  induction j with
  | zero =>
    intro k fu hk hf
    have : k = nd := by omega
    subst this
    cases fu with
    | zero => omega
    | succ fu =>
      unfold f_X10_analyze_L173
      rw [h30]
      exact ⟨⟨by omega, by omega⟩, ⟨by omega, by omega⟩, fun _ => hQ, fun u => by omega⟩
  | succ j ih =>
    intro k fu hk hf
    cases fu with
    | zero => omega
    | succ fu =>
      have nx := ih (k + 1) fu (by omega) (by omega)
      obtain ⟨kv, -, k3⟩ := hE k (by omega)
      have v36 : m 36 (9 * k) = ((E k 0 : Nat) : Int) := k3 0 (by decide)
      have i36 : (9 * (k : Int)).toNat = 9 * k := by omega
      have er : ((rchN E (k + 1) : Nat) : Int) = ((rchN E k : Nat) : Int) + ((E k 0 : Nat) : Int) := by
        show ((rchN E k + (if E k 0 = 0 then 0 else 1) : Nat) : Int) = _
        rcases KV_01 kv with z | z
        · rw [z, if_pos rfl]; omega
        · rw [z, if_neg (by decide)]; omega
      unfold f_X10_analyze_L173
      rw [h30, i36, v36]
      refine ⟨⟨by omega, by omega⟩, ⟨by omega, by omega⟩, fun u => by omega, fun _ => ⟨by omega, by omega, ?_⟩⟩
      rintro x1 rfl
      rw [← er]
      exact nx
/-- what the reference's analysis leaves alone -/
def FRa (m m1 : St) : Prop := (∀ q, q ≠ 0 → q < 36 ∨ 44 < q → m1 q = m q) ∧ ∀ i, i ≠ 5 → i ≠ 48 → i ≠ 49 → i ≠ 66 → i ≠ 67 → i ≠ 68 → i ≠ 69 → i ≠ 70 → i ≠ 72 → i ≠ 73 → m1 0 i = m 0 i
theorem r_analyze (hS : SRx D c m φ e N S B nd ck ts tm) (hH : HM c D ck H) (h13 : c D 13 = (hh : Int)) (h4 : m 0 4 = 1) : ∃ (m1 m2 : St) (E0 E1 R : Nat → Nat → Nat) (mz : St), ZRs mz ∧ m1 0 69 = 0 ∧ MEr m2 E1 ∧ FRa m m2 ∧ m2 0 5 = 0 ∧ m2 0 70 = 1 ∧ m2 44 = m1 44 ∧ m2 0 72 = m1 0 72 ∧ m2 0 73 = m1 0 73 ∧ (∃ m0 : St, SWc c m0 D H S nd ck hh N φ e (fun i => i < nd ∨ (12 ≤ i ∧ i < 12 + ck)) E0 E1 R mz m1) ∧ (∀ i, i < 28 → KV (E0 i)) ∧ KLE e00 (E0 0) ∧ (∀ A2 E2 : Nat → Nat → Nat, SOL c D S H nd ck hh A2 E2 → ∀ i, i < 28 → KLE (E0 i) (E2 i)) ∧ ∀ Q : St → Int → Prop, Q m2 ((rchN E1 nd : Nat) : Int) → f_X10_analyze m Q := by
  have hS0 : SRx D c (sset m 0 5 0) φ e N S B nd ck ts tm := SRx_frame hS (fun _ _ _ => rfl) (fun q a b => sset_row _ _ _ (by omega)) (fun i hi => sset_place _ _ _ (by omega))
  obtain ⟨-, -, -, -, -, -, -, -, -, -, -, -, -, -, δ, h, hY⟩ := id hS0
  have nd12 : nd ≤ 12 := hS.1.2.2.2.2.2.2.2.2.2.2.2.2.1
  have h30 : m 0 30 = (nd : Int) := hS.1.2.2.2.1
  obtain ⟨mb, b1, b2, b3⟩ := r_begins (m := sset m 0 5 0)
  obtain ⟨mc, ec⟩ : ∃ mc : St, mc = sset mb 0 69 1 := ⟨_, rfl⟩
  obtain ⟨md, ed⟩ : ∃ md : St, md = sset (sset mc 0 72 0) 0 73 0 := ⟨_, rfl⟩
  have p4 : sset m 0 5 0 0 4 = 1 := by rw [sset_place _ _ _ (by decide)]; exact h4
  -- the state before the sweeps, but for two numbers that are cleared at once
  have gc : FRw (sset m 0 5 0) mc ∧ MEr mc EB0 ∧ (mc 0 69 = 0 ∨ mc 0 69 = 1) := by
    refine ⟨⟨fun q x y => by rw [ec, sset_row _ _ _ x, b1 q (by omega)], fun i a1 a2 a3 a4 a5 a6 a7 a8 => by rw [ec, sset_place _ _ _ a6, b1 0 (by decide)]⟩, fun k hk => ⟨(b2 k hk).1, (b2 k hk).2.1, fun i hi => by rw [ec, sset_row _ _ _ (by decide)]; exact (b2 k hk).2.2 i hi⟩, Or.inr (by rw [ec, sset_at, vu_eq])⟩
  have gd : GSt (sset m 0 5 0) md EB0 := by
    have p : ∀ i, i ≠ 72 → i ≠ 73 → md 0 i = mc 0 i := fun i x y => by rw [ed, sset_place _ _ _ y, sset_place _ _ _ x]
    have r : ∀ q, q ≠ 0 → md q = mc q := fun q hq => by rw [ed, sset_row _ _ _ hq, sset_row _ _ _ hq]
    refine ⟨⟨fun q x y => by rw [r q x]; exact gc.1.1 q x y, fun i a1 a2 a3 a4 a5 a6 a7 a8 => by rw [p i a7 a8]; exact gc.1.2 i a1 a2 a3 a4 a5 a6 a7 a8⟩, fun k hk => ⟨(gc.2.1 k hk).1, (gc.2.1 k hk).2.1, fun i hi => by rw [r 36 (by decide)]; exact (gc.2.1 k hk).2.2 i hi⟩, by rw [p 69 (by decide) (by decide)]; exact gc.2.2, ⟨0, by rw [ed, sset_place _ _ _ (by decide), sset_at, vu_eq]; rfl, by decide⟩, ⟨0, by rw [ed, sset_at, vu_eq]; rfl, by decide⟩⟩
  have d69 : md 0 69 ≠ 0 := by rw [ed, sset_place _ _ _ (by decide), sset_place _ _ _ (by decide), ec, sset_at, vu_eq]; decide
  obtain ⟨m1, E0, E1, R, mz, k, s1, s2, s3, s4, s5, s6, s7, s8, s9⟩ := r_sweeps hS0 hH h13 hY 2240 md EB0 (by omega) gd d69
  have sw : ∀ (Q : St → Int → Prop) (fu : Nat), f_X10_analyze_L27 Q (fu + 1) md → f_X10_analyze_L27 Q (fu + 1) mc := by
    intro Q fu w
    unfold f_X10_analyze_L27 at w ⊢
    have c69 : mc 0 69 = 1 := by rw [ec, sset_at, vu_eq]
    refine ⟨inR_01 gc.2.2, fun u => by omega, fun _ => ?_⟩
    have w2 := w.2.2 d69 _ rfl _ rfl _ rfl
    have e3 : sset (sset (sset md 0 69 0) 0 72 0) 0 73 0 = sset (sset (sset mc 0 69 0) 0 72 0) 0 73 0 := by
      rw [ed]
      funext q i
      by_cases z : q = 0
      · rw [z]
        by_cases y73 : i = 73
        · rw [y73, sset_at, vu_eq, sset_at, vu_eq]
        · rw [sset_place _ _ _ y73, sset_place _ _ _ y73]
          by_cases y72 : i = 72
          · rw [y72, sset_at, vu_eq, sset_at, vu_eq]
          · rw [sset_place _ _ _ y72, sset_place _ _ _ y72]
            by_cases y69 : i = 69
            · rw [y69, sset_at, vu_eq, sset_at, vu_eq]
            · rw [sset_place _ _ _ y69, sset_place _ _ _ y69, sset_place _ _ _ y73, sset_place _ _ _ y72]
      · rw [sset_row _ _ _ z, sset_row _ _ _ z, sset_row _ _ _ z, sset_row _ _ _ z, sset_row _ _ _ z, sset_row _ _ _ z, sset_row _ _ _ z, sset_row _ _ _ z]
    rw [e3] at w2
    rintro σ2 rfl
    rintro σ3 rfl
    rintro σ4 rfl
    exact w2
  refine ⟨m1, sset m1 0 70 1, E0, E1, R, mz, s1, s3, fun k hk => ⟨(s2.2.1 k hk).1, (s2.2.1 k hk).2.1, fun i hi => by rw [sset_row _ _ _ (by decide)]; exact (s2.2.1 k hk).2.2 i hi⟩, ⟨fun q x y => by rw [sset_row _ _ _ x, s2.1.1 q x y, sset_row _ _ _ x], fun i a0 a1 a2 a3 a4 a5 a6 a7 a8 a9 => by rw [sset_place _ _ _ a7, s2.1.2 i a1 a2 a3 a4 a5 a6 a8 a9, sset_place _ _ _ a0]⟩, ?_, by rw [sset_at, vu_eq], sset_row _ _ _ (by decide), sset_place _ _ _ (by decide), sset_place _ _ _ (by decide), ⟨_, s4⟩, s5, ?_, fun A2 E2 hs => s7 A2 E2 hs (fun i hi => ?_), fun Q hQ => ?_⟩
  · rw [sset_place _ _ _ (by decide), s2.1.2 5 (by decide) (by decide) (by decide) (by decide) (by decide) (by decide) (by decide) (by decide), sset_at, vu_eq]
  · have := s6 0 (by decide)
    unfold EB0 at this
    rw [if_pos rfl] at this
    exact this
  · unfold EB0
    by_cases z : i = 0
    · rw [if_pos z, z]; exact hs.2.2.1
    · rw [if_neg z]; exact Or.inl rfl
  · have fin : f_X10_analyze_L27 Q (99999 - k + 1) m1 := by
      unfold f_X10_analyze_L27
      refine ⟨by rw [s3]; exact ⟨by decide, by decide⟩, fun _ => ?_, fun u => absurd s3 u⟩
      rintro σ1 rfl
      have := r_sum (m := sset m1 0 70 1) (E := E1) (nd := nd) (fun k hk => ⟨(s2.2.1 k hk).1, (s2.2.1 k hk).2.1, fun i hi => by rw [sset_row _ _ _ (by decide)]; exact (s2.2.1 k hk).2.2 i hi⟩) (by rw [sset_place _ _ _ (by decide), s2.1.2 30 (by decide) (by decide) (by decide) (by decide) (by decide) (by decide) (by decide) (by decide), sset_place _ _ _ (by decide)]; exact h30) nd12 hQ nd 0 FU (by omega) (by show nd < 100000; omega)
      exact this
    have w := s9 Q _ fin
    have ef : 99999 - k + 1 + k = 99999 + 1 := by omega
    rw [ef] at w
    have w' := sw Q 99999 w
    unfold f_X10_analyze
    rintro σ1 rfl
    rw [p4]
    refine ⟨⟨by decide, by decide⟩, fun _ => b3 _ ?_, fun u => absurd u (by decide)⟩
    rintro σ3 rfl
    rw [← ec]
    exact w'
end MANA
