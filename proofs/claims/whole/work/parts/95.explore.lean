/-! ===== pure layer: exploring, in both ===== -/
def PWy (c m : St) (P nd : Nat) : Prop := ∃ E : Nat, E < 4096 ∧ c P 9 = (E : Int) ∧ (∀ v, v < nd → m 30 v = if E.testBit v then 1 else 0) ∧ ∀ v, v < 100 → c (P + 3) v = m 29 v
def EXPL (c m : St) (nd ck H : Nat) : Prop := (c 52 1 = 0 ∧ m 0 53 = 0) ∨ (c 52 1 = 1 ∧ m 0 53 = 1 ∧ (∃ n lim, EXR c m nd ck H n lim 5000) ∧ EOF c m ck ∧ PWy c m 61 nd)
theorem t_fill {c : St} {a l : Nat} {v : Int} (h : isIA KC a ∧ alen KC a = l) (hl : l ≤ 1000) : ∃ c1 : St, (∀ q, q ≠ a → c1 q = c q) ∧ (∀ i, i < l → c1 a i = v) ∧ ∀ Q : St → Prop, Q c1 → f_JA_fillI a v c Q := by
  have key : ∀ (j k : Nat) (c : St), k + j = l → ∃ c1 : St, (∀ q, q ≠ a → c1 q = c q) ∧ (∀ i, c1 a i = if k ≤ i ∧ i < l then v else c a i) ∧ ∀ (Q : St → Prop) (fu : Nat), j < fu → Q c1 → f_JA_fillI_L5 Q fu c a v (k : Int) (l : Int) := by
    intro j
    induction j with
    | zero =>
      intro k c hk
      refine ⟨c, fun _ _ => rfl, fun i => by rw [if_neg (by omega)], fun Q fu hf hQ => ?_⟩
      cases fu with
      | zero => omega
      | succ fu =>
        unfold f_JA_fillI_L5
        exact ⟨⟨by omega, by omega⟩, ⟨by omega, by omega⟩, fun _ => hQ, fun g => by omega⟩
    | succ j ih =>
      intro k c hk
      obtain ⟨c1, i1, i2, i3⟩ := ih (k + 1) (sset c a k v) (by omega)
      refine ⟨c1, fun q hq => by rw [i1 q hq, sset_row _ _ _ hq], fun i => ?_, fun Q fu hf hQ => ?_⟩
      · rw [i2 i, sset_at]
        by_cases g : i = k
        · subst g; rw [if_neg (by omega), vu_eq, if_pos ⟨Nat.le_refl _, by omega⟩]
        · rw [vu_ne _ _ g]
          by_cases g2 : k + 1 ≤ i ∧ i < l
          · rw [if_pos g2, if_pos ⟨by omega, g2.2⟩]
          · rw [if_neg g2, if_neg (by omega)]
      · cases fu with
        | zero => omega
        | succ fu =>
          unfold f_JA_fillI_L5
          rw [h.2]
          refine ⟨⟨by omega, by omega⟩, ⟨by omega, by omega⟩, fun g => by omega, fun _ => ⟨h.1, by omega, by omega, fun σ1 e1 => ?_⟩⟩
          rw [Int.toNat_natCast] at e1
          rw [e1]
          exact i3 Q fu (by omega) hQ
  obtain ⟨c1, i1, i2, i3⟩ := key l 0 c (by omega)
  refine ⟨c1, i1, fun i hi => by rw [i2 i, if_pos ⟨Nat.zero_le _, hi⟩], fun Q hQ => ?_⟩
  unfold f_JA_fillI
  rw [h.2]
  refine ⟨h.1, ?_⟩
  rintro x1 rfl
  exact i3 Q FU (by show l < 100000; omega) hQ
/-- the class's explorer forgets -/
theorem t_xforget {c : St} {D : Nat} : ∃ c1 : St, (∀ q, q < 52 ∨ 64 < q → c1 q = c q) ∧ c1 52 1 = 0 ∧ c1 52 2 = 1 ∧ c1 52 4 = 0 ∧ c1 52 5 = 0 ∧ (∀ i, i < 12 → c1 57 i = 0) ∧ (∀ i, i < 12 → c1 60 i = -1) ∧ c1 61 9 = 0 ∧ ∀ Q : St → Prop, Q c1 → f_X1_forget D c Q := by
  obtain ⟨c1, ⟨g0, g1, g3, g4, g5, g6, g7, g8, g9, g10, g11⟩, gf, goc⟩ := t_pforget (c := c) (P := 61) (D := D) (Or.inr rfl)
  obtain ⟨c2, hc2⟩ : ∃ c2 : St, c2 = sset (sset (sset (sset c1 52 1 0) 52 2 1) 52 4 0) 52 5 0 := ⟨_, rfl⟩
  have c2r : ∀ q, q ≠ 52 → c2 q = c1 q := fun q hq => by rw [hc2, sset_row _ _ _ hq, sset_row _ _ _ hq, sset_row _ _ _ hq, sset_row _ _ _ hq]
  obtain ⟨c3, i1, i2, i3⟩ := t_fill (c := c2) (a := 57) (l := 12) (v := 0) ⟨by unfold isIA; decide, by decide⟩ (by decide)
  obtain ⟨c4, j1, j2, j3⟩ := t_fill (c := c3) (a := 60) (l := 12) (v := -1) ⟨by unfold isIA; decide, by decide⟩ (by decide)
  have r52 : c4 52 = c2 52 := by rw [j1 52 (by decide), i1 52 (by decide)]
  refine ⟨c4, fun q hq => ?_, ?_, ?_, ?_, ?_, fun i hi => ?_, fun i hi => j2 i hi, ?_, fun Q hQ => ?_⟩
  · rw [j1 q (by omega), i1 q (by omega), c2r q (by omega), gf q (by omega) (by omega) (by omega) (by omega)]
  · rw [r52, hc2]; simp [sset_ap]
  · rw [r52, hc2]; simp [sset_ap]
  · rw [r52, hc2]; simp [sset_ap]
  · rw [r52, hc2]; simp [sset_ap]
  · rw [j1 57 (by decide)]; exact i2 i hi
  · rw [j1 61 (by decide), i1 61 (by decide), c2r 61 (by decide), g9]
  · unfold f_X1_forget
    refine goc _ ?_
    intro σ2 e2 σ3 e3 σ4 e4 σ5 e5
    have es : σ5 = c2 := by rw [e5, e4, e3, e2, hc2]
    rw [es]
    exact i3 _ (j3 _ hQ)
/-- the reference forgets -/
theorem r_forgets {m : St} : ∃ m1 : St, (∀ q, q ≠ 29 → q ≠ 30 → q ≠ 31 → q ≠ 33 → m1 q = m q) ∧ (∀ i, i < 100 → m1 29 i = 0) ∧ (∀ i, i < 12 → m1 30 i = 0) ∧ (∀ i, i < 12 → m1 33 i = 0) ∧ (∀ i, i < 16 → m1 31 i = 0) ∧ ∀ Q : St → Prop, Q m1 → f_X10_forgets m Q := by
  have k1 : ∀ (j k : Nat) (m : St), k + j = 100 → ∃ m1 : St, (∀ q, q ≠ 29 → m1 q = m q) ∧ (∀ i, m1 29 i = if k ≤ i ∧ i < 100 then 0 else m 29 i) ∧ ∀ (Q : St → Prop) (fu : Nat), j < fu → f_X10_forgets_L23 Q FU m1 0 → f_X10_forgets_L2 Q fu m (k : Int) := by
    intro j
    induction j with
    | zero =>
      intro k m hk
      refine ⟨m, fun _ _ => rfl, fun i => by rw [if_neg (by omega)], fun Q fu hf hQ => ?_⟩
      cases fu with
      | zero => omega
      | succ fu =>
        unfold f_X10_forgets_L2
        exact ⟨⟨by omega, by omega⟩, fun _ => hQ, fun g => by omega⟩
    | succ j ih =>
      intro k m hk
      obtain ⟨m1, i1, i2, i3⟩ := ih (k + 1) (sset m 29 k 0) (by omega)
      refine ⟨m1, fun q hq => by rw [i1 q hq, sset_row _ _ _ hq], fun i => ?_, fun Q fu hf hQ => ?_⟩
      · rw [i2 i, sset_at]
        by_cases g : i = k
        · subst g; rw [if_neg (by omega), vu_eq, if_pos ⟨Nat.le_refl _, by omega⟩]
        · rw [vu_ne _ _ g]
          by_cases g2 : k + 1 ≤ i ∧ i < 100
          · rw [if_pos g2, if_pos ⟨by omega, g2.2⟩]
          · rw [if_neg g2, if_neg (by omega)]
      · cases fu with
        | zero => omega
        | succ fu =>
          unfold f_X10_forgets_L2
          refine ⟨⟨by omega, by omega⟩, fun g => by omega, fun _ => ⟨by omega, by omega, fun σ1 e1 => ?_⟩⟩
          rw [Int.toNat_natCast] at e1
          rw [e1]
          exact i3 Q fu (by omega) hQ
  have k2 : ∀ (j k : Nat) (m : St), k + j = 12 → ∃ m1 : St, (∀ q, q ≠ 30 → q ≠ 33 → m1 q = m q) ∧ (∀ i, m1 30 i = if k ≤ i ∧ i < 12 then 0 else m 30 i) ∧ (∀ i, m1 33 i = if k ≤ i ∧ i < 12 then 0 else m 33 i) ∧ ∀ (Q : St → Prop) (fu : Nat), j < fu → f_X10_forgets_L51 Q FU m1 0 → f_X10_forgets_L23 Q fu m (k : Int) := by
    intro j
    induction j with
    | zero =>
      intro k m hk
      refine ⟨m, fun _ _ _ => rfl, fun i => by rw [if_neg (by omega)], fun i => by rw [if_neg (by omega)], fun Q fu hf hQ => ?_⟩
      cases fu with
      | zero => omega
      | succ fu =>
        unfold f_X10_forgets_L23
        exact ⟨⟨by omega, by omega⟩, fun _ => hQ, fun g => by omega⟩
    | succ j ih =>
      intro k m hk
      obtain ⟨m1, i1, i2, i2', i3⟩ := ih (k + 1) (sset (sset m 30 k 0) 33 k 0) (by omega)
      refine ⟨m1, fun q hq hq2 => by rw [i1 q hq hq2, sset_row _ _ _ hq2, sset_row _ _ _ hq], fun i => ?_, fun i => ?_, fun Q fu hf hQ => ?_⟩
      · rw [i2 i, sset_row _ _ _ (by decide), sset_at]
        by_cases g : i = k
        · subst g; rw [if_neg (by omega), vu_eq, if_pos ⟨Nat.le_refl _, by omega⟩]
        · rw [vu_ne _ _ g]
          by_cases g2 : k + 1 ≤ i ∧ i < 12
          · rw [if_pos g2, if_pos ⟨by omega, g2.2⟩]
          · rw [if_neg g2, if_neg (by omega)]
      · rw [i2' i, sset_at, sset_row _ _ _ (by decide)]
        by_cases g : i = k
        · subst g; rw [if_neg (by omega), vu_eq, if_pos ⟨Nat.le_refl _, by omega⟩]
        · rw [vu_ne _ _ g]
          by_cases g2 : k + 1 ≤ i ∧ i < 12
          · rw [if_pos g2, if_pos ⟨by omega, g2.2⟩]
          · rw [if_neg g2, if_neg (by omega)]
      · cases fu with
        | zero => omega
        | succ fu =>
          unfold f_X10_forgets_L23
          refine ⟨⟨by omega, by omega⟩, fun g => by omega, fun _ => ⟨by omega, by omega, fun σ1 e1 => ⟨by omega, by omega, fun σ2 e2 => ?_⟩⟩⟩
          rw [Int.toNat_natCast] at e1 e2
          rw [e2, e1]
          exact i3 Q fu (by omega) hQ
  have k3 : ∀ (j k : Nat) (m : St), k + j = 16 → ∃ m1 : St, (∀ q, q ≠ 31 → m1 q = m q) ∧ (∀ i, m1 31 i = if k ≤ i ∧ i < 16 then 0 else m 31 i) ∧ ∀ (Q : St → Prop) (fu : Nat), j < fu → Q m1 → f_X10_forgets_L51 Q fu m (k : Int) := by
    intro j
    induction j with
    | zero =>
      intro k m hk
      refine ⟨m, fun _ _ => rfl, fun i => by rw [if_neg (by omega)], fun Q fu hf hQ => ?_⟩
      cases fu with
      | zero => omega
      | succ fu =>
        unfold f_X10_forgets_L51
        exact ⟨⟨by omega, by omega⟩, fun _ => hQ, fun g => by omega⟩
    | succ j ih =>
      intro k m hk
      obtain ⟨m1, i1, i2, i3⟩ := ih (k + 1) (sset m 31 k 0) (by omega)
      refine ⟨m1, fun q hq => by rw [i1 q hq, sset_row _ _ _ hq], fun i => ?_, fun Q fu hf hQ => ?_⟩
      · rw [i2 i, sset_at]
        by_cases g : i = k
        · subst g; rw [if_neg (by omega), vu_eq, if_pos ⟨Nat.le_refl _, by omega⟩]
        · rw [vu_ne _ _ g]
          by_cases g2 : k + 1 ≤ i ∧ i < 16
          · rw [if_pos g2, if_pos ⟨by omega, g2.2⟩]
          · rw [if_neg g2, if_neg (by omega)]
      · cases fu with
        | zero => omega
        | succ fu =>
          unfold f_X10_forgets_L51
          refine ⟨⟨by omega, by omega⟩, fun g => by omega, fun _ => ⟨by omega, by omega, fun σ1 e1 => ?_⟩⟩
          rw [Int.toNat_natCast] at e1
          rw [e1]
          exact i3 Q fu (by omega) hQ
  obtain ⟨m1, a1, a2, a3⟩ := k1 100 0 m (by omega)
  obtain ⟨m2, b1, b2, b2', b3⟩ := k2 12 0 m1 (by omega)
  obtain ⟨m3, d1, d2, d3⟩ := k3 16 0 m2 (by omega)
  refine ⟨m3, fun q p1 p2 p3 p4 => by rw [d1 q p3, b1 q p2 p4, a1 q p1], fun i hi => ?_, fun i hi => ?_, fun i hi => ?_, fun i hi => ?_, fun Q hQ => ?_⟩
  · rw [d1 29 (by decide), b1 29 (by decide) (by decide), a2 i, if_pos ⟨Nat.zero_le _, hi⟩]
  · rw [d1 30 (by decide), b2 i, if_pos ⟨Nat.zero_le _, hi⟩]
  · rw [d1 33 (by decide), b2' i, if_pos ⟨Nat.zero_le _, hi⟩]
  · rw [d2 i, if_pos ⟨Nat.zero_le _, hi⟩]
  · exact a3 Q FU (by show 100 < 100000; decide) (b3 Q FU (by show 12 < 100000; decide) (d3 Q FU (by show 16 < 100000; decide) hQ))
/-- both explore -/
theorem J_explore {D N S B nd ck ts tm H lim : Nat} {c m : St} {φ : Nat → Nat} {e : Nat → Int} (hD : D = 2 ∨ D = 20) (h : SRx D c m φ e N S B nd ck ts tm) (hH : HM c D ck H) (hHc : H < 2 ^ ck) (hX : BX m) (hl1 : 1 ≤ lim) (hl : lim ≤ 300) : ∃ c1 m1 : St, (∀ q, q < 52 ∨ 64 < q → c1 q = c q) ∧ (∀ q, q ≠ 0 → q ≠ 26 → q ≠ 28 → q < 29 ∨ 35 < q → m1 q = m q) ∧ (∀ i, i < 31 → m1 26 i = m 26 i) ∧ (∀ i, i ≠ 44 → i ≠ 48 → i ≠ 49 → i ≠ 51 → i ≠ 52 → i ≠ 53 → i ≠ 54 → m1 0 i = m 0 i) ∧ m1 0 44 = 0 ∧ BX m1 ∧ EXPL c1 m1 nd ck H ∧ c1 52 5 = m1 0 51 ∧ inR (m1 0 51) ∧ (∀ Q : St → Prop, Q c1 → f_X1_search D (lim : Int) c Q) ∧ ∀ Q : St → Int → Prop, Q m1 (m1 0 51) → f_X10_explore_L37 Q FU m (lim : Int) 0 := by
  -- the class begins
  obtain ⟨ca, f1, f2, f3, f4, f5, f6, f7, f8, f9⟩ := t_xforget (c := c) (D := D)
  obtain ⟨cb, hcb⟩ : ∃ cb : St, cb = sset (sset ca 52 1 1) 52 3 (lim : Int) := ⟨_, rfl⟩
  have cbr : ∀ q, q ≠ 52 → cb q = ca q := fun q hq => by rw [hcb, sset_row _ _ _ hq, sset_row _ _ _ hq]
  have cb52 : ∀ i, i ≠ 1 → i ≠ 3 → cb 52 i = ca 52 i := fun i a b => by rw [hcb, sset_place _ _ _ b, sset_place _ _ _ a]
  have cb1 : cb 52 1 = 1 := by rw [hcb, sset_place _ _ _ (by decide), sset_self]
  have cb3 : cb 52 3 = (lim : Int) := by rw [hcb, sset_self]
  -- the reference begins
  have k1 : ∀ (j k : Nat) (m : St), k + j = 31 → ∃ m1 : St, (∀ q, q ≠ 28 → m1 q = m q) ∧ (∀ i, m1 28 i = if k ≤ i ∧ i < 31 then m 26 i else m 28 i) ∧ ∀ (Q : St → Int → Prop) (fu : Nat), j < fu → f_X10_explore_L37 Q 1 m1 (lim : Int) 31 → f_X10_explore_L37 Q fu m (lim : Int) (k : Int) := by
    intro j
    induction j with
    | zero =>
      intro k m hk
      refine ⟨m, fun _ _ => rfl, fun i => by rw [if_neg (by omega)], fun Q fu hf hQ => ?_⟩
      cases fu with
      | zero => omega
      | succ fu =>
        rw [show k = 31 by omega]
        unfold f_X10_explore_L37 at hQ ⊢
        exact ⟨hQ.1, hQ.2.1, fun u => by omega⟩
    | succ j ih =>
      intro k m hk
      obtain ⟨m1, i1, i2, i3⟩ := ih (k + 1) (sset m 28 k (m 26 k)) (by omega)
      refine ⟨m1, fun q hq => by rw [i1 q hq, sset_row _ _ _ hq], fun i => ?_, fun Q fu hf hQ => ?_⟩
      · rw [i2 i, sset_at, sset_row _ _ _ (by decide)]
        by_cases g : i = k
        · subst g; rw [if_neg (by omega), vu_eq, if_pos ⟨Nat.le_refl _, by omega⟩]
        · rw [vu_ne _ _ g]
          by_cases g2 : k + 1 ≤ i ∧ i < 31
          · rw [if_pos g2, if_pos ⟨by omega, g2.2⟩]
          · rw [if_neg g2, if_neg (by omega)]
      · cases fu with
        | zero => omega
        | succ fu =>
          unfold f_X10_explore_L37
          refine ⟨⟨by omega, by omega⟩, fun g => by omega, fun _ => ⟨by omega, by omega, by omega, by omega, fun σ1 e1 => ?_⟩⟩
          rw [Int.toNat_natCast] at e1
          rw [e1]
          exact i3 Q fu (by omega) hQ
  obtain ⟨m2, a1, a2, a3⟩ := k1 31 0 m (by omega)
  obtain ⟨m3, b1, b2, b3, b4, b5, b6⟩ := r_forgets (m := m2)
  obtain ⟨ma, hma⟩ : ∃ ma : St, ma = sset (sset (sset (sset m3 0 44 1) 0 51 0) 0 52 (lim : Int)) 0 54 1 := ⟨_, rfl⟩
  have mar : ∀ q, q ≠ 0 → ma q = m3 q := fun q hq => by rw [hma, sset_row _ _ _ hq, sset_row _ _ _ hq, sset_row _ _ _ hq, sset_row _ _ _ hq]
  have ma0 : ∀ i, i ≠ 44 → i ≠ 51 → i ≠ 52 → i ≠ 54 → ma 0 i = m 0 i := fun i p1 p2 p3 p4 => by rw [hma, sset_place _ _ _ p4, sset_place _ _ _ p3, sset_place _ _ _ p2, sset_place _ _ _ p1, b1 0 (by decide) (by decide) (by decide) (by decide), a1 0 (by decide)]
  have marr : ∀ q, q ≠ 0 → q ≠ 28 → q ≠ 29 → q ≠ 30 → q ≠ 31 → q ≠ 33 → ma q = m q := fun q p0 p1 p2 p3 p4 p5 => by rw [mar q p0, b1 q p2 p3 p4 p5, a1 q p1]
  have ma44 : ma 0 44 = 1 := by rw [hma]; simp [sset_ap]
  have ma51 : ma 0 51 = 0 := by rw [hma]; simp [sset_ap]
  have ma52 : ma 0 52 = (lim : Int) := by rw [hma]; simp [sset_ap]
  have ma54 : ma 0 54 = 1 := by rw [hma]; simp [sset_ap]
  have ma28 : ∀ i, i < 31 → ma 28 i = m 26 i := fun i hi => by rw [mar 28 (by decide), b1 28 (by decide) (by decide) (by decide) (by decide), a2 i, if_pos ⟨Nat.zero_le _, hi⟩]
  have hsr : SRx D cb ma φ e N S B nd ck ts tm := SRx_frame h (fun q u v => by rw [cbr q (by omega), f1 q (by omega)]) (fun q u v => marr q (by omega) (by omega) (by omega) (by omega) (by omega) (by omega)) (fun i hi => ma0 i (by omega) (by omega) (by omega) (by omega))
  have hHb : HM cb D ck H := by unfold HM at *; rw [cbr D (by omega), cbr (D + 16) (by omega), f1 D (by omega), f1 (D + 16) (by omega)]; exact hH
  have hXa : BX ma := ⟨Or.inr ma44, fun v hv => Or.inl (by rw [mar 29 (by decide)]; exact b2 v hv), fun v hv => Or.inl (by rw [mar 30 (by decide)]; exact b3 v hv), fun v hv => Or.inl (by rw [mar 31 (by decide)]; exact b5 v hv)⟩
  obtain ⟨cc, mc, ⟨t1, t2, t3, t4, t5, t6, t7, t8, t9⟩, goc, gom⟩ := J_begin (P := 61) (Or.inr rfl) hD hsr hHb hXa (fun _ => ⟨fun v hv => by rw [mar 30 (by decide)]; exact b3 v hv, fun v hv => by rw [mar 29 (by decide)]; exact b2 v hv⟩)
  have t1r : ∀ q, q < 61 ∨ 64 < q → cc q = cb q := fun q hq => t1 q (by omega) (by omega) (by omega) (by omega)
  have hsrc : SRx D cc mc φ e N S B nd ck ts tm := SRx_frame hsr (fun q a b => t1r q (by omega)) (fun q a b => t2.1 q (by omega) (by omega) (by omega) (by omega) (by omega)) (fun i hi => t2.2.1 i (by omega) (by omega))
  have hHcc : HM cc D ck H := by unfold HM at *; rw [t1r D (by omega), t1r (D + 16) (by omega)]; exact hHb
  have mc33 : ∀ o, o < 12 → mc 33 o = 0 := fun o ho => by rw [t2.1 33 (by decide) (by decide) (by decide) (by decide) (by decide), mar 33 (by decide)]; exact b4 o ho
  have mc0 : ∀ i, i ≠ 48 → i ≠ 49 → mc 0 i = ma 0 i := t2.2.1
  have hx0 : EXR cc mc nd ck H 0 lim 0 := by
    refine ⟨⟨?_, ?_, by omega, hl, ?_, ?_, ?_, ?_⟩, fun s hs => absurd hs (by omega), fun o ho => ⟨?_, ?_, ?_, fun _ => ?_, fun u => absurd (mc33 o ho) u⟩⟩
    · rw [t1r 52 (by omega), cb52 5 (by decide) (by decide), f5]; rfl
    · rw [mc0 51 (by decide) (by decide), ma51]; rfl
    · rw [t1r 52 (by omega), cb3]
    · rw [mc0 52 (by decide) (by decide), ma52]
    · rw [t1r 52 (by omega), cb52 2 (by decide) (by decide), f3, mc0 54 (by decide) (by decide), ma54]
    · rw [mc0 54 (by decide) (by decide), ma54]; exact Or.inr rfl
    · rw [mc33 o ho]; omega
    · rw [mc33 o ho]; omega
    · rw [mc33 o ho, t1r 57 (by omega), cbr 57 (by decide)]; exact f6 o ho
    · rw [t1r 60 (by omega), cbr 60 (by decide)]; exact f7 o ho
  have ck16 : ck ≤ 16 := h.1.2.2.2.2.2.2.2.2.2.2.2.2.2.1
  have he0 : EOP cc mc ck := by
    refine ⟨0, by decide, by rw [t1r 52 (by omega), cb52 4 (by decide) (by decide), f4]; rfl, fun i hi => ?_⟩
    rw [t9 (by rw [ma44]; decide) i hi, mar 31 (by decide), b5 i (by omega), Nat.zero_testBit]
    rfl
  obtain ⟨cd, md, nn, p0, p1, p2, p3, p4, p5, p6, p32, p7, p8⟩ := J_note (fr := -1) (tk := -1) (by_ := 0) hD hsrc hHcc hHc t3 ⟨t6, t7⟩ t8 hx0 (by decide) he0 (Or.inl ⟨rfl, rfl, rfl⟩)
  have xr : XR cd md D φ e N S B nd ck ts tm H lim nn 1 := by
    refine ⟨?_, ?_, ?_, ?_, ?_, ?_, ?_, p6, ?_⟩
    · exact SRx_frame hsrc (fun q a b => p1 q (by omega)) (fun q a b => p3 q (by omega) (by omega)) (fun i hi => p4 i (by omega) (by omega))
    · unfold HM at *; rw [p1 D (by omega), p1 (D + 16) (by omega)]; exact hHcc
    · exact BX_same t4 (p4 44 (by decide) (by decide)) (p3 29 (by decide) (by decide)) (p3 30 (by decide) (by decide)) (p3 31 (by decide) (by decide))
    · rw [p4 44 (by decide) (by decide), mc0 44 (by decide) (by decide), ma44]
    · exact PWz_frame (PW_z t3) (by rw [p1 61 (by omega)]) (by rw [p1 61 (by omega)]) (p1 _ (by omega)) (p1 _ (by omega)) (p1 _ (by omega)) (p3 26 (by decide) (by decide)) (p3 29 (by decide) (by decide)) (p3 30 (by decide) (by decide)) (p4 44 (by decide) (by decide))
    · rw [p3 26 (by decide) (by decide)]; omega
    · exact p5
    · rw [p2, t1r 52 (by omega), cb1]
  obtain ⟨ce, me, n1, F1, q0, q1, q2, q3, q4⟩ := X_outer hD hHc 300 0 nn 1 cd md (by omega) (by omega) (by omega) xr
  obtain ⟨v1, v2, v3, v4, v5, v6, v7, v8, v9⟩ := q1
  -- the end
  have k2 : ∀ (j k : Nat) (m : St), k + j = 31 → ∃ m1 : St, (∀ q, q ≠ 26 → m1 q = m q) ∧ (∀ i, m1 26 i = if k ≤ i ∧ i < 31 then m 28 i else m 26 i) ∧ ∀ (Q : St → Int → Prop) (fu : Nat), j < fu → Q m1 (m1 0 51) → f_X10_explore_L176 Q fu m (k : Int) := by
    intro j
    induction j with
    | zero =>
      intro k m hk
      refine ⟨m, fun _ _ => rfl, fun i => by rw [if_neg (by omega)], fun Q fu hf hQ => ?_⟩
      cases fu with
      | zero => omega
      | succ fu =>
        unfold f_X10_explore_L176
        exact ⟨⟨by omega, by omega⟩, fun _ => hQ, fun g => by omega⟩
    | succ j ih =>
      intro k m hk
      obtain ⟨m1, i1, i2, i3⟩ := ih (k + 1) (sset m 26 k (m 28 k)) (by omega)
      refine ⟨m1, fun q hq => by rw [i1 q hq, sset_row _ _ _ hq], fun i => ?_, fun Q fu hf hQ => ?_⟩
      · rw [i2 i, sset_at, sset_row _ _ _ (by decide)]
        by_cases g : i = k
        · subst g; rw [if_neg (by omega), vu_eq, if_pos ⟨Nat.le_refl _, by omega⟩]
        · rw [vu_ne _ _ g]
          by_cases g2 : k + 1 ≤ i ∧ i < 31
          · rw [if_pos g2, if_pos ⟨by omega, g2.2⟩]
          · rw [if_neg g2, if_neg (by omega)]
      · cases fu with
        | zero => omega
        | succ fu =>
          unfold f_X10_explore_L176
          refine ⟨⟨by omega, by omega⟩, fun g => by omega, fun _ => ⟨by omega, by omega, by omega, by omega, fun σ1 e1 => ?_⟩⟩
          rw [Int.toNat_natCast] at e1
          rw [e1]
          exact i3 Q fu (by omega) hQ
  obtain ⟨m1, w1, w2, w3⟩ := k2 31 0 (sset (sset me 0 44 0) 0 53 1) (by omega)
  have mr : ∀ q, q ≠ 0 → q ≠ 26 → m1 q = me q := fun q a b => by rw [w1 q b, sset_row _ _ _ a, sset_row _ _ _ a]
  have mz : ∀ i, i ≠ 44 → i ≠ 53 → m1 0 i = me 0 i := fun i a b => by rw [w1 0 (by decide), sset_place _ _ _ b, sset_place _ _ _ a]
  have m44 : m1 0 44 = 0 := by rw [w1 0 (by decide), sset_place _ _ _ (by decide), sset_self]
  have m53 : m1 0 53 = 1 := by rw [w1 0 (by decide), sset_self]
  refine ⟨ce, m1, fun q hq => ?_, fun q a b d f => ?_, fun i hi => ?_, fun i i1 i2 i3 i4 i5 i6 i7 => ?_, m44, ⟨Or.inl m44, ?_, ?_, ?_⟩, Or.inr ⟨v9, m53, ⟨n1, lim, ?_⟩, ?_, ?_⟩, ?_, ?_, fun Q hQ => ?_, fun Q hQ => ?_⟩
  · rw [q2.1 q hq, p1 q (by omega), t1r q (by omega), cbr q (by omega), f1 q hq]
  · rw [mr q a b, q2.2.1 q a b f, p3 q a (by omega), t2.1 q a b (by omega) (by omega) (by omega), marr q a d (by omega) (by omega) (by omega) (by omega)]
  · rw [w2 i, if_pos ⟨Nat.zero_le _, hi⟩, sset_row _ _ _ (by decide), sset_row _ _ _ (by decide), q2.2.1 28 (by decide) (by decide) (by decide), p3 28 (by decide) (by decide), t2.1 28 (by decide) (by decide) (by decide) (by decide) (by decide), ma28 i hi]
  · rw [mz i i1 i6, q2.2.2 i i2 i3 i4 i7, p4 i i4 i7, mc0 i i2 i3, ma0 i i1 i4 i5 i7]
  · rw [mr 29 (by decide) (by decide)]; exact v3.2.1
  · rw [mr 30 (by decide) (by decide)]; exact v3.2.2.1
  · rw [mr 31 (by decide) (by decide)]; exact v3.2.2.2
  · exact EXR_frame v7 (by omega) ⟨rfl, rfl, rfl⟩ (fun _ _ _ => rfl) (fun q a b => mr q (by omega) (by omega)) (mz 51 (by decide) (by decide)) (mz 52 (by decide) (by decide)) (mz 54 (by decide) (by decide))
  · unfold EOF at *; rw [mr 31 (by decide) (by decide)]; exact v8
  · obtain ⟨-, -, -, -, E, x1, x2, x3⟩ := v5
    obtain ⟨x4, x5⟩ := x3 (by rw [v4]; decide)
    exact ⟨E, x1, x2, fun v hv => by rw [mr 30 (by decide) (by decide)]; exact x4 v hv, fun v hv => by rw [mr 29 (by decide) (by decide)]; exact x5 v hv⟩
  · rw [mz 51 (by decide) (by decide), v7.1.1, v7.1.2.1]
  · rw [mz 51 (by decide) (by decide), v7.1.2.1]
    have := v7.1.2.2.1
    have := v7.1.2.2.2.1
    exact ⟨by omega, by omega⟩
  · unfold f_X1_search f_JM_min
    refine f9 _ ?_
    intro σ2 e2
    refine ⟨⟨by omega, by omega⟩, ⟨by decide, by decide⟩, fun u => by omega, fun _ σ4 e4 => ?_⟩
    have es : σ4 = cb := by rw [e4, e2, hcb]
    rw [es]
    exact goc _ (p7 _ (q3 Q FU (by show 300 < 100000; decide) hQ))
  · refine a3 Q FU (by show 31 < 100000; decide) ?_
    unfold f_X10_explore_L37
    refine ⟨⟨by decide, by decide⟩, fun _ => b6 _ ?_, fun u => absurd (by decide) u⟩
    intro σ2 e2 σ3 e3 σ4 e4 σ5 e5
    have es : σ5 = ma := by rw [e5, e4, e3, e2, hma]
    rw [es]
    exact gom _ (p8 _ (q4 Q FU (by show 300 < 100000; decide) (w3 Q FU (by show 31 < 100000; decide) hQ)))
